/-! contracts: X6_speak, X6_buy, X6_carry, X6_undo, X6_hushes, X6_hush, X6_hushAll, X6_hushOne, X6_save -/
theorem uX6_speak_X6 : ∀ w ∈ wsX60, w ∈ wsX6_speak := fun w h => List.mem_cons_of_mem _ (List.mem_append_right _ h)
set_option maxHeartbeats 4000000 in
set_option maxRecDepth 100000 in
theorem c_X6_speak (l : Launch) (D : va_G) (cI cC cL cB : ClassId) (sz : Nat) (h : Nat) (h_piece : Nat) (h_deed : Nat) (h_st : Nat) (h_was : Nat) (h_kept : Nat) (h_seen : Nat) (h_text : Nat) (h_told : Nat) (h_readPiece : Nat) (h_readRoom : Nat) (h_readDeed : Nat) (h_now : Nat) (a1 : Int32) (h_pieces : Int32) (h_deeds : Int32) (h_law : Int32) (h_acts : Int32) (h_keeps : Int32) (h_seens : Int32) (h_texted : Int32) (h_at : Int32) (h_readPieces : Int32) (h_readDeeds : Int32) (h_readCoins : Int32) (h_readLaw : Int32) (h_st_c : Nat → Int32) (h_now_c : Nat → Int32) (h_piece_c : Nat → Int32) (h_was_c : Nat → Int32) (h_deed_c : Nat → Int32) (r : Int32) (o0 : Int32) (o1 : Nat → Int32) (o2 : Nat → Int32) (o3 : Nat → Int32) (hf : m_X6_speak a1 h_pieces h_deeds h_law h_acts h_st_c h_now_c h_piece_c h_was_c h_deed_c = some (r, o0, o1, o2, o3)) : Met l yX6_speak wsX6_speak ({ frames := 4, cells := 0, slots := 0, locals := 92 }) (va_Pc [.ref h, .int a1] (q_W D vwCl (tyL cI cC cL cB) [(h, .inr (6, [.int h_pieces, .ref h_piece, .int h_deeds, .ref h_deed, .int h_law, .ref h_st, .int h_acts, .ref h_was, .int h_keeps, .ref h_kept, .int h_seens, .ref h_seen, .ref h_text, .int h_texted, .int h_at, .ref h_told, .int h_readPieces, .ref h_readPiece, .ref h_readRoom, .int h_readDeeds, .ref h_readDeed, .int h_readCoins, .int h_readLaw, .ref h_now])), (h_st, .inl (cI, 18, .inl h_st_c)), (h_now, .inl (cI, 18, .inl h_now_c)), (h_piece, .inl (cI, 16, .inl h_piece_c)), (h_was, .inl (cI, 144, .inl h_was_c)), (h_deed, .inl (cI, 40, .inl h_deed_c))] sz)) (va_Qi (fun r' _ => r' = r) (q_E D vwCl (tyL cI cC cL cB) (va_A [(h, .inr (6, [.int h_pieces, .ref h_piece, .int h_deeds, .ref h_deed, .int h_law, .ref h_st, .int h_acts, .ref h_was, .int h_keeps, .ref h_kept, .int h_seens, .ref h_seen, .ref h_text, .int h_texted, .int h_at, .ref h_told, .int h_readPieces, .ref h_readPiece, .ref h_readRoom, .int h_readDeeds, .ref h_readDeed, .int h_readCoins, .int h_readLaw, .ref h_now])), (h_st, .inl (cI, 18, .inl h_st_c)), (h_now, .inl (cI, 18, .inl h_now_c)), (h_piece, .inl (cI, 16, .inl h_piece_c)), (h_was, .inl (cI, 144, .inl h_was_c)), (h_deed, .inl (cI, 40, .inl h_deed_c))] sz) [(h, .inr (6, [.int h_pieces, .ref h_piece, .int h_deeds, .ref h_deed, .int h_law, .ref h_st, .int o0, .ref h_was, .int h_keeps, .ref h_kept, .int h_seens, .ref h_seen, .ref h_text, .int h_texted, .int h_at, .ref h_told, .int h_readPieces, .ref h_readPiece, .ref h_readRoom, .int h_readDeeds, .ref h_readDeed, .int h_readCoins, .int h_readLaw, .ref h_now])), (h_st, .inl (cI, 18, .inl o1)), (h_now, .inl (cI, 18, .inl o2)), (h_piece, .inl (cI, 16, .inl h_piece_c)), (h_was, .inl (cI, 144, .inl o3)), (h_deed, .inl (cI, 40, .inl h_deed_c))]) (va_A [(h, .inr (6, [.int h_pieces, .ref h_piece, .int h_deeds, .ref h_deed, .int h_law, .ref h_st, .int h_acts, .ref h_was, .int h_keeps, .ref h_kept, .int h_seens, .ref h_seen, .ref h_text, .int h_texted, .int h_at, .ref h_told, .int h_readPieces, .ref h_readPiece, .ref h_readRoom, .int h_readDeeds, .ref h_readDeed, .int h_readCoins, .int h_readLaw, .ref h_now])), (h_st, .inl (cI, 18, .inl h_st_c)), (h_now, .inl (cI, 18, .inl h_now_c)), (h_piece, .inl (cI, 16, .inl h_piece_c)), (h_was, .inl (cI, 144, .inl h_was_c)), (h_deed, .inl (cI, 40, .inl h_deed_c))] sz)) 0 0 (va_A [(h, .inr (6, [.int h_pieces, .ref h_piece, .int h_deeds, .ref h_deed, .int h_law, .ref h_st, .int h_acts, .ref h_was, .int h_keeps, .ref h_kept, .int h_seens, .ref h_seen, .ref h_text, .int h_texted, .int h_at, .ref h_told, .int h_readPieces, .ref h_readPiece, .ref h_readRoom, .int h_readDeeds, .ref h_readDeed, .int h_readCoins, .int h_readLaw, .ref h_now])), (h_st, .inl (cI, 18, .inl h_st_c)), (h_now, .inl (cI, 18, .inl h_now_c)), (h_piece, .inl (cI, 16, .inl h_piece_c)), (h_was, .inl (cI, 144, .inl h_was_c)), (h_deed, .inl (cI, 40, .inl h_deed_c))] sz) := by
  refine Met.ofW (cc := cX6_speak) (maxL := 3) (ret := (some .int)) (by decide) rfl ?_
  intro p e s m args below meth c s₁ B hml hv
  obtain ⟨rfl, hsz, hP, hK, hD0⟩ := hv
  have hx := B.exec
  have hb := B.bytes
  have hr := B.returns
  have hts := atoms_spec (ws := wsX6_speak) B.pre
  have hown : s.vm.findClass RX6 = some m.cls := findClass_of_methodNamed B.named
  have hlocks := B.notSynchronized
  subst hsz
  have hD := hD0.self (sz := s.heap.size)
  generalize hAe : va_A [(h, .inr (6, [.int h_pieces, .ref h_piece, .int h_deeds, .ref h_deed, .int h_law, .ref h_st, .int h_acts, .ref h_was, .int h_keeps, .ref h_kept, .int h_seens, .ref h_seen, .ref h_text, .int h_texted, .int h_at, .ref h_told, .int h_readPieces, .ref h_readPiece, .ref h_readRoom, .int h_readDeeds, .ref h_readDeed, .int h_readCoins, .int h_readLaw, .ref h_now])), (h_st, .inl (cI, 18, .inl h_st_c)), (h_now, .inl (cI, 18, .inl h_now_c)), (h_piece, .inl (cI, 16, .inl h_piece_c)), (h_was, .inl (cI, 144, .inl h_was_c)), (h_deed, .inl (cI, 40, .inl h_deed_c))] s.heap.size = A at hD ⊢
  have hA : ∀ q : Nat, s.heap.size ≤ q → A q := fun q h => by rw [← hAe]; exact Or.inr h
  have hS : va_S A s.heap s.heap [] := va_S.rf
  have hP : va_P D vwCl [(h, .inr (6, [.int h_pieces, .ref h_piece, .int h_deeds, .ref h_deed, .int h_law, .ref h_st, .int h_acts, .ref h_was, .int h_keeps, .ref h_kept, .int h_seens, .ref h_seen, .ref h_text, .int h_texted, .int h_at, .ref h_told, .int h_readPieces, .ref h_readPiece, .ref h_readRoom, .int h_readDeeds, .ref h_readDeed, .int h_readCoins, .int h_readLaw, .ref h_now])), (h_st, .inl (cI, 18, .inl h_st_c)), (h_now, .inl (cI, 18, .inl h_now_c)), (h_piece, .inl (cI, 16, .inl h_piece_c)), (h_was, .inl (cI, 144, .inl h_was_c)), (h_deed, .inl (cI, 40, .inl h_deed_c))] s.heap := hP
  have hl := lv_entry ([.ref h, .int a1]) (n := 3) (Nat.le_of_ble_eq_true rfl)
  rw [lg_entry_eq]
  generalize (lg_sl ([.ref h, .int a1]) ++ List.replicate (3 - (lg_sl ([.ref h, .int a1])).length) Slot.unset).toArray = ls at hl ⊢
  have hl : lv_has ls 3 [(0, .ref h), (1, .int a1)] := hl
  unfold m_X6_speak at hf
  refine lv_aload_n hx hb dX6_speak_0 rfl (lv_at hl 0 rfl) ?_
  refine lv_iload_n hx hb dX6_speak_1 rfl (lv_at hl 1 rfl) ?_
  obtain ⟨x1, hv_1, hf⟩ := ob1_some hf
  refine q_rVi (As := [.int a1]) (rest := []) (r := x1) ⟨hx, hb, hml, hown, hts⟩ (c_X6_isPiece l D cI cC cL cB h h_piece h_deed h_st h_was h_kept h_seen h_text h_told h_readPiece h_readRoom h_readDeed h_now a1 h_pieces h_deeds h_law h_acts h_keeps h_seens h_texted h_at h_readPieces h_readDeeds h_readCoins h_readLaw x1 hv_1) (cwV 1 hts gX6_speak_X6_isPiece rfl rfl rfl (by decide +kernel) ⟨Nat.le_of_ble_eq_true rfl, Nat.le_of_ble_eq_true rfl⟩) hK hP [0] rfl (va_recv hK hP (ci := 6) (q0 := 0) rfl rfl) rfl hl.1 rfl (Nat.le_of_ble_eq_true rfl) dX6_speak_2 ⟨Nat.le_of_ble_eq_true rfl, Nat.le_of_ble_eq_true rfl⟩ ?_
  refine lv_if_ne (tgt := 10) hx hb dX6_speak_5 (by decide) (fun c_2 => ?_) (fun c_2 => ?_)
  · have hf := im c_2 hf
    refine lv_aload_n hx hb dX6_speak_10 rfl (lv_at hl 0 rfl) ?_
    obtain ⟨c2, hv_3, hf⟩ := ob1_some hf
    refine q_wVv (As := []) (rest := []) (w1 := [(h, .inr (6, [.int h_pieces, .ref h_piece, .int h_deeds, .ref h_deed, .int h_law, .ref h_st, .int h_acts, .ref h_was, .int h_keeps, .ref h_kept, .int h_seens, .ref h_seen, .ref h_text, .int h_texted, .int h_at, .ref h_told, .int h_readPieces, .ref h_readPiece, .ref h_readRoom, .int h_readDeeds, .ref h_readDeed, .int h_readCoins, .int h_readLaw, .ref h_now])), (h_st, .inl (cI, 18, .inl h_st_c)), (h_now, .inl (cI, 18, .inl c2))]) (wr := [(h_piece, .inl (cI, 16, .inl h_piece_c)), (h_was, .inl (cI, 144, .inl h_was_c)), (h_deed, .inl (cI, 40, .inl h_deed_c))]) (w2 := [(h, .inr (6, [.int h_pieces, .ref h_piece, .int h_deeds, .ref h_deed, .int h_law, .ref h_st, .int h_acts, .ref h_was, .int h_keeps, .ref h_kept, .int h_seens, .ref h_seen, .ref h_text, .int h_texted, .int h_at, .ref h_told, .int h_readPieces, .ref h_readPiece, .ref h_readRoom, .int h_readDeeds, .ref h_readDeed, .int h_readCoins, .int h_readLaw, .ref h_now])), (h_st, .inl (cI, 18, .inl h_st_c)), (h_now, .inl (cI, 18, .inl c2)), (h_piece, .inl (cI, 16, .inl h_piece_c)), (h_was, .inl (cI, 144, .inl h_was_c)), (h_deed, .inl (cI, 40, .inl h_deed_c))]) ⟨hx, hb, hml, hown, hts⟩ (c_X6_asItIs l D cI cC cL cB s.heap.size h h_piece h_deed h_st h_was h_kept h_seen h_text h_told h_readPiece h_readRoom h_readDeed h_now h_pieces h_deeds h_law h_acts h_keeps h_seens h_texted h_at h_readPieces h_readDeeds h_readCoins h_readLaw h_st_c h_now_c c2 hv_3) (cwV 0 hts gX6_speak_X6_asItIs rfl rfl rfl (by decide +kernel) ⟨Nat.le_of_ble_eq_true rfl, Nat.le_of_ble_eq_true rfl⟩) hK hP hD hS hA [0, 1, 2] rfl (by decide) [3, 4, 5] rfl (by decide) (by decide) [3, 4, 5, 0, 1, 2] rfl (by decide) (va_recv hK hP (ci := 6) (q0 := 0) rfl rfl) rfl hl.1 rfl (Nat.le_of_ble_eq_true rfl) dX6_speak_11 ⟨Nat.le_of_ble_eq_true rfl, Nat.le_of_ble_eq_true rfl⟩ (fun H locs hP hD hS => ?_)
    have hP : va_P D vwCl [(h, .inr (6, [.int h_pieces, .ref h_piece, .int h_deeds, .ref h_deed, .int h_law, .ref h_st, .int h_acts, .ref h_was, .int h_keeps, .ref h_kept, .int h_seens, .ref h_seen, .ref h_text, .int h_texted, .int h_at, .ref h_told, .int h_readPieces, .ref h_readPiece, .ref h_readRoom, .int h_readDeeds, .ref h_readDeed, .int h_readCoins, .int h_readLaw, .ref h_now])), (h_st, .inl (cI, 18, .inl h_st_c)), (h_now, .inl (cI, 18, .inl c2)), (h_piece, .inl (cI, 16, .inl h_piece_c)), (h_was, .inl (cI, 144, .inl h_was_c)), (h_deed, .inl (cI, 40, .inl h_deed_c))] H := hP
    have hD : va_D A [(h, .inr (6, [.int h_pieces, .ref h_piece, .int h_deeds, .ref h_deed, .int h_law, .ref h_st, .int h_acts, .ref h_was, .int h_keeps, .ref h_kept, .int h_seens, .ref h_seen, .ref h_text, .int h_texted, .int h_at, .ref h_told, .int h_readPieces, .ref h_readPiece, .ref h_readRoom, .int h_readDeeds, .ref h_readDeed, .int h_readCoins, .int h_readLaw, .ref h_now])), (h_st, .inl (cI, 18, .inl h_st_c)), (h_now, .inl (cI, 18, .inl c2)), (h_piece, .inl (cI, 16, .inl h_piece_c)), (h_was, .inl (cI, 144, .inl h_was_c)), (h_deed, .inl (cI, 40, .inl h_deed_c))] := hD
    refine lv_aload_n hx hb dX6_speak_14 rfl (lv_at hl 0 rfl) ?_
    refine lv_iload_n hx hb dX6_speak_15 rfl (lv_at hl 1 rfl) ?_
    obtain ⟨x3, hv_4, hf⟩ := ob1_some hf
    refine q_rVi (As := [.int a1]) (rest := []) (r := x3) ⟨hx, hb, hml, hown, hts⟩ (c_X6_isLoose l D cI cC cL cB h h_piece h_deed h_st h_was h_kept h_seen h_text h_told h_readPiece h_readRoom h_readDeed h_now a1 h_pieces h_deeds h_law h_acts h_keeps h_seens h_texted h_at h_readPieces h_readDeeds h_readCoins h_readLaw c2 h_piece_c x3 hv_4) (cwV 1 hts gX6_speak_X6_isLoose rfl rfl rfl (by decide +kernel) ⟨Nat.le_of_ble_eq_true rfl, Nat.le_of_ble_eq_true rfl⟩) hK hP [0, 2, 3] rfl (va_recv hK hP (ci := 6) (q0 := 0) rfl rfl) rfl hl.1 rfl (Nat.le_of_ble_eq_true rfl) dX6_speak_16 ⟨Nat.le_of_ble_eq_true rfl, Nat.le_of_ble_eq_true rfl⟩ ?_
    refine lv_if_ne (tgt := 25) hx hb dX6_speak_19 (by decide) (fun c_5 => ?_) (fun c_5 => ?_)
    · have hf := im c_5 hf
      refine lv_aload_n hx hb dX6_speak_25 rfl (lv_at hl 0 rfl) ?_
      obtain ⟨f4, c5, hv_6, hf⟩ := ob2_some hf
      refine q_wVv (As := []) (rest := []) (w1 := [(h, .inr (6, [.int h_pieces, .ref h_piece, .int h_deeds, .ref h_deed, .int h_law, .ref h_st, .int f4, .ref h_was, .int h_keeps, .ref h_kept, .int h_seens, .ref h_seen, .ref h_text, .int h_texted, .int h_at, .ref h_told, .int h_readPieces, .ref h_readPiece, .ref h_readRoom, .int h_readDeeds, .ref h_readDeed, .int h_readCoins, .int h_readLaw, .ref h_now])), (h_was, .inl (cI, 144, .inl c5)), (h_st, .inl (cI, 18, .inl h_st_c))]) (wr := [(h_now, .inl (cI, 18, .inl c2)), (h_piece, .inl (cI, 16, .inl h_piece_c)), (h_deed, .inl (cI, 40, .inl h_deed_c))]) (w2 := [(h, .inr (6, [.int h_pieces, .ref h_piece, .int h_deeds, .ref h_deed, .int h_law, .ref h_st, .int f4, .ref h_was, .int h_keeps, .ref h_kept, .int h_seens, .ref h_seen, .ref h_text, .int h_texted, .int h_at, .ref h_told, .int h_readPieces, .ref h_readPiece, .ref h_readRoom, .int h_readDeeds, .ref h_readDeed, .int h_readCoins, .int h_readLaw, .ref h_now])), (h_st, .inl (cI, 18, .inl h_st_c)), (h_now, .inl (cI, 18, .inl c2)), (h_piece, .inl (cI, 16, .inl h_piece_c)), (h_was, .inl (cI, 144, .inl c5)), (h_deed, .inl (cI, 40, .inl h_deed_c))]) ⟨hx, hb, hml, hown, hts⟩ (c_X6_remembers l D cI cC cL cB H.size h h_piece h_deed h_st h_was h_kept h_seen h_text h_told h_readPiece h_readRoom h_readDeed h_now h_pieces h_deeds h_law h_acts h_keeps h_seens h_texted h_at h_readPieces h_readDeeds h_readCoins h_readLaw h_was_c h_st_c f4 c5 hv_6) (cwV 0 hts gX6_speak_X6_remembers rfl rfl rfl (by decide +kernel) ⟨Nat.le_of_ble_eq_true rfl, Nat.le_of_ble_eq_true rfl⟩) hK hP hD hS hA [0, 4, 1] rfl (by decide) [2, 3, 5] rfl (by decide) (by decide) [3, 5, 0, 1, 4, 2] rfl (by decide) (va_recv hK hP (ci := 6) (q0 := 0) rfl rfl) rfl hl.1 rfl (Nat.le_of_ble_eq_true rfl) dX6_speak_26 ⟨Nat.le_of_ble_eq_true rfl, Nat.le_of_ble_eq_true rfl⟩ (fun H locs hP hD hS => ?_)
      have hP : va_P D vwCl [(h, .inr (6, [.int h_pieces, .ref h_piece, .int h_deeds, .ref h_deed, .int h_law, .ref h_st, .int f4, .ref h_was, .int h_keeps, .ref h_kept, .int h_seens, .ref h_seen, .ref h_text, .int h_texted, .int h_at, .ref h_told, .int h_readPieces, .ref h_readPiece, .ref h_readRoom, .int h_readDeeds, .ref h_readDeed, .int h_readCoins, .int h_readLaw, .ref h_now])), (h_st, .inl (cI, 18, .inl h_st_c)), (h_now, .inl (cI, 18, .inl c2)), (h_piece, .inl (cI, 16, .inl h_piece_c)), (h_was, .inl (cI, 144, .inl c5)), (h_deed, .inl (cI, 40, .inl h_deed_c))] H := hP
      have hD : va_D A [(h, .inr (6, [.int h_pieces, .ref h_piece, .int h_deeds, .ref h_deed, .int h_law, .ref h_st, .int f4, .ref h_was, .int h_keeps, .ref h_kept, .int h_seens, .ref h_seen, .ref h_text, .int h_texted, .int h_at, .ref h_told, .int h_readPieces, .ref h_readPiece, .ref h_readRoom, .int h_readDeeds, .ref h_readDeed, .int h_readCoins, .int h_readLaw, .ref h_now])), (h_st, .inl (cI, 18, .inl h_st_c)), (h_now, .inl (cI, 18, .inl c2)), (h_piece, .inl (cI, 16, .inl h_piece_c)), (h_was, .inl (cI, 144, .inl c5)), (h_deed, .inl (cI, 40, .inl h_deed_c))] := hD
      refine lv_aload_n hx hb dX6_speak_29 rfl (lv_at hl 0 rfl) ?_
      refine lv_iload_n hx hb dX6_speak_30 rfl (lv_at hl 1 rfl) ?_
      obtain ⟨x6, hv_7, hf⟩ := ob1_some hf
      refine q_rVi (As := [.int a1]) (rest := []) (r := x6) ⟨hx, hb, hml, hown, hts⟩ (c_X6_toldBy l D cI cC cL cB h h_piece h_deed h_st h_was h_kept h_seen h_text h_told h_readPiece h_readRoom h_readDeed h_now a1 h_pieces h_deeds h_law f4 h_keeps h_seens h_texted h_at h_readPieces h_readDeeds h_readCoins h_readLaw h_deed_c c2 h_piece_c x6 hv_7) (cwV 1 hts gX6_speak_X6_toldBy rfl rfl rfl (by decide +kernel) ⟨Nat.le_of_ble_eq_true rfl, Nat.le_of_ble_eq_true rfl⟩) hK hP [0, 5, 2, 3] rfl (va_recv hK hP (ci := 6) (q0 := 0) rfl rfl) rfl hl.1 rfl (Nat.le_of_ble_eq_true rfl) dX6_speak_31 ⟨Nat.le_of_ble_eq_true rfl, Nat.le_of_ble_eq_true rfl⟩ ?_
      refine lv_aload_n hx hb dX6_speak_34 rfl (lv_at hl 0 rfl) ?_
      refine va_get (D := D) (ci := 6) (v := .ref h_st) (C := RX6) (T := TX6) (N := 24) hx hb hts uX6_speak_X6 hown hK hP 0 rfl rfl 5 (by decide) (hts (.fieldLink RX6 16 "SpeaksForTheChairModel" "st" "[I") (List.mem_of_getElem? (i := 1) rfl)) (fun _ h9 => h9) rfl dX6_speak_35 ?_
      refine lv_iconst (v := 1) hx hb dX6_speak_38 (by decide) ?_
      refine va_iald hx hb hK hP 1 0 rfl rfl (okI_in (by decide)) dX6_speak_39 ?_
      refine lv_iconst (v := (-1)) hx hb dX6_speak_40 (by decide) ?_
      refine lv_ixor hx hb dX6_speak_41 ?_
      refine lv_iand hx hb dX6_speak_42 ?_
      refine lv_topi (fun x7 ex7 => ?_)
      have hf := pv_eq ex7 hf
      refine lv_istore_n (lv' := [(2, .int x7), (0, .ref h), (1, .int a1)]) hx hb dX6_speak_43 rfl hl (by decide) rfl (fun ls hl => ?_)
      refine lv_aload_n hx hb dX6_speak_44 rfl (lv_at hl 1 rfl) ?_
      refine va_get (D := D) (ci := 6) (v := .ref h_st) (C := RX6) (T := TX6) (N := 24) hx hb hts uX6_speak_X6 hown hK hP 0 rfl rfl 5 (by decide) (hts (.fieldLink RX6 16 "SpeaksForTheChairModel" "st" "[I") (List.mem_of_getElem? (i := 1) rfl)) (fun _ h9 => h9) rfl dX6_speak_45 ?_
      refine lv_iconst (v := 1) hx hb dX6_speak_48 (by decide) ?_
      refine lv_dup2_11 hx hb dX6_speak_49 rfl rfl ?_
      refine va_iald hx hb hK hP 1 0 rfl rfl (okI_in (by decide)) dX6_speak_50 ?_
      refine lv_iload_n hx hb dX6_speak_51 rfl (lv_at hl 0 rfl) ?_
      refine lv_ior hx hb dX6_speak_52 ?_
      refine va_iast hx hb hK hP hD hS 1 0 rfl rfl (okI_in (by decide)) dX6_speak_53 (fun H locs hP hD hS => ?_)
      obtain ⟨c8, ec8⟩ : ∃ y : Nat → Int32, y = (upd h_st_c (1 : Int32).toNatClampNeg ((h_st_c (1 : Int32).toNatClampNeg) ||| x7)) := ⟨_, rfl⟩
      have hf := pv_eq ec8 hf
      rw [← ec8] at hP hD
      have hP : va_P D vwCl [(h, .inr (6, [.int h_pieces, .ref h_piece, .int h_deeds, .ref h_deed, .int h_law, .ref h_st, .int f4, .ref h_was, .int h_keeps, .ref h_kept, .int h_seens, .ref h_seen, .ref h_text, .int h_texted, .int h_at, .ref h_told, .int h_readPieces, .ref h_readPiece, .ref h_readRoom, .int h_readDeeds, .ref h_readDeed, .int h_readCoins, .int h_readLaw, .ref h_now])), (h_st, .inl (cI, 18, .inl c8)), (h_now, .inl (cI, 18, .inl c2)), (h_piece, .inl (cI, 16, .inl h_piece_c)), (h_was, .inl (cI, 144, .inl c5)), (h_deed, .inl (cI, 40, .inl h_deed_c))] H := hP
      have hD : va_D A [(h, .inr (6, [.int h_pieces, .ref h_piece, .int h_deeds, .ref h_deed, .int h_law, .ref h_st, .int f4, .ref h_was, .int h_keeps, .ref h_kept, .int h_seens, .ref h_seen, .ref h_text, .int h_texted, .int h_at, .ref h_told, .int h_readPieces, .ref h_readPiece, .ref h_readRoom, .int h_readDeeds, .ref h_readDeed, .int h_readCoins, .int h_readLaw, .ref h_now])), (h_st, .inl (cI, 18, .inl c8)), (h_now, .inl (cI, 18, .inl c2)), (h_piece, .inl (cI, 16, .inl h_piece_c)), (h_was, .inl (cI, 144, .inl c5)), (h_deed, .inl (cI, 40, .inl h_deed_c))] := hD
      refine lv_aload_n hx hb dX6_speak_54 rfl (lv_at hl 1 rfl) ?_
      refine va_get (D := D) (ci := 6) (v := .ref h_st) (C := RX6) (T := TX6) (N := 24) hx hb hts uX6_speak_X6 hown hK hP 0 rfl rfl 5 (by decide) (hts (.fieldLink RX6 16 "SpeaksForTheChairModel" "st" "[I") (List.mem_of_getElem? (i := 1) rfl)) (fun _ h9 => h9) rfl dX6_speak_55 ?_
      refine lv_bipush (v := 10) hx hb dX6_speak_58 (by decide) ?_
      refine lv_iload_n hx hb dX6_speak_60 rfl (lv_at hl 2 rfl) ?_
      refine lv_iadd hx hb dX6_speak_61 ?_
      refine lv_iconst (v := 2) hx hb dX6_speak_62 (by decide) ?_
      obtain ⟨g_8, hf⟩ := gu_in hf
      refine va_iast hx hb hK hP hD hS 1 0 rfl rfl g_8 dX6_speak_63 (fun H locs hP hD hS => ?_)
      obtain ⟨c9, ec9⟩ : ∃ y : Nat → Int32, y = (upd c8 ((10 + a1) : Int32).toNatClampNeg 2) := ⟨_, rfl⟩
      have hf := pv_eq ec9 hf
      rw [← ec9] at hP hD
      have hP : va_P D vwCl [(h, .inr (6, [.int h_pieces, .ref h_piece, .int h_deeds, .ref h_deed, .int h_law, .ref h_st, .int f4, .ref h_was, .int h_keeps, .ref h_kept, .int h_seens, .ref h_seen, .ref h_text, .int h_texted, .int h_at, .ref h_told, .int h_readPieces, .ref h_readPiece, .ref h_readRoom, .int h_readDeeds, .ref h_readDeed, .int h_readCoins, .int h_readLaw, .ref h_now])), (h_st, .inl (cI, 18, .inl c9)), (h_now, .inl (cI, 18, .inl c2)), (h_piece, .inl (cI, 16, .inl h_piece_c)), (h_was, .inl (cI, 144, .inl c5)), (h_deed, .inl (cI, 40, .inl h_deed_c))] H := hP
      have hD : va_D A [(h, .inr (6, [.int h_pieces, .ref h_piece, .int h_deeds, .ref h_deed, .int h_law, .ref h_st, .int f4, .ref h_was, .int h_keeps, .ref h_kept, .int h_seens, .ref h_seen, .ref h_text, .int h_texted, .int h_at, .ref h_told, .int h_readPieces, .ref h_readPiece, .ref h_readRoom, .int h_readDeeds, .ref h_readDeed, .int h_readCoins, .int h_readLaw, .ref h_now])), (h_st, .inl (cI, 18, .inl c9)), (h_now, .inl (cI, 18, .inl c2)), (h_piece, .inl (cI, 16, .inl h_piece_c)), (h_was, .inl (cI, 144, .inl c5)), (h_deed, .inl (cI, 40, .inl h_deed_c))] := hD
      refine lv_iload_n hx hb dX6_speak_64 rfl (lv_at hl 0 rfl) ?_
      obtain ⟨x10, hv_9, hf⟩ := ob1_some hf
      refine q_rSi (As := [.int x7]) (rest := []) (r := x10) ⟨hx, hb, hml, hown, hts⟩ (c_X6_bits l D cI cC cL cB x7 x10 hv_9) (va_cwS 1 hts gX6_speak_X6_bits rfl rfl rfl (by decide +kernel) ⟨Nat.le_of_ble_eq_true rfl, Nat.le_of_ble_eq_true rfl⟩) hK hP [] rfl rfl hl.1 rfl (Nat.le_of_ble_eq_true rfl) dX6_speak_65 ⟨Nat.le_of_ble_eq_true rfl, Nat.le_of_ble_eq_true rfl⟩ ?_
      cases hf
      exact W.iret hx hb hr (fun t ht hW => ⟨⟨_, (), rfl, rfl, by rw [ht]; exact hP, va_K.moved hW.alike hK, hD⟩, hS.F ht⟩) hS.2.2 dX6_speak_68
    · have hf := ip c_5 hf
      refine lv_bipush (v := (-2)) hx hb dX6_speak_22 (by decide) ?_
      cases hf
      exact W.iret hx hb hr (fun t ht hW => ⟨⟨_, (), rfl, rfl, by rw [ht]; exact hP, va_K.moved hW.alike hK, hD⟩, hS.F ht⟩) hS.2.2 dX6_speak_24
  · have hf := ip c_2 hf
    refine lv_iconst (v := (-1)) hx hb dX6_speak_8 (by decide) ?_
    cases hf
    exact W.iret hx hb hr (fun t ht hW => ⟨⟨_, (), rfl, rfl, by rw [ht]; exact hP, va_K.moved hW.alike hK, hD⟩, hS.F ht⟩) hS.2.2 dX6_speak_9
theorem uX6_buy_X6 : ∀ w ∈ wsX60, w ∈ wsX6_buy := fun w h => List.mem_cons_of_mem _ (List.mem_append_right _ h)
set_option maxHeartbeats 4000000 in
set_option maxRecDepth 100000 in
theorem c_X6_buy (l : Launch) (D : va_G) (cI cC cL cB : ClassId) (sz : Nat) (h : Nat) (h_piece : Nat) (h_deed : Nat) (h_st : Nat) (h_was : Nat) (h_kept : Nat) (h_seen : Nat) (h_text : Nat) (h_told : Nat) (h_readPiece : Nat) (h_readRoom : Nat) (h_readDeed : Nat) (h_now : Nat) (a1 : Int32) (h_pieces : Int32) (h_deeds : Int32) (h_law : Int32) (h_acts : Int32) (h_keeps : Int32) (h_seens : Int32) (h_texted : Int32) (h_at : Int32) (h_readPieces : Int32) (h_readDeeds : Int32) (h_readCoins : Int32) (h_readLaw : Int32) (h_st_c : Nat → Int32) (h_piece_c : Nat → Int32) (h_was_c : Nat → Int32) (r : Int32) (o0 : Int32) (o1 : Nat → Int32) (o2 : Nat → Int32) (hf : m_X6_buy a1 h_pieces h_acts h_st_c h_piece_c h_was_c = some (r, o0, o1, o2)) : Met l yX6_buy wsX6_buy ({ frames := 2, cells := 0, slots := 0, locals := 46 }) (va_Pc [.ref h, .int a1] (q_W D vwCl (tyL cI cC cL cB) [(h, .inr (6, [.int h_pieces, .ref h_piece, .int h_deeds, .ref h_deed, .int h_law, .ref h_st, .int h_acts, .ref h_was, .int h_keeps, .ref h_kept, .int h_seens, .ref h_seen, .ref h_text, .int h_texted, .int h_at, .ref h_told, .int h_readPieces, .ref h_readPiece, .ref h_readRoom, .int h_readDeeds, .ref h_readDeed, .int h_readCoins, .int h_readLaw, .ref h_now])), (h_st, .inl (cI, 18, .inl h_st_c)), (h_piece, .inl (cI, 16, .inl h_piece_c)), (h_was, .inl (cI, 144, .inl h_was_c))] sz)) (va_Qi (fun r' _ => r' = r) (q_E D vwCl (tyL cI cC cL cB) (va_A [(h, .inr (6, [.int h_pieces, .ref h_piece, .int h_deeds, .ref h_deed, .int h_law, .ref h_st, .int h_acts, .ref h_was, .int h_keeps, .ref h_kept, .int h_seens, .ref h_seen, .ref h_text, .int h_texted, .int h_at, .ref h_told, .int h_readPieces, .ref h_readPiece, .ref h_readRoom, .int h_readDeeds, .ref h_readDeed, .int h_readCoins, .int h_readLaw, .ref h_now])), (h_st, .inl (cI, 18, .inl h_st_c)), (h_piece, .inl (cI, 16, .inl h_piece_c)), (h_was, .inl (cI, 144, .inl h_was_c))] sz) [(h, .inr (6, [.int h_pieces, .ref h_piece, .int h_deeds, .ref h_deed, .int h_law, .ref h_st, .int o0, .ref h_was, .int h_keeps, .ref h_kept, .int h_seens, .ref h_seen, .ref h_text, .int h_texted, .int h_at, .ref h_told, .int h_readPieces, .ref h_readPiece, .ref h_readRoom, .int h_readDeeds, .ref h_readDeed, .int h_readCoins, .int h_readLaw, .ref h_now])), (h_st, .inl (cI, 18, .inl o1)), (h_piece, .inl (cI, 16, .inl h_piece_c)), (h_was, .inl (cI, 144, .inl o2))]) (va_A [(h, .inr (6, [.int h_pieces, .ref h_piece, .int h_deeds, .ref h_deed, .int h_law, .ref h_st, .int h_acts, .ref h_was, .int h_keeps, .ref h_kept, .int h_seens, .ref h_seen, .ref h_text, .int h_texted, .int h_at, .ref h_told, .int h_readPieces, .ref h_readPiece, .ref h_readRoom, .int h_readDeeds, .ref h_readDeed, .int h_readCoins, .int h_readLaw, .ref h_now])), (h_st, .inl (cI, 18, .inl h_st_c)), (h_piece, .inl (cI, 16, .inl h_piece_c)), (h_was, .inl (cI, 144, .inl h_was_c))] sz)) 0 0 (va_A [(h, .inr (6, [.int h_pieces, .ref h_piece, .int h_deeds, .ref h_deed, .int h_law, .ref h_st, .int h_acts, .ref h_was, .int h_keeps, .ref h_kept, .int h_seens, .ref h_seen, .ref h_text, .int h_texted, .int h_at, .ref h_told, .int h_readPieces, .ref h_readPiece, .ref h_readRoom, .int h_readDeeds, .ref h_readDeed, .int h_readCoins, .int h_readLaw, .ref h_now])), (h_st, .inl (cI, 18, .inl h_st_c)), (h_piece, .inl (cI, 16, .inl h_piece_c)), (h_was, .inl (cI, 144, .inl h_was_c))] sz) := by
  refine Met.ofW (cc := cX6_buy) (maxL := 2) (ret := (some .int)) (by decide) rfl ?_
  intro p e s m args below meth c s₁ B hml hv
  obtain ⟨rfl, hsz, hP, hK, hD0⟩ := hv
  have hx := B.exec
  have hb := B.bytes
  have hr := B.returns
  have hts := atoms_spec (ws := wsX6_buy) B.pre
  have hown : s.vm.findClass RX6 = some m.cls := findClass_of_methodNamed B.named
  have hlocks := B.notSynchronized
  subst hsz
  have hD := hD0.self (sz := s.heap.size)
  generalize hAe : va_A [(h, .inr (6, [.int h_pieces, .ref h_piece, .int h_deeds, .ref h_deed, .int h_law, .ref h_st, .int h_acts, .ref h_was, .int h_keeps, .ref h_kept, .int h_seens, .ref h_seen, .ref h_text, .int h_texted, .int h_at, .ref h_told, .int h_readPieces, .ref h_readPiece, .ref h_readRoom, .int h_readDeeds, .ref h_readDeed, .int h_readCoins, .int h_readLaw, .ref h_now])), (h_st, .inl (cI, 18, .inl h_st_c)), (h_piece, .inl (cI, 16, .inl h_piece_c)), (h_was, .inl (cI, 144, .inl h_was_c))] s.heap.size = A at hD ⊢
  have hA : ∀ q : Nat, s.heap.size ≤ q → A q := fun q h => by rw [← hAe]; exact Or.inr h
  have hS : va_S A s.heap s.heap [] := va_S.rf
  have hP : va_P D vwCl [(h, .inr (6, [.int h_pieces, .ref h_piece, .int h_deeds, .ref h_deed, .int h_law, .ref h_st, .int h_acts, .ref h_was, .int h_keeps, .ref h_kept, .int h_seens, .ref h_seen, .ref h_text, .int h_texted, .int h_at, .ref h_told, .int h_readPieces, .ref h_readPiece, .ref h_readRoom, .int h_readDeeds, .ref h_readDeed, .int h_readCoins, .int h_readLaw, .ref h_now])), (h_st, .inl (cI, 18, .inl h_st_c)), (h_piece, .inl (cI, 16, .inl h_piece_c)), (h_was, .inl (cI, 144, .inl h_was_c))] s.heap := hP
  have hl := lv_entry ([.ref h, .int a1]) (n := 2) (Nat.le_of_ble_eq_true rfl)
  rw [lg_entry_eq]
  generalize (lg_sl ([.ref h, .int a1]) ++ List.replicate (2 - (lg_sl ([.ref h, .int a1])).length) Slot.unset).toArray = ls at hl ⊢
  have hl : lv_has ls 2 [(0, .ref h), (1, .int a1)] := hl
  unfold m_X6_buy at hf
  refine lv_aload_n hx hb dX6_buy_0 rfl (lv_at hl 0 rfl) ?_
  refine lv_iload_n hx hb dX6_buy_1 rfl (lv_at hl 1 rfl) ?_
  obtain ⟨x1, hv_1, hf⟩ := ob1_some hf
  refine q_rVi (As := [.int a1]) (rest := []) (r := x1) ⟨hx, hb, hml, hown, hts⟩ (c_X6_isPiece l D cI cC cL cB h h_piece h_deed h_st h_was h_kept h_seen h_text h_told h_readPiece h_readRoom h_readDeed h_now a1 h_pieces h_deeds h_law h_acts h_keeps h_seens h_texted h_at h_readPieces h_readDeeds h_readCoins h_readLaw x1 hv_1) (cwV 1 hts gX6_buy_X6_isPiece rfl rfl rfl (by decide +kernel) ⟨Nat.le_of_ble_eq_true rfl, Nat.le_of_ble_eq_true rfl⟩) hK hP [0] rfl (va_recv hK hP (ci := 6) (q0 := 0) rfl rfl) rfl hl.1 rfl (Nat.le_of_ble_eq_true rfl) dX6_buy_2 ⟨Nat.le_of_ble_eq_true rfl, Nat.le_of_ble_eq_true rfl⟩ ?_
  refine lv_if_ne (tgt := 10) hx hb dX6_buy_5 (by decide) (fun c_2 => ?_) (fun c_2 => ?_)
  · have hf := im c_2 hf
    refine lv_aload_n hx hb dX6_buy_10 rfl (lv_at hl 0 rfl) ?_
    refine va_get (D := D) (ci := 6) (v := .ref h_st) (C := RX6) (T := TX6) (N := 24) hx hb hts uX6_buy_X6 hown hK hP 0 rfl rfl 5 (by decide) (hts (.fieldLink RX6 16 "SpeaksForTheChairModel" "st" "[I") (List.mem_of_getElem? (i := 1) rfl)) (fun _ h9 => h9) rfl dX6_buy_11 ?_
    refine lv_bipush (v := 10) hx hb dX6_buy_14 (by decide) ?_
    refine lv_iload_n hx hb dX6_buy_16 rfl (lv_at hl 1 rfl) ?_
    refine lv_iadd hx hb dX6_buy_17 ?_
    obtain ⟨g_3, hf⟩ := gu_in hf
    refine va_iald hx hb hK hP 1 0 rfl rfl g_3 dX6_buy_18 ?_
    refine lv_if_ne (tgt := 41) hx hb dX6_buy_19 (by decide) (fun c_4 => ?_) (fun c_4 => ?_)
    · have hf := im c_4 hf
      refine lv_bipush (v := (-2)) hx hb dX6_buy_41 (by decide) ?_
      cases hf
      exact W.iret hx hb hr (fun t ht hW => ⟨⟨_, (), rfl, rfl, by rw [ht]; exact hP, va_K.moved hW.alike hK, hD⟩, hS.F ht⟩) hS.2.2 dX6_buy_43
    · have hf := ip c_4 hf
      refine lv_aload_n hx hb dX6_buy_22 rfl (lv_at hl 0 rfl) ?_
      refine va_get (D := D) (ci := 6) (v := .ref h_st) (C := RX6) (T := TX6) (N := 24) hx hb hts uX6_buy_X6 hown hK hP 0 rfl rfl 5 (by decide) (hts (.fieldLink RX6 16 "SpeaksForTheChairModel" "st" "[I") (List.mem_of_getElem? (i := 1) rfl)) (fun _ h9 => h9) rfl dX6_buy_23 ?_
      refine lv_iconst (v := 0) hx hb dX6_buy_26 (by decide) ?_
      refine va_iald hx hb hK hP 1 0 rfl rfl (okI_in (by decide)) dX6_buy_27 ?_
      refine lv_aload_n hx hb dX6_buy_28 rfl (lv_at hl 0 rfl) ?_
      refine va_get (D := D) (ci := 6) (v := .ref h_piece) (C := RX6) (T := TX6) (N := 24) hx hb hts uX6_buy_X6 hown hK hP 0 rfl rfl 1 (by decide) (hts (.fieldLink RX6 7 "SpeaksForTheChairModel" "piece" "[I") (List.mem_of_getElem? (i := 2) rfl)) (fun _ h9 => h9) rfl dX6_buy_29 ?_
      refine lv_iconst (v := 2) hx hb dX6_buy_32 (by decide) ?_
      refine lv_iload_n hx hb dX6_buy_33 rfl (lv_at hl 1 rfl) ?_
      refine lv_imul hx hb dX6_buy_34 ?_
      refine lv_iconst (v := 1) hx hb dX6_buy_35 (by decide) ?_
      refine lv_iadd hx hb dX6_buy_36 ?_
      obtain ⟨g_5, hf⟩ := gu_in hf
      refine va_iald hx hb hK hP 2 0 rfl rfl g_5 dX6_buy_37 ?_
      refine lv_icmp_ge (tgt := 44) hx hb dX6_buy_38 (by decide) (fun c_6 => ?_) (fun c_6 => ?_)
      · have hf := ip c_6 hf
        refine lv_aload_n hx hb dX6_buy_44 rfl (lv_at hl 0 rfl) ?_
        obtain ⟨f2, c3, hv_7, hf⟩ := ob2_some hf
        refine q_wVv (As := []) (rest := []) (w1 := [(h, .inr (6, [.int h_pieces, .ref h_piece, .int h_deeds, .ref h_deed, .int h_law, .ref h_st, .int f2, .ref h_was, .int h_keeps, .ref h_kept, .int h_seens, .ref h_seen, .ref h_text, .int h_texted, .int h_at, .ref h_told, .int h_readPieces, .ref h_readPiece, .ref h_readRoom, .int h_readDeeds, .ref h_readDeed, .int h_readCoins, .int h_readLaw, .ref h_now])), (h_was, .inl (cI, 144, .inl c3)), (h_st, .inl (cI, 18, .inl h_st_c))]) (wr := [(h_piece, .inl (cI, 16, .inl h_piece_c))]) (w2 := [(h, .inr (6, [.int h_pieces, .ref h_piece, .int h_deeds, .ref h_deed, .int h_law, .ref h_st, .int f2, .ref h_was, .int h_keeps, .ref h_kept, .int h_seens, .ref h_seen, .ref h_text, .int h_texted, .int h_at, .ref h_told, .int h_readPieces, .ref h_readPiece, .ref h_readRoom, .int h_readDeeds, .ref h_readDeed, .int h_readCoins, .int h_readLaw, .ref h_now])), (h_st, .inl (cI, 18, .inl h_st_c)), (h_piece, .inl (cI, 16, .inl h_piece_c)), (h_was, .inl (cI, 144, .inl c3))]) ⟨hx, hb, hml, hown, hts⟩ (c_X6_remembers l D cI cC cL cB s.heap.size h h_piece h_deed h_st h_was h_kept h_seen h_text h_told h_readPiece h_readRoom h_readDeed h_now h_pieces h_deeds h_law h_acts h_keeps h_seens h_texted h_at h_readPieces h_readDeeds h_readCoins h_readLaw h_was_c h_st_c f2 c3 hv_7) (cwV 0 hts gX6_buy_X6_remembers rfl rfl rfl (by decide +kernel) ⟨Nat.le_of_ble_eq_true rfl, Nat.le_of_ble_eq_true rfl⟩) hK hP hD hS hA [0, 3, 1] rfl (by decide) [2] rfl (by decide) (by decide) [1, 3, 0, 2] rfl (by decide) (va_recv hK hP (ci := 6) (q0 := 0) rfl rfl) rfl hl.1 rfl (Nat.le_of_ble_eq_true rfl) dX6_buy_45 ⟨Nat.le_of_ble_eq_true rfl, Nat.le_of_ble_eq_true rfl⟩ (fun H locs hP hD hS => ?_)
        have hP : va_P D vwCl [(h, .inr (6, [.int h_pieces, .ref h_piece, .int h_deeds, .ref h_deed, .int h_law, .ref h_st, .int f2, .ref h_was, .int h_keeps, .ref h_kept, .int h_seens, .ref h_seen, .ref h_text, .int h_texted, .int h_at, .ref h_told, .int h_readPieces, .ref h_readPiece, .ref h_readRoom, .int h_readDeeds, .ref h_readDeed, .int h_readCoins, .int h_readLaw, .ref h_now])), (h_st, .inl (cI, 18, .inl h_st_c)), (h_piece, .inl (cI, 16, .inl h_piece_c)), (h_was, .inl (cI, 144, .inl c3))] H := hP
        have hD : va_D A [(h, .inr (6, [.int h_pieces, .ref h_piece, .int h_deeds, .ref h_deed, .int h_law, .ref h_st, .int f2, .ref h_was, .int h_keeps, .ref h_kept, .int h_seens, .ref h_seen, .ref h_text, .int h_texted, .int h_at, .ref h_told, .int h_readPieces, .ref h_readPiece, .ref h_readRoom, .int h_readDeeds, .ref h_readDeed, .int h_readCoins, .int h_readLaw, .ref h_now])), (h_st, .inl (cI, 18, .inl h_st_c)), (h_piece, .inl (cI, 16, .inl h_piece_c)), (h_was, .inl (cI, 144, .inl c3))] := hD
        refine lv_aload_n hx hb dX6_buy_48 rfl (lv_at hl 0 rfl) ?_
        refine va_get (D := D) (ci := 6) (v := .ref h_st) (C := RX6) (T := TX6) (N := 24) hx hb hts uX6_buy_X6 hown hK hP 0 rfl rfl 5 (by decide) (hts (.fieldLink RX6 16 "SpeaksForTheChairModel" "st" "[I") (List.mem_of_getElem? (i := 1) rfl)) (fun _ h9 => h9) rfl dX6_buy_49 ?_
        refine lv_bipush (v := 10) hx hb dX6_buy_52 (by decide) ?_
        refine lv_iload_n hx hb dX6_buy_54 rfl (lv_at hl 1 rfl) ?_
        refine lv_iadd hx hb dX6_buy_55 ?_
        refine lv_iconst (v := 1) hx hb dX6_buy_56 (by decide) ?_
        obtain ⟨g_8, hf⟩ := gu_in hf
        refine va_iast hx hb hK hP hD hS 1 0 rfl rfl g_8 dX6_buy_57 (fun H locs hP hD hS => ?_)
        obtain ⟨c4, ec4⟩ : ∃ y : Nat → Int32, y = (upd h_st_c ((10 + a1) : Int32).toNatClampNeg 1) := ⟨_, rfl⟩
        have hf := pv_eq ec4 hf
        rw [← ec4] at hP hD
        have hP : va_P D vwCl [(h, .inr (6, [.int h_pieces, .ref h_piece, .int h_deeds, .ref h_deed, .int h_law, .ref h_st, .int f2, .ref h_was, .int h_keeps, .ref h_kept, .int h_seens, .ref h_seen, .ref h_text, .int h_texted, .int h_at, .ref h_told, .int h_readPieces, .ref h_readPiece, .ref h_readRoom, .int h_readDeeds, .ref h_readDeed, .int h_readCoins, .int h_readLaw, .ref h_now])), (h_st, .inl (cI, 18, .inl c4)), (h_piece, .inl (cI, 16, .inl h_piece_c)), (h_was, .inl (cI, 144, .inl c3))] H := hP
        have hD : va_D A [(h, .inr (6, [.int h_pieces, .ref h_piece, .int h_deeds, .ref h_deed, .int h_law, .ref h_st, .int f2, .ref h_was, .int h_keeps, .ref h_kept, .int h_seens, .ref h_seen, .ref h_text, .int h_texted, .int h_at, .ref h_told, .int h_readPieces, .ref h_readPiece, .ref h_readRoom, .int h_readDeeds, .ref h_readDeed, .int h_readCoins, .int h_readLaw, .ref h_now])), (h_st, .inl (cI, 18, .inl c4)), (h_piece, .inl (cI, 16, .inl h_piece_c)), (h_was, .inl (cI, 144, .inl c3))] := hD
        refine lv_aload_n hx hb dX6_buy_58 rfl (lv_at hl 0 rfl) ?_
        refine va_get (D := D) (ci := 6) (v := .ref h_st) (C := RX6) (T := TX6) (N := 24) hx hb hts uX6_buy_X6 hown hK hP 0 rfl rfl 5 (by decide) (hts (.fieldLink RX6 16 "SpeaksForTheChairModel" "st" "[I") (List.mem_of_getElem? (i := 1) rfl)) (fun _ h9 => h9) rfl dX6_buy_59 ?_
        refine lv_iconst (v := 0) hx hb dX6_buy_62 (by decide) ?_
        refine lv_dup2_11 hx hb dX6_buy_63 rfl rfl ?_
        refine va_iald hx hb hK hP 1 0 rfl rfl (okI_in (by decide)) dX6_buy_64 ?_
        refine lv_aload_n hx hb dX6_buy_65 rfl (lv_at hl 0 rfl) ?_
        refine va_get (D := D) (ci := 6) (v := .ref h_piece) (C := RX6) (T := TX6) (N := 24) hx hb hts uX6_buy_X6 hown hK hP 0 rfl rfl 1 (by decide) (hts (.fieldLink RX6 7 "SpeaksForTheChairModel" "piece" "[I") (List.mem_of_getElem? (i := 2) rfl)) (fun _ h9 => h9) rfl dX6_buy_66 ?_
        refine lv_iconst (v := 2) hx hb dX6_buy_69 (by decide) ?_
        refine lv_iload_n hx hb dX6_buy_70 rfl (lv_at hl 1 rfl) ?_
        refine lv_imul hx hb dX6_buy_71 ?_
        refine lv_iconst (v := 1) hx hb dX6_buy_72 (by decide) ?_
        refine lv_iadd hx hb dX6_buy_73 ?_
        obtain ⟨g_9, hf⟩ := gu_in hf
        refine va_iald hx hb hK hP 2 0 rfl rfl g_9 dX6_buy_74 ?_
        refine lv_isub hx hb dX6_buy_75 ?_
        refine va_iast hx hb hK hP hD hS 1 0 rfl rfl (okI_in (by decide)) dX6_buy_76 (fun H locs hP hD hS => ?_)
        obtain ⟨c5, ec5⟩ : ∃ y : Nat → Int32, y = (upd c4 (0 : Int32).toNatClampNeg ((c4 (0 : Int32).toNatClampNeg) - (h_piece_c (((2 * a1) + 1) : Int32).toNatClampNeg))) := ⟨_, rfl⟩
        have hf := pv_eq ec5 hf
        rw [← ec5] at hP hD
        have hP : va_P D vwCl [(h, .inr (6, [.int h_pieces, .ref h_piece, .int h_deeds, .ref h_deed, .int h_law, .ref h_st, .int f2, .ref h_was, .int h_keeps, .ref h_kept, .int h_seens, .ref h_seen, .ref h_text, .int h_texted, .int h_at, .ref h_told, .int h_readPieces, .ref h_readPiece, .ref h_readRoom, .int h_readDeeds, .ref h_readDeed, .int h_readCoins, .int h_readLaw, .ref h_now])), (h_st, .inl (cI, 18, .inl c5)), (h_piece, .inl (cI, 16, .inl h_piece_c)), (h_was, .inl (cI, 144, .inl c3))] H := hP
        have hD : va_D A [(h, .inr (6, [.int h_pieces, .ref h_piece, .int h_deeds, .ref h_deed, .int h_law, .ref h_st, .int f2, .ref h_was, .int h_keeps, .ref h_kept, .int h_seens, .ref h_seen, .ref h_text, .int h_texted, .int h_at, .ref h_told, .int h_readPieces, .ref h_readPiece, .ref h_readRoom, .int h_readDeeds, .ref h_readDeed, .int h_readCoins, .int h_readLaw, .ref h_now])), (h_st, .inl (cI, 18, .inl c5)), (h_piece, .inl (cI, 16, .inl h_piece_c)), (h_was, .inl (cI, 144, .inl c3))] := hD
        refine lv_aload_n hx hb dX6_buy_77 rfl (lv_at hl 0 rfl) ?_
        refine va_get (D := D) (ci := 6) (v := .ref h_st) (C := RX6) (T := TX6) (N := 24) hx hb hts uX6_buy_X6 hown hK hP 0 rfl rfl 5 (by decide) (hts (.fieldLink RX6 16 "SpeaksForTheChairModel" "st" "[I") (List.mem_of_getElem? (i := 1) rfl)) (fun _ h9 => h9) rfl dX6_buy_78 ?_
        refine lv_iconst (v := 0) hx hb dX6_buy_81 (by decide) ?_
        refine va_iald hx hb hK hP 1 0 rfl rfl (okI_in (by decide)) dX6_buy_82 ?_
        cases hf
        exact W.iret hx hb hr (fun t ht hW => ⟨⟨_, (), rfl, rfl, by rw [ht]; exact hP, va_K.moved hW.alike hK, hD⟩, hS.F ht⟩) hS.2.2 dX6_buy_83
      · have hf := im c_6 hf
        refine lv_bipush (v := (-2)) hx hb dX6_buy_41 (by decide) ?_
        cases hf
        exact W.iret hx hb hr (fun t ht hW => ⟨⟨_, (), rfl, rfl, by rw [ht]; exact hP, va_K.moved hW.alike hK, hD⟩, hS.F ht⟩) hS.2.2 dX6_buy_43
  · have hf := ip c_2 hf
    refine lv_iconst (v := (-1)) hx hb dX6_buy_8 (by decide) ?_
    cases hf
    exact W.iret hx hb hr (fun t ht hW => ⟨⟨_, (), rfl, rfl, by rw [ht]; exact hP, va_K.moved hW.alike hK, hD⟩, hS.F ht⟩) hS.2.2 dX6_buy_9
theorem uX6_carry_X6 : ∀ w ∈ wsX60, w ∈ wsX6_carry := fun w h => List.mem_cons_of_mem _ (List.mem_append_right _ h)
set_option maxHeartbeats 4000000 in
set_option maxRecDepth 100000 in
theorem c_X6_carry (l : Launch) (D : va_G) (cI cC cL cB : ClassId) (sz : Nat) (h : Nat) (h_piece : Nat) (h_deed : Nat) (h_st : Nat) (h_was : Nat) (h_kept : Nat) (h_seen : Nat) (h_text : Nat) (h_told : Nat) (h_readPiece : Nat) (h_readRoom : Nat) (h_readDeed : Nat) (h_now : Nat) (a1 : Int32) (a2 : Int32) (h_pieces : Int32) (h_deeds : Int32) (h_law : Int32) (h_acts : Int32) (h_keeps : Int32) (h_seens : Int32) (h_texted : Int32) (h_at : Int32) (h_readPieces : Int32) (h_readDeeds : Int32) (h_readCoins : Int32) (h_readLaw : Int32) (h_st_c : Nat → Int32) (h_was_c : Nat → Int32) (r : Int32) (o0 : Int32) (o1 : Nat → Int32) (o2 : Nat → Int32) (hf : m_X6_carry a1 a2 h_pieces h_acts h_st_c h_was_c = some (r, o0, o1, o2)) : Met l yX6_carry wsX6_carry ({ frames := 2, cells := 0, slots := 0, locals := 46 }) (va_Pc [.ref h, .int a1, .int a2] (q_W D vwCl (tyL cI cC cL cB) [(h, .inr (6, [.int h_pieces, .ref h_piece, .int h_deeds, .ref h_deed, .int h_law, .ref h_st, .int h_acts, .ref h_was, .int h_keeps, .ref h_kept, .int h_seens, .ref h_seen, .ref h_text, .int h_texted, .int h_at, .ref h_told, .int h_readPieces, .ref h_readPiece, .ref h_readRoom, .int h_readDeeds, .ref h_readDeed, .int h_readCoins, .int h_readLaw, .ref h_now])), (h_st, .inl (cI, 18, .inl h_st_c)), (h_was, .inl (cI, 144, .inl h_was_c))] sz)) (va_Qi (fun r' _ => r' = r) (q_E D vwCl (tyL cI cC cL cB) (va_A [(h, .inr (6, [.int h_pieces, .ref h_piece, .int h_deeds, .ref h_deed, .int h_law, .ref h_st, .int h_acts, .ref h_was, .int h_keeps, .ref h_kept, .int h_seens, .ref h_seen, .ref h_text, .int h_texted, .int h_at, .ref h_told, .int h_readPieces, .ref h_readPiece, .ref h_readRoom, .int h_readDeeds, .ref h_readDeed, .int h_readCoins, .int h_readLaw, .ref h_now])), (h_st, .inl (cI, 18, .inl h_st_c)), (h_was, .inl (cI, 144, .inl h_was_c))] sz) [(h, .inr (6, [.int h_pieces, .ref h_piece, .int h_deeds, .ref h_deed, .int h_law, .ref h_st, .int o0, .ref h_was, .int h_keeps, .ref h_kept, .int h_seens, .ref h_seen, .ref h_text, .int h_texted, .int h_at, .ref h_told, .int h_readPieces, .ref h_readPiece, .ref h_readRoom, .int h_readDeeds, .ref h_readDeed, .int h_readCoins, .int h_readLaw, .ref h_now])), (h_st, .inl (cI, 18, .inl o1)), (h_was, .inl (cI, 144, .inl o2))]) (va_A [(h, .inr (6, [.int h_pieces, .ref h_piece, .int h_deeds, .ref h_deed, .int h_law, .ref h_st, .int h_acts, .ref h_was, .int h_keeps, .ref h_kept, .int h_seens, .ref h_seen, .ref h_text, .int h_texted, .int h_at, .ref h_told, .int h_readPieces, .ref h_readPiece, .ref h_readRoom, .int h_readDeeds, .ref h_readDeed, .int h_readCoins, .int h_readLaw, .ref h_now])), (h_st, .inl (cI, 18, .inl h_st_c)), (h_was, .inl (cI, 144, .inl h_was_c))] sz)) 0 0 (va_A [(h, .inr (6, [.int h_pieces, .ref h_piece, .int h_deeds, .ref h_deed, .int h_law, .ref h_st, .int h_acts, .ref h_was, .int h_keeps, .ref h_kept, .int h_seens, .ref h_seen, .ref h_text, .int h_texted, .int h_at, .ref h_told, .int h_readPieces, .ref h_readPiece, .ref h_readRoom, .int h_readDeeds, .ref h_readDeed, .int h_readCoins, .int h_readLaw, .ref h_now])), (h_st, .inl (cI, 18, .inl h_st_c)), (h_was, .inl (cI, 144, .inl h_was_c))] sz) := by
  refine Met.ofW (cc := cX6_carry) (maxL := 4) (ret := (some .int)) (by decide) rfl ?_
  intro p e s m args below meth c s₁ B hml hv
  obtain ⟨rfl, hsz, hP, hK, hD0⟩ := hv
  have hx := B.exec
  have hb := B.bytes
  have hr := B.returns
  have hts := atoms_spec (ws := wsX6_carry) B.pre
  have hown : s.vm.findClass RX6 = some m.cls := findClass_of_methodNamed B.named
  have hlocks := B.notSynchronized
  subst hsz
  have hD := hD0.self (sz := s.heap.size)
  generalize hAe : va_A [(h, .inr (6, [.int h_pieces, .ref h_piece, .int h_deeds, .ref h_deed, .int h_law, .ref h_st, .int h_acts, .ref h_was, .int h_keeps, .ref h_kept, .int h_seens, .ref h_seen, .ref h_text, .int h_texted, .int h_at, .ref h_told, .int h_readPieces, .ref h_readPiece, .ref h_readRoom, .int h_readDeeds, .ref h_readDeed, .int h_readCoins, .int h_readLaw, .ref h_now])), (h_st, .inl (cI, 18, .inl h_st_c)), (h_was, .inl (cI, 144, .inl h_was_c))] s.heap.size = A at hD ⊢
  have hA : ∀ q : Nat, s.heap.size ≤ q → A q := fun q h => by rw [← hAe]; exact Or.inr h
  have hS : va_S A s.heap s.heap [] := va_S.rf
  have hP : va_P D vwCl [(h, .inr (6, [.int h_pieces, .ref h_piece, .int h_deeds, .ref h_deed, .int h_law, .ref h_st, .int h_acts, .ref h_was, .int h_keeps, .ref h_kept, .int h_seens, .ref h_seen, .ref h_text, .int h_texted, .int h_at, .ref h_told, .int h_readPieces, .ref h_readPiece, .ref h_readRoom, .int h_readDeeds, .ref h_readDeed, .int h_readCoins, .int h_readLaw, .ref h_now])), (h_st, .inl (cI, 18, .inl h_st_c)), (h_was, .inl (cI, 144, .inl h_was_c))] s.heap := hP
  have hl := lv_entry ([.ref h, .int a1, .int a2]) (n := 4) (Nat.le_of_ble_eq_true rfl)
  rw [lg_entry_eq]
  generalize (lg_sl ([.ref h, .int a1, .int a2]) ++ List.replicate (4 - (lg_sl ([.ref h, .int a1, .int a2])).length) Slot.unset).toArray = ls at hl ⊢
  have hl : lv_has ls 4 [(0, .ref h), (1, .int a1), (2, .int a2)] := hl
  unfold m_X6_carry at hf
  refine lv_aload_n hx hb dX6_carry_0 rfl (lv_at hl 0 rfl) ?_
  refine lv_iload_n hx hb dX6_carry_1 rfl (lv_at hl 1 rfl) ?_
  obtain ⟨x1, hv_1, hf⟩ := ob1_some hf
  refine q_rVi (As := [.int a1]) (rest := []) (r := x1) ⟨hx, hb, hml, hown, hts⟩ (c_X6_isPiece l D cI cC cL cB h h_piece h_deed h_st h_was h_kept h_seen h_text h_told h_readPiece h_readRoom h_readDeed h_now a1 h_pieces h_deeds h_law h_acts h_keeps h_seens h_texted h_at h_readPieces h_readDeeds h_readCoins h_readLaw x1 hv_1) (cwV 1 hts gX6_carry_X6_isPiece rfl rfl rfl (by decide +kernel) ⟨Nat.le_of_ble_eq_true rfl, Nat.le_of_ble_eq_true rfl⟩) hK hP [0] rfl (va_recv hK hP (ci := 6) (q0 := 0) rfl rfl) rfl hl.1 rfl (Nat.le_of_ble_eq_true rfl) dX6_carry_2 ⟨Nat.le_of_ble_eq_true rfl, Nat.le_of_ble_eq_true rfl⟩ ?_
  refine lv_if_eq (tgt := 17) hx hb dX6_carry_5 (by decide) (fun c_2 => ?_) (fun c_2 => ?_)
  · have hf := ip c_2 hf
    refine lv_iconst (v := (-1)) hx hb dX6_carry_17 (by decide) ?_
    cases hf
    exact W.iret hx hb hr (fun t ht hW => ⟨⟨_, (), rfl, rfl, by rw [ht]; exact hP, va_K.moved hW.alike hK, hD⟩, hS.F ht⟩) hS.2.2 dX6_carry_18
  · have hf := im c_2 hf
    refine lv_iload_n hx hb dX6_carry_8 rfl (lv_at hl 2 rfl) ?_
    refine lv_iconst (v := 0) hx hb dX6_carry_9 (by decide) ?_
    refine lv_iconst (v := 3) hx hb dX6_carry_10 (by decide) ?_
    obtain ⟨x2, hv_3, hf⟩ := ob1_some hf
    refine q_rSi (As := [.int a2, .int 0, .int 3]) (rest := []) (r := x2) ⟨hx, hb, hml, hown, hts⟩ (c_X6_in l D cI cC cL cB a2 ((0 : Int32)) ((3 : Int32)) x2 hv_3) (va_cwS 3 hts gX6_carry_X6_in rfl rfl rfl (by decide +kernel) ⟨Nat.le_of_ble_eq_true rfl, Nat.le_of_ble_eq_true rfl⟩) hK hP [] rfl rfl hl.1 rfl (Nat.le_of_ble_eq_true rfl) dX6_carry_11 ⟨Nat.le_of_ble_eq_true rfl, Nat.le_of_ble_eq_true rfl⟩ ?_
    refine lv_if_ne (tgt := 19) hx hb dX6_carry_14 (by decide) (fun c_4 => ?_) (fun c_4 => ?_)
    · have hf := im c_4 hf
      refine lv_aload_n hx hb dX6_carry_19 rfl (lv_at hl 0 rfl) ?_
      refine va_get (D := D) (ci := 6) (v := .ref h_st) (C := RX6) (T := TX6) (N := 24) hx hb hts uX6_carry_X6 hown hK hP 0 rfl rfl 5 (by decide) (hts (.fieldLink RX6 16 "SpeaksForTheChairModel" "st" "[I") (List.mem_of_getElem? (i := 1) rfl)) (fun _ h9 => h9) rfl dX6_carry_20 ?_
      refine lv_iconst (v := 2) hx hb dX6_carry_23 (by decide) ?_
      refine lv_iload_n hx hb dX6_carry_24 rfl (lv_at hl 1 rfl) ?_
      refine lv_iadd hx hb dX6_carry_25 ?_
      obtain ⟨g_5, hf⟩ := gu_in hf
      refine va_iald hx hb hK hP 1 0 rfl rfl g_5 dX6_carry_26 ?_
      refine lv_topi (fun x3 ex3 => ?_)
      have hf := pv_eq ex3 hf
      refine lv_istore_n (lv' := [(3, .int x3), (0, .ref h), (1, .int a1), (2, .int a2)]) hx hb dX6_carry_27 rfl hl (by decide) rfl (fun ls hl => ?_)
      refine lv_aload_n hx hb dX6_carry_28 rfl (lv_at hl 1 rfl) ?_
      refine va_get (D := D) (ci := 6) (v := .ref h_st) (C := RX6) (T := TX6) (N := 24) hx hb hts uX6_carry_X6 hown hK hP 0 rfl rfl 5 (by decide) (hts (.fieldLink RX6 16 "SpeaksForTheChairModel" "st" "[I") (List.mem_of_getElem? (i := 1) rfl)) (fun _ h9 => h9) rfl dX6_carry_29 ?_
      refine lv_bipush (v := 10) hx hb dX6_carry_32 (by decide) ?_
      refine lv_iload_n hx hb dX6_carry_34 rfl (lv_at hl 2 rfl) ?_
      refine lv_iadd hx hb dX6_carry_35 ?_
      obtain ⟨g_6, hf⟩ := gu_in hf
      refine va_iald hx hb hK hP 1 0 rfl rfl g_6 dX6_carry_36 ?_
      refine lv_iconst (v := 2) hx hb dX6_carry_37 (by decide) ?_
      refine lv_icmp_eq (tgt := 46) hx hb dX6_carry_38 (by decide) (fun c_7 => ?_) (fun c_7 => ?_)
      · have hf := ip c_7 hf
        refine lv_bipush (v := (-2)) hx hb dX6_carry_46 (by decide) ?_
        cases hf
        exact W.iret hx hb hr (fun t ht hW => ⟨⟨_, (), rfl, rfl, by rw [ht]; exact hP, va_K.moved hW.alike hK, hD⟩, hS.F ht⟩) hS.2.2 dX6_carry_48
      · have hf := im c_7 hf
        refine lv_iload_n hx hb dX6_carry_41 rfl (lv_at hl 0 rfl) ?_
        refine lv_iload_n hx hb dX6_carry_42 rfl (lv_at hl 3 rfl) ?_
        refine lv_icmp_ne (tgt := 49) hx hb dX6_carry_43 (by decide) (fun c_8 => ?_) (fun c_8 => ?_)
        · have hf := im c_8 hf
          refine lv_aload_n hx hb dX6_carry_49 rfl (lv_at hl 1 rfl) ?_
          obtain ⟨f4, c5, hv_9, hf⟩ := ob2_some hf
          refine q_wVv (As := []) (rest := []) (w1 := [(h, .inr (6, [.int h_pieces, .ref h_piece, .int h_deeds, .ref h_deed, .int h_law, .ref h_st, .int f4, .ref h_was, .int h_keeps, .ref h_kept, .int h_seens, .ref h_seen, .ref h_text, .int h_texted, .int h_at, .ref h_told, .int h_readPieces, .ref h_readPiece, .ref h_readRoom, .int h_readDeeds, .ref h_readDeed, .int h_readCoins, .int h_readLaw, .ref h_now])), (h_was, .inl (cI, 144, .inl c5)), (h_st, .inl (cI, 18, .inl h_st_c))]) (wr := []) (w2 := [(h, .inr (6, [.int h_pieces, .ref h_piece, .int h_deeds, .ref h_deed, .int h_law, .ref h_st, .int f4, .ref h_was, .int h_keeps, .ref h_kept, .int h_seens, .ref h_seen, .ref h_text, .int h_texted, .int h_at, .ref h_told, .int h_readPieces, .ref h_readPiece, .ref h_readRoom, .int h_readDeeds, .ref h_readDeed, .int h_readCoins, .int h_readLaw, .ref h_now])), (h_st, .inl (cI, 18, .inl h_st_c)), (h_was, .inl (cI, 144, .inl c5))]) ⟨hx, hb, hml, hown, hts⟩ (c_X6_remembers l D cI cC cL cB s.heap.size h h_piece h_deed h_st h_was h_kept h_seen h_text h_told h_readPiece h_readRoom h_readDeed h_now h_pieces h_deeds h_law h_acts h_keeps h_seens h_texted h_at h_readPieces h_readDeeds h_readCoins h_readLaw h_was_c h_st_c f4 c5 hv_9) (cwV 0 hts gX6_carry_X6_remembers rfl rfl rfl (by decide +kernel) ⟨Nat.le_of_ble_eq_true rfl, Nat.le_of_ble_eq_true rfl⟩) hK hP hD hS hA [0, 2, 1] rfl (by decide) [] rfl (by decide) (by decide) [0, 2, 1] rfl (by decide) (va_recv hK hP (ci := 6) (q0 := 0) rfl rfl) rfl hl.1 rfl (Nat.le_of_ble_eq_true rfl) dX6_carry_50 ⟨Nat.le_of_ble_eq_true rfl, Nat.le_of_ble_eq_true rfl⟩ (fun H locs hP hD hS => ?_)
          have hP : va_P D vwCl [(h, .inr (6, [.int h_pieces, .ref h_piece, .int h_deeds, .ref h_deed, .int h_law, .ref h_st, .int f4, .ref h_was, .int h_keeps, .ref h_kept, .int h_seens, .ref h_seen, .ref h_text, .int h_texted, .int h_at, .ref h_told, .int h_readPieces, .ref h_readPiece, .ref h_readRoom, .int h_readDeeds, .ref h_readDeed, .int h_readCoins, .int h_readLaw, .ref h_now])), (h_st, .inl (cI, 18, .inl h_st_c)), (h_was, .inl (cI, 144, .inl c5))] H := hP
          have hD : va_D A [(h, .inr (6, [.int h_pieces, .ref h_piece, .int h_deeds, .ref h_deed, .int h_law, .ref h_st, .int f4, .ref h_was, .int h_keeps, .ref h_kept, .int h_seens, .ref h_seen, .ref h_text, .int h_texted, .int h_at, .ref h_told, .int h_readPieces, .ref h_readPiece, .ref h_readRoom, .int h_readDeeds, .ref h_readDeed, .int h_readCoins, .int h_readLaw, .ref h_now])), (h_st, .inl (cI, 18, .inl h_st_c)), (h_was, .inl (cI, 144, .inl c5))] := hD
          refine lv_aload_n hx hb dX6_carry_53 rfl (lv_at hl 1 rfl) ?_
          refine va_get (D := D) (ci := 6) (v := .ref h_st) (C := RX6) (T := TX6) (N := 24) hx hb hts uX6_carry_X6 hown hK hP 0 rfl rfl 5 (by decide) (hts (.fieldLink RX6 16 "SpeaksForTheChairModel" "st" "[I") (List.mem_of_getElem? (i := 1) rfl)) (fun _ h9 => h9) rfl dX6_carry_54 ?_
          refine lv_iconst (v := 2) hx hb dX6_carry_57 (by decide) ?_
          refine lv_iload_n hx hb dX6_carry_58 rfl (lv_at hl 2 rfl) ?_
          refine lv_iadd hx hb dX6_carry_59 ?_
          refine lv_iload_n hx hb dX6_carry_60 rfl (lv_at hl 3 rfl) ?_
          obtain ⟨g_10, hf⟩ := gu_in hf
          refine va_iast hx hb hK hP hD hS 1 0 rfl rfl g_10 dX6_carry_61 (fun H locs hP hD hS => ?_)
          obtain ⟨c6, ec6⟩ : ∃ y : Nat → Int32, y = (upd h_st_c ((2 + a1) : Int32).toNatClampNeg a2) := ⟨_, rfl⟩
          have hf := pv_eq ec6 hf
          rw [← ec6] at hP hD
          have hP : va_P D vwCl [(h, .inr (6, [.int h_pieces, .ref h_piece, .int h_deeds, .ref h_deed, .int h_law, .ref h_st, .int f4, .ref h_was, .int h_keeps, .ref h_kept, .int h_seens, .ref h_seen, .ref h_text, .int h_texted, .int h_at, .ref h_told, .int h_readPieces, .ref h_readPiece, .ref h_readRoom, .int h_readDeeds, .ref h_readDeed, .int h_readCoins, .int h_readLaw, .ref h_now])), (h_st, .inl (cI, 18, .inl c6)), (h_was, .inl (cI, 144, .inl c5))] H := hP
          have hD : va_D A [(h, .inr (6, [.int h_pieces, .ref h_piece, .int h_deeds, .ref h_deed, .int h_law, .ref h_st, .int f4, .ref h_was, .int h_keeps, .ref h_kept, .int h_seens, .ref h_seen, .ref h_text, .int h_texted, .int h_at, .ref h_told, .int h_readPieces, .ref h_readPiece, .ref h_readRoom, .int h_readDeeds, .ref h_readDeed, .int h_readCoins, .int h_readLaw, .ref h_now])), (h_st, .inl (cI, 18, .inl c6)), (h_was, .inl (cI, 144, .inl c5))] := hD
          refine lv_iload_n hx hb dX6_carry_62 rfl (lv_at hl 0 rfl) ?_
          cases hf
          exact W.iret hx hb hr (fun t ht hW => ⟨⟨_, (), rfl, rfl, by rw [ht]; exact hP, va_K.moved hW.alike hK, hD⟩, hS.F ht⟩) hS.2.2 dX6_carry_63
        · have hf := ip c_8 hf
          refine lv_bipush (v := (-2)) hx hb dX6_carry_46 (by decide) ?_
          cases hf
          exact W.iret hx hb hr (fun t ht hW => ⟨⟨_, (), rfl, rfl, by rw [ht]; exact hP, va_K.moved hW.alike hK, hD⟩, hS.F ht⟩) hS.2.2 dX6_carry_48
    · have hf := ip c_4 hf
      refine lv_iconst (v := (-1)) hx hb dX6_carry_17 (by decide) ?_
      cases hf
      exact W.iret hx hb hr (fun t ht hW => ⟨⟨_, (), rfl, rfl, by rw [ht]; exact hP, va_K.moved hW.alike hK, hD⟩, hS.F ht⟩) hS.2.2 dX6_carry_18
theorem uX6_undo_X6 : ∀ w ∈ wsX60, w ∈ wsX6_undo := fun w h => List.mem_cons_of_mem _ (List.mem_append_right _ h)
set_option maxHeartbeats 4000000 in
set_option maxRecDepth 100000 in
theorem c_X6_undo (l : Launch) (D : va_G) (cI cC cL cB : ClassId) (sz : Nat) (h : Nat) (h_piece : Nat) (h_deed : Nat) (h_st : Nat) (h_was : Nat) (h_kept : Nat) (h_seen : Nat) (h_text : Nat) (h_told : Nat) (h_readPiece : Nat) (h_readRoom : Nat) (h_readDeed : Nat) (h_now : Nat) (h_pieces : Int32) (h_deeds : Int32) (h_law : Int32) (h_acts : Int32) (h_keeps : Int32) (h_seens : Int32) (h_texted : Int32) (h_at : Int32) (h_readPieces : Int32) (h_readDeeds : Int32) (h_readCoins : Int32) (h_readLaw : Int32) (h_was_c : Nat → Int32) (h_st_c : Nat → Int32) (r : Int32) (o0 : Int32) (o1 : Nat → Int32) (hf : m_X6_undo h_acts h_was_c h_st_c = some (r, o0, o1)) : Met l yX6_undo wsX6_undo ({ frames := 1, cells := 0, slots := 0, locals := 25 }) (va_Pc [.ref h] (q_W D vwCl (tyL cI cC cL cB) [(h, .inr (6, [.int h_pieces, .ref h_piece, .int h_deeds, .ref h_deed, .int h_law, .ref h_st, .int h_acts, .ref h_was, .int h_keeps, .ref h_kept, .int h_seens, .ref h_seen, .ref h_text, .int h_texted, .int h_at, .ref h_told, .int h_readPieces, .ref h_readPiece, .ref h_readRoom, .int h_readDeeds, .ref h_readDeed, .int h_readCoins, .int h_readLaw, .ref h_now])), (h_was, .inl (cI, 144, .inl h_was_c)), (h_st, .inl (cI, 18, .inl h_st_c))] sz)) (va_Qi (fun r' _ => r' = r) (q_E D vwCl (tyL cI cC cL cB) (va_A [(h, .inr (6, [.int h_pieces, .ref h_piece, .int h_deeds, .ref h_deed, .int h_law, .ref h_st, .int h_acts, .ref h_was, .int h_keeps, .ref h_kept, .int h_seens, .ref h_seen, .ref h_text, .int h_texted, .int h_at, .ref h_told, .int h_readPieces, .ref h_readPiece, .ref h_readRoom, .int h_readDeeds, .ref h_readDeed, .int h_readCoins, .int h_readLaw, .ref h_now])), (h_was, .inl (cI, 144, .inl h_was_c)), (h_st, .inl (cI, 18, .inl h_st_c))] sz) [(h, .inr (6, [.int h_pieces, .ref h_piece, .int h_deeds, .ref h_deed, .int h_law, .ref h_st, .int o0, .ref h_was, .int h_keeps, .ref h_kept, .int h_seens, .ref h_seen, .ref h_text, .int h_texted, .int h_at, .ref h_told, .int h_readPieces, .ref h_readPiece, .ref h_readRoom, .int h_readDeeds, .ref h_readDeed, .int h_readCoins, .int h_readLaw, .ref h_now])), (h_was, .inl (cI, 144, .inl h_was_c)), (h_st, .inl (cI, 18, .inl o1))]) (va_A [(h, .inr (6, [.int h_pieces, .ref h_piece, .int h_deeds, .ref h_deed, .int h_law, .ref h_st, .int h_acts, .ref h_was, .int h_keeps, .ref h_kept, .int h_seens, .ref h_seen, .ref h_text, .int h_texted, .int h_at, .ref h_told, .int h_readPieces, .ref h_readPiece, .ref h_readRoom, .int h_readDeeds, .ref h_readDeed, .int h_readCoins, .int h_readLaw, .ref h_now])), (h_was, .inl (cI, 144, .inl h_was_c)), (h_st, .inl (cI, 18, .inl h_st_c))] sz)) 0 0 (va_A [(h, .inr (6, [.int h_pieces, .ref h_piece, .int h_deeds, .ref h_deed, .int h_law, .ref h_st, .int h_acts, .ref h_was, .int h_keeps, .ref h_kept, .int h_seens, .ref h_seen, .ref h_text, .int h_texted, .int h_at, .ref h_told, .int h_readPieces, .ref h_readPiece, .ref h_readRoom, .int h_readDeeds, .ref h_readDeed, .int h_readCoins, .int h_readLaw, .ref h_now])), (h_was, .inl (cI, 144, .inl h_was_c)), (h_st, .inl (cI, 18, .inl h_st_c))] sz) := by
  refine Met.ofW (cc := cX6_undo) (maxL := 1) (ret := (some .int)) (by decide) rfl ?_
  intro p e s m args below meth c s₁ B hml hv
  obtain ⟨rfl, hsz, hP, hK, hD0⟩ := hv
  have hx := B.exec
  have hb := B.bytes
  have hr := B.returns
  have hts := atoms_spec (ws := wsX6_undo) B.pre
  have hown : s.vm.findClass RX6 = some m.cls := findClass_of_methodNamed B.named
  have hlocks := B.notSynchronized
  subst hsz
  have hD := hD0.self (sz := s.heap.size)
  generalize hAe : va_A [(h, .inr (6, [.int h_pieces, .ref h_piece, .int h_deeds, .ref h_deed, .int h_law, .ref h_st, .int h_acts, .ref h_was, .int h_keeps, .ref h_kept, .int h_seens, .ref h_seen, .ref h_text, .int h_texted, .int h_at, .ref h_told, .int h_readPieces, .ref h_readPiece, .ref h_readRoom, .int h_readDeeds, .ref h_readDeed, .int h_readCoins, .int h_readLaw, .ref h_now])), (h_was, .inl (cI, 144, .inl h_was_c)), (h_st, .inl (cI, 18, .inl h_st_c))] s.heap.size = A at hD ⊢
  have hA : ∀ q : Nat, s.heap.size ≤ q → A q := fun q h => by rw [← hAe]; exact Or.inr h
  have hS : va_S A s.heap s.heap [] := va_S.rf
  have hP : va_P D vwCl [(h, .inr (6, [.int h_pieces, .ref h_piece, .int h_deeds, .ref h_deed, .int h_law, .ref h_st, .int h_acts, .ref h_was, .int h_keeps, .ref h_kept, .int h_seens, .ref h_seen, .ref h_text, .int h_texted, .int h_at, .ref h_told, .int h_readPieces, .ref h_readPiece, .ref h_readRoom, .int h_readDeeds, .ref h_readDeed, .int h_readCoins, .int h_readLaw, .ref h_now])), (h_was, .inl (cI, 144, .inl h_was_c)), (h_st, .inl (cI, 18, .inl h_st_c))] s.heap := hP
  have hl := lv_entry ([.ref h]) (n := 1) (Nat.le_of_ble_eq_true rfl)
  rw [lg_entry_eq]
  generalize (lg_sl ([.ref h]) ++ List.replicate (1 - (lg_sl ([.ref h])).length) Slot.unset).toArray = ls at hl ⊢
  have hl : lv_has ls 1 [(0, .ref h)] := hl
  unfold m_X6_undo at hf
  refine lv_aload_n hx hb dX6_undo_0 rfl (lv_at hl 0 rfl) ?_
  refine va_get (D := D) (ci := 6) (v := .int h_acts) (C := RX6) (T := TX6) (N := 24) hx hb hts uX6_undo_X6 hown hK hP 0 rfl rfl 6 (by decide) (hts (.fieldLink RX6 130 "SpeaksForTheChairModel" "acts" "I") (List.mem_of_getElem? (i := 1) rfl)) (fun _ h9 => h9) rfl dX6_undo_1 ?_
  refine lv_if_ne (tgt := 10) hx hb dX6_undo_4 (by decide) (fun c_1 => ?_) (fun c_1 => ?_)
  · have hf := im c_1 hf
    refine lv_aload_n hx hb dX6_undo_10 rfl (lv_at hl 0 rfl) ?_
    refine lv_dup hx hb dX6_undo_11 rfl ?_
    refine va_get (D := D) (ci := 6) (v := .int h_acts) (C := RX6) (T := TX6) (N := 24) hx hb hts uX6_undo_X6 hown hK hP 0 rfl rfl 6 (by decide) (hts (.fieldLink RX6 130 "SpeaksForTheChairModel" "acts" "I") (List.mem_of_getElem? (i := 1) rfl)) (fun _ h9 => h9) rfl dX6_undo_12 ?_
    refine lv_iconst (v := 1) hx hb dX6_undo_15 (by decide) ?_
    refine lv_isub hx hb dX6_undo_16 ?_
    refine lv_topi (fun f1 ef1 => ?_)
    have hf := pv_eq ef1 hf
    refine va_put (D := D) (ci := 6) (v := .int f1) (ty := .int) (C := RX6) (T := TX6) (N := 24) hx hb hts uX6_undo_X6 tyX6 tyX6_ok nmX6 hown hK hP hD hS 0 rfl rfl 6 (by decide) (hts (.fieldLink RX6 130 "SpeaksForTheChairModel" "acts" "I") (List.mem_of_getElem? (i := 1) rfl)) (fun _ h9 => h9) rfl (by decide +kernel) rfl rfl (Nat.le_of_ble_eq_true rfl) dX6_undo_17 (fun H locs hP hD hS => ?_)
    have hP : va_P D vwCl [(h, .inr (6, [.int h_pieces, .ref h_piece, .int h_deeds, .ref h_deed, .int h_law, .ref h_st, .int f1, .ref h_was, .int h_keeps, .ref h_kept, .int h_seens, .ref h_seen, .ref h_text, .int h_texted, .int h_at, .ref h_told, .int h_readPieces, .ref h_readPiece, .ref h_readRoom, .int h_readDeeds, .ref h_readDeed, .int h_readCoins, .int h_readLaw, .ref h_now])), (h_was, .inl (cI, 144, .inl h_was_c)), (h_st, .inl (cI, 18, .inl h_st_c))] H := hP
    have hD : va_D A [(h, .inr (6, [.int h_pieces, .ref h_piece, .int h_deeds, .ref h_deed, .int h_law, .ref h_st, .int f1, .ref h_was, .int h_keeps, .ref h_kept, .int h_seens, .ref h_seen, .ref h_text, .int h_texted, .int h_at, .ref h_told, .int h_readPieces, .ref h_readPiece, .ref h_readRoom, .int h_readDeeds, .ref h_readDeed, .int h_readCoins, .int h_readLaw, .ref h_now])), (h_was, .inl (cI, 144, .inl h_was_c)), (h_st, .inl (cI, 18, .inl h_st_c))] := hD
    refine lv_aload_n hx hb dX6_undo_20 rfl (lv_at hl 0 rfl) ?_
    refine va_get (D := D) (ci := 6) (v := .ref h_st) (C := RX6) (T := TX6) (N := 24) hx hb hts uX6_undo_X6 hown hK hP 0 rfl rfl 5 (by decide) (hts (.fieldLink RX6 16 "SpeaksForTheChairModel" "st" "[I") (List.mem_of_getElem? (i := 2) rfl)) (fun _ h9 => h9) rfl dX6_undo_21 ?_
    refine lv_iconst (v := 0) hx hb dX6_undo_24 (by decide) ?_
    refine lv_aload_n hx hb dX6_undo_25 rfl (lv_at hl 0 rfl) ?_
    refine va_get (D := D) (ci := 6) (v := .ref h_was) (C := RX6) (T := TX6) (N := 24) hx hb hts uX6_undo_X6 hown hK hP 0 rfl rfl 7 (by decide) (hts (.fieldLink RX6 19 "SpeaksForTheChairModel" "was" "[I") (List.mem_of_getElem? (i := 3) rfl)) (fun _ h9 => h9) rfl dX6_undo_26 ?_
    refine lv_bipush (v := 18) hx hb dX6_undo_29 (by decide) ?_
    refine lv_aload_n hx hb dX6_undo_31 rfl (lv_at hl 0 rfl) ?_
    refine va_get (D := D) (ci := 6) (v := .int f1) (C := RX6) (T := TX6) (N := 24) hx hb hts uX6_undo_X6 hown hK hP 0 rfl rfl 6 (by decide) (hts (.fieldLink RX6 130 "SpeaksForTheChairModel" "acts" "I") (List.mem_of_getElem? (i := 1) rfl)) (fun _ h9 => h9) rfl dX6_undo_32 ?_
    refine lv_imul hx hb dX6_undo_35 ?_
    refine lv_bipush (v := 18) hx hb dX6_undo_36 (by decide) ?_
    obtain ⟨c2, hv_2, hf⟩ := ob1_some hf
    refine q_wSv (As := [.ref h_st, .int 0, .ref h_was, .int (18 * f1), .int 18]) (rest := []) (w1 := [(h_was, .inl (cI, 144, .inl h_was_c)), (h_st, .inl (cI, 18, .inl c2))]) (wr := [(h, .inr (6, [.int h_pieces, .ref h_piece, .int h_deeds, .ref h_deed, .int h_law, .ref h_st, .int f1, .ref h_was, .int h_keeps, .ref h_kept, .int h_seens, .ref h_seen, .ref h_text, .int h_texted, .int h_at, .ref h_told, .int h_readPieces, .ref h_readPiece, .ref h_readRoom, .int h_readDeeds, .ref h_readDeed, .int h_readCoins, .int h_readLaw, .ref h_now]))]) (w2 := [(h, .inr (6, [.int h_pieces, .ref h_piece, .int h_deeds, .ref h_deed, .int h_law, .ref h_st, .int f1, .ref h_was, .int h_keeps, .ref h_kept, .int h_seens, .ref h_seen, .ref h_text, .int h_texted, .int h_at, .ref h_told, .int h_readPieces, .ref h_readPiece, .ref h_readRoom, .int h_readDeeds, .ref h_readDeed, .int h_readCoins, .int h_readLaw, .ref h_now])), (h_was, .inl (cI, 144, .inl h_was_c)), (h_st, .inl (cI, 18, .inl c2))]) ⟨hx, hb, hml, hown, hts⟩ (c_X6_copies l D cI cC cL cB H.size h_st h_was ((0 : Int32)) ((18 * f1)) ((18 : Int32)) ((144 : Nat)) h_was_c ((18 : Nat)) h_st_c c2 hv_2) (va_cwS 5 hts gX6_undo_X6_copies rfl rfl rfl (by decide +kernel) ⟨Nat.le_of_ble_eq_true rfl, Nat.le_of_ble_eq_true rfl⟩) hK hP hD hS hA [1, 2] rfl (by decide) [0] rfl (by decide) (by decide) [0, 1, 2] rfl (by decide) rfl hl.1 rfl (Nat.le_of_ble_eq_true rfl) dX6_undo_38 ⟨Nat.le_of_ble_eq_true rfl, Nat.le_of_ble_eq_true rfl⟩ (fun H locs hP hD hS => ?_)
    have hP : va_P D vwCl [(h, .inr (6, [.int h_pieces, .ref h_piece, .int h_deeds, .ref h_deed, .int h_law, .ref h_st, .int f1, .ref h_was, .int h_keeps, .ref h_kept, .int h_seens, .ref h_seen, .ref h_text, .int h_texted, .int h_at, .ref h_told, .int h_readPieces, .ref h_readPiece, .ref h_readRoom, .int h_readDeeds, .ref h_readDeed, .int h_readCoins, .int h_readLaw, .ref h_now])), (h_was, .inl (cI, 144, .inl h_was_c)), (h_st, .inl (cI, 18, .inl c2))] H := hP
    have hD : va_D A [(h, .inr (6, [.int h_pieces, .ref h_piece, .int h_deeds, .ref h_deed, .int h_law, .ref h_st, .int f1, .ref h_was, .int h_keeps, .ref h_kept, .int h_seens, .ref h_seen, .ref h_text, .int h_texted, .int h_at, .ref h_told, .int h_readPieces, .ref h_readPiece, .ref h_readRoom, .int h_readDeeds, .ref h_readDeed, .int h_readCoins, .int h_readLaw, .ref h_now])), (h_was, .inl (cI, 144, .inl h_was_c)), (h_st, .inl (cI, 18, .inl c2))] := hD
    refine lv_aload_n hx hb dX6_undo_41 rfl (lv_at hl 0 rfl) ?_
    refine va_get (D := D) (ci := 6) (v := .int f1) (C := RX6) (T := TX6) (N := 24) hx hb hts uX6_undo_X6 hown hK hP 0 rfl rfl 6 (by decide) (hts (.fieldLink RX6 130 "SpeaksForTheChairModel" "acts" "I") (List.mem_of_getElem? (i := 1) rfl)) (fun _ h9 => h9) rfl dX6_undo_42 ?_
    cases hf
    exact W.iret hx hb hr (fun t ht hW => ⟨⟨_, (), rfl, rfl, by rw [ht]; exact hP, va_K.moved hW.alike hK, hD⟩, hS.F ht⟩) hS.2.2 dX6_undo_45
  · have hf := ip c_1 hf
    refine lv_bipush (v := (-2)) hx hb dX6_undo_7 (by decide) ?_
    cases hf
    exact W.iret hx hb hr (fun t ht hW => ⟨⟨_, (), rfl, rfl, by rw [ht]; exact hP, va_K.moved hW.alike hK, hD⟩, hS.F ht⟩) hS.2.2 dX6_undo_9
theorem uX6_hushes_X6 : ∀ w ∈ wsX60, w ∈ wsX6_hushes := fun w h => List.mem_cons_of_mem _ (List.mem_append_right _ h)
set_option maxHeartbeats 4000000 in
set_option maxRecDepth 100000 in
theorem c_X6_hushes (l : Launch) (D : va_G) (cI cC cL cB : ClassId) (h : Nat) (h_piece : Nat) (h_deed : Nat) (h_st : Nat) (h_was : Nat) (h_kept : Nat) (h_seen : Nat) (h_text : Nat) (h_told : Nat) (h_readPiece : Nat) (h_readRoom : Nat) (h_readDeed : Nat) (h_now : Nat) (a1 : Int32) (a2 : Int32) (h_pieces : Int32) (h_deeds : Int32) (h_law : Int32) (h_acts : Int32) (h_keeps : Int32) (h_seens : Int32) (h_texted : Int32) (h_at : Int32) (h_readPieces : Int32) (h_readDeeds : Int32) (h_readCoins : Int32) (h_readLaw : Int32) (h_now_c : Nat → Int32) (h_piece_c : Nat → Int32) (h_deed_c : Nat → Int32) (r : Int32) (hf : m_X6_hushes a1 a2 h_pieces h_deeds h_law h_now_c h_piece_c h_deed_c = some r) : Met l yX6_hushes wsX6_hushes ({ frames := 5, cells := 0, slots := 0, locals := 115 }) (va_Pc [.ref h, .int a1, .int a2] (q_R D vwCl (tyL cI cC cL cB) [(h, .inr (6, [.int h_pieces, .ref h_piece, .int h_deeds, .ref h_deed, .int h_law, .ref h_st, .int h_acts, .ref h_was, .int h_keeps, .ref h_kept, .int h_seens, .ref h_seen, .ref h_text, .int h_texted, .int h_at, .ref h_told, .int h_readPieces, .ref h_readPiece, .ref h_readRoom, .int h_readDeeds, .ref h_readDeed, .int h_readCoins, .int h_readLaw, .ref h_now])), (h_now, .inl (cI, 18, .inl h_now_c)), (h_piece, .inl (cI, 16, .inl h_piece_c)), (h_deed, .inl (cI, 40, .inl h_deed_c))])) (vp_Si (fun r' => r' = r)) 0 0 (fun _ => False) := by
  refine Met.ofW (cc := cX6_hushes) (maxL := 9) (ret := (some .int)) (by decide) rfl ?_
  intro p e s m args below meth c s₁ B hml hv
  obtain ⟨rfl, hP, hK⟩ := hv
  have hx := B.exec
  have hb := B.bytes
  have hr := B.returns
  have hts := atoms_spec (ws := wsX6_hushes) B.pre
  have hown : s.vm.findClass RX6 = some m.cls := findClass_of_methodNamed B.named
  have hlocks := B.notSynchronized
  have hl := lv_entry ([.ref h, .int a1, .int a2]) (n := 9) (Nat.le_of_ble_eq_true rfl)
  rw [lg_entry_eq]
  generalize (lg_sl ([.ref h, .int a1, .int a2]) ++ List.replicate (9 - (lg_sl ([.ref h, .int a1, .int a2])).length) Slot.unset).toArray = ls at hl ⊢
  have hl : lv_has ls 9 [(0, .ref h), (1, .int a1), (2, .int a2)] := hl
  unfold m_X6_hushes at hf
  refine lv_iconst (v := 0) hx hb dX6_hushes_0 (by decide) ?_
  refine lv_istore_n (lv' := [(3, .int 0), (0, .ref h), (1, .int a1), (2, .int a2)]) hx hb dX6_hushes_1 rfl hl (by decide) rfl (fun ls hl => ?_)
  refine lv_iconst (v := (-1)) hx hb dX6_hushes_2 (by decide) ?_
  refine lv_istore (lv' := [(4, .int (-1)), (3, .int 0), (0, .ref h), (1, .int a1), (2, .int a2)]) hx hb dX6_hushes_3 hl (by decide) rfl (fun ls hl => ?_)
  refine lv_aload_n hx hb dX6_hushes_5 rfl (lv_at hl 2 rfl) ?_
  obtain ⟨x1, hv_1, hf⟩ := ob1_some hf
  refine q_rVi (As := []) (rest := []) (r := x1) ⟨hx, hb, hml, hown, hts⟩ (c_X6_loose l D cI cC cL cB h h_piece h_deed h_st h_was h_kept h_seen h_text h_told h_readPiece h_readRoom h_readDeed h_now h_pieces h_deeds h_law h_acts h_keeps h_seens h_texted h_at h_readPieces h_readDeeds h_readCoins h_readLaw h_now_c h_piece_c x1 hv_1) (cwV 0 hts gX6_hushes_X6_loose rfl rfl rfl (by decide +kernel) ⟨Nat.le_of_ble_eq_true rfl, Nat.le_of_ble_eq_true rfl⟩) hK hP [0, 1, 2] rfl (va_recv hK hP (ci := 6) (q0 := 0) rfl rfl) rfl hl.1 rfl (Nat.le_of_ble_eq_true rfl) dX6_hushes_6 ⟨Nat.le_of_ble_eq_true rfl, Nat.le_of_ble_eq_true rfl⟩ ?_
  refine lv_istore (lv' := [(5, .int x1), (4, .int (-1)), (3, .int 0), (0, .ref h), (1, .int a1), (2, .int a2)]) hx hb dX6_hushes_9 hl (by decide) rfl (fun ls hl => ?_)
  refine lv_iconst (v := 0) hx hb dX6_hushes_11 (by decide) ?_
  refine lv_istore (lv' := [(6, .int 0), (5, .int x1), (4, .int (-1)), (3, .int 0), (0, .ref h), (1, .int a1), (2, .int a2)]) hx hb dX6_hushes_12 hl (by decide) rfl (fun ls hl => ?_)
  have loop14 : ∀ (n : Nat) (x2 : Int32) (x3 : Int32) (x4 : Int32), ∀ (ls : Array Slot), lv_has ls 9 [(0, .ref h), (1, .int a1), (2, .int a2), (3, .int x2), (4, .int x3), (5, .int x1), (6, .int x4)] → ∀ (x5 : Int32) (x6 : Int32), L_X6_hushes_14 h_pieces x1 h_deeds h_deed_c h_now_c h_piece_c a1 n x2 x3 x4 = some (x5, x6) → (∀ (ls : Array Slot), lv_has ls 9 [(2, .int a2), (3, .int x5), (4, .int x6)] → W p l e (headSpec wsX6_hushes ({ frames := 5, cells := 0, slots := 0, locals := 115 })).room s m ([.ref h, .int a1, .int a2] : List Value).toArray below meth c s.heap [] 0 0 (MQ below (vp_Si (fun r' => r' = r)) ([.ref h, .int a1, .int a2] : List Value).toArray s 0 0 (fun _ => False)) (F0 m 122 ls [])) → W p l e (headSpec wsX6_hushes ({ frames := 5, cells := 0, slots := 0, locals := 115 })).room s m ([.ref h, .int a1, .int a2] : List Value).toArray below meth c s.heap [] 0 0 (MQ below (vp_Si (fun r' => r' = r)) ([.ref h, .int a1, .int a2] : List Value).toArray s 0 0 (fun _ => False)) (F0 m 14 ls []) := by
    intro n
    induction n with
    | zero =>
      intro x2 x3 x4 ls hl x5 x6 hf KX
      rw [L_X6_hushes_14] at hf
      cases hf
    | succ n ih =>
      intro x2 x3 x4 ls hl x5 x6 hf KX
      rw [L_X6_hushes_14] at hf
      refine lv_iload hx hb dX6_hushes_14 (lv_at hl 6 rfl) ?_
      refine lv_iconst (v := 1) hx hb dX6_hushes_16 (by decide) ?_
      refine lv_aload_n hx hb dX6_hushes_17 rfl (lv_at hl 0 rfl) ?_
      refine va_get (D := D) (ci := 6) (v := .int h_pieces) (C := RX6) (T := TX6) (N := 24) hx hb hts uX6_hushes_X6 hown hK hP 0 rfl rfl 0 (by decide) (hts (.fieldLink RX6 73 "SpeaksForTheChairModel" "pieces" "I") (List.mem_of_getElem? (i := 1) rfl)) (fun _ h9 => h9) rfl dX6_hushes_18 ?_
      refine lv_ishl hx hb dX6_hushes_21 ?_
      refine lv_icmp_ge (tgt := 122) hx hb dX6_hushes_22 (by decide) (fun c_34 => ?_) (fun c_34 => ?_)
      · have hf := ip c_34 hf
        cases hf
        exact KX ls (lv_sub hl [2, 3, 4] rfl)
      · have hf := im c_34 hf
        refine lv_iload hx hb dX6_hushes_25 (lv_at hl 6 rfl) ?_
        refine lv_iload hx hb dX6_hushes_27 (lv_at hl 5 rfl) ?_
        refine lv_iconst (v := (-1)) hx hb dX6_hushes_29 (by decide) ?_
        refine lv_ixor hx hb dX6_hushes_30 ?_
        refine lv_iand hx hb dX6_hushes_31 ?_
        obtain ⟨x7, hr56, hf⟩ := ob1_some hf
        refine q_jn (pcJ := 56) (nL := 9) (vs := [(0, .ref h), (1, .int a1), (2, .int a2), (3, .int x2), (4, .int x3), (5, .int x1), (6, .int x4)]) (st := [.int x7]) (fun ls hl => ?_) (fun J56 => ?_)
        · clear hr56
          refine lv_istore (lv' := [(7, .int x7), (0, .ref h), (1, .int a1), (2, .int a2), (3, .int x2), (4, .int x3), (5, .int x1), (6, .int x4)]) hx hb dX6_hushes_56 hl (by decide) rfl (fun ls hl => ?_)
          refine lv_iload hx hb dX6_hushes_58 (lv_at hl 0 rfl) ?_
          obtain ⟨x8, hr84, hf⟩ := ob1_some hf
          refine q_jn (pcJ := 84) (nL := 9) (vs := [(0, .ref h), (1, .int a1), (2, .int a2), (3, .int x2), (4, .int x3), (5, .int x1), (6, .int x4)]) (st := [.int x8]) (fun ls hl => ?_) (fun J84 => ?_)
          · clear hr84
            refine lv_istore (lv' := [(8, .int x8), (0, .ref h), (1, .int a1), (2, .int a2), (3, .int x2), (4, .int x3), (5, .int x1), (6, .int x4)]) hx hb dX6_hushes_84 hl (by decide) rfl (fun ls hl => ?_)
            refine lv_iload hx hb dX6_hushes_86 (lv_at hl 0 rfl) ?_
            obtain ⟨x9, hr97, hf⟩ := ob1_some hf
            refine q_jn (pcJ := 97) (nL := 9) (vs := [(0, .ref h), (1, .int a1), (2, .int a2), (4, .int x3), (5, .int x1), (6, .int x4), (8, .int x8)]) (st := [.int x9]) (fun ls hl => ?_) (fun J97 => ?_)
            · clear hr97
              refine lv_istore_n (lv' := [(3, .int x9), (0, .ref h), (1, .int a1), (2, .int a2), (4, .int x3), (5, .int x1), (6, .int x4), (8, .int x8)]) hx hb dX6_hushes_97 rfl hl (by decide) rfl (fun ls hl => ?_)
              refine lv_iload hx hb dX6_hushes_98 (lv_at hl 7 rfl) ?_
              refine lv_if_eq (tgt := 112) hx hb dX6_hushes_100 (by decide) (fun c_43 => ?_) (fun c_43 => ?_)
              · have hf := ip c_43 hf
                refine lv_iload hx hb dX6_hushes_112 (lv_at hl 4 rfl) ?_
                refine lv_istore (lv' := [(4, .int x3), (3, .int x9), (0, .ref h), (1, .int a1), (2, .int a2), (5, .int x1), (6, .int x4), (8, .int x8)]) hx hb dX6_hushes_114 hl (by decide) rfl (fun ls hl => ?_)
                obtain ⟨x10, ex10⟩ : ∃ y : Int32, y = (x4 + 1) := ⟨_, rfl⟩
                have hf := pv_eq ex10 hf
                refine lv_iinc (v := x10) (lv' := [(6, .int x10), (4, .int x3), (3, .int x9), (0, .ref h), (1, .int a1), (2, .int a2), (5, .int x1), (8, .int x8)]) hx hb dX6_hushes_116 hl (k := 6) rfl (by rw [ex10]; rfl) (by decide) rfl (fun ls hl => ?_)
                refine lv_goto (tgt := 14) hx hb dX6_hushes_119 (by decide) ?_
                exact ih _ _ _ ls (lv_sub hl [3, 4, 5, 2, 1, 6, 0] rfl) _ _ hf KX
              · have hf := im c_43 hf
                refine lv_aload_n hx hb dX6_hushes_103 rfl (lv_at hl 1 rfl) ?_
                refine lv_iload hx hb dX6_hushes_104 (lv_at hl 6 rfl) ?_
                obtain ⟨x11, hv_44, hf⟩ := ob1_some hf
                refine q_rVi (As := [.int x4]) (rest := []) (r := x11) ⟨hx, hb, hml, hown, hts⟩ (c_X6_priceOf l D cI cC cL cB h h_piece h_deed h_st h_was h_kept h_seen h_text h_told h_readPiece h_readRoom h_readDeed h_now x4 h_pieces h_deeds h_law h_acts h_keeps h_seens h_texted h_at h_readPieces h_readDeeds h_readCoins h_readLaw h_piece_c x11 hv_44) (cwV 1 hts gX6_hushes_X6_priceOf rfl rfl rfl (by decide +kernel) ⟨Nat.le_of_ble_eq_true rfl, Nat.le_of_ble_eq_true rfl⟩) hK hP [0, 2] rfl (va_recv hK hP (ci := 6) (q0 := 0) rfl rfl) rfl hl.1 rfl (Nat.le_of_ble_eq_true rfl) dX6_hushes_106 ⟨Nat.le_of_ble_eq_true rfl, Nat.le_of_ble_eq_true rfl⟩ ?_
                refine lv_goto (tgt := 114) hx hb dX6_hushes_109 (by decide) ?_
                refine lv_istore (lv' := [(4, .int x11), (3, .int x9), (0, .ref h), (1, .int a1), (2, .int a2), (5, .int x1), (6, .int x4), (8, .int x8)]) hx hb dX6_hushes_114 hl (by decide) rfl (fun ls hl => ?_)
                obtain ⟨x12, ex12⟩ : ∃ y : Int32, y = (x4 + 1) := ⟨_, rfl⟩
                have hf := pv_eq ex12 hf
                refine lv_iinc (v := x12) (lv' := [(6, .int x12), (4, .int x11), (3, .int x9), (0, .ref h), (1, .int a1), (2, .int a2), (5, .int x1), (8, .int x8)]) hx hb dX6_hushes_116 hl (k := 6) rfl (by rw [ex12]; rfl) (by decide) rfl (fun ls hl => ?_)
                refine lv_goto (tgt := 14) hx hb dX6_hushes_119 (by decide) ?_
                exact ih _ _ _ ls (lv_sub hl [3, 4, 5, 2, 1, 6, 0] rfl) _ _ hf KX
            · replace hf := hr97
              refine lv_if_eq (tgt := 96) hx hb dX6_hushes_88 (by decide) (fun c_42 => ?_) (fun c_42 => ?_)
              · have hf := ip c_42 hf
                refine lv_iload_n hx hb dX6_hushes_96 rfl (lv_at hl 4 rfl) ?_
                cases hf
                exact J97 ls (lv_sub hl [1, 2, 3, 5, 6, 7, 0] rfl)
              · have hf := im c_42 hf
                refine lv_iload hx hb dX6_hushes_91 (lv_at hl 7 rfl) ?_
                refine lv_goto (tgt := 97) hx hb dX6_hushes_93 (by decide) ?_
                cases hf
                exact J97 ls (lv_sub hl [1, 2, 3, 5, 6, 7, 0] rfl)
          · replace hf := hr84
            refine lv_if_eq (tgt := 83) hx hb dX6_hushes_60 (by decide) (fun c_38 => ?_) (fun c_38 => ?_)
            · have hf := ip c_38 hf
              refine lv_iconst (v := 0) hx hb dX6_hushes_83 (by decide) ?_
              cases hf
              exact J84 ls (lv_sub hl [1, 2, 3, 4, 5, 6, 7] rfl)
            · have hf := im c_38 hf
              refine lv_iload hx hb dX6_hushes_63 (lv_at hl 5 rfl) ?_
              refine lv_if_lt (tgt := 79) hx hb dX6_hushes_65 (by decide) (fun c_45 => ?_) (fun c_45 => ?_)
              · have hf := ip c_45 hf
                refine lv_iconst (v := 1) hx hb dX6_hushes_79 (by decide) ?_
                refine lv_goto (tgt := 84) hx hb dX6_hushes_80 (by decide) ?_
                cases hf
                exact J84 ls (lv_sub hl [1, 2, 3, 4, 5, 6, 7] rfl)
              · have hf := im c_45 hf
                refine lv_aload_n hx hb dX6_hushes_68 rfl (lv_at hl 1 rfl) ?_
                refine lv_iload hx hb dX6_hushes_69 (lv_at hl 7 rfl) ?_
                obtain ⟨x13, hv_46, hf⟩ := ob1_some hf
                refine q_rVi (As := [.int x4]) (rest := []) (r := x13) ⟨hx, hb, hml, hown, hts⟩ (c_X6_priceOf l D cI cC cL cB h h_piece h_deed h_st h_was h_kept h_seen h_text h_told h_readPiece h_readRoom h_readDeed h_now x4 h_pieces h_deeds h_law h_acts h_keeps h_seens h_texted h_at h_readPieces h_readDeeds h_readCoins h_readLaw h_piece_c x13 hv_46) (cwV 1 hts gX6_hushes_X6_priceOf rfl rfl rfl (by decide +kernel) ⟨Nat.le_of_ble_eq_true rfl, Nat.le_of_ble_eq_true rfl⟩) hK hP [0, 2] rfl (va_recv hK hP (ci := 6) (q0 := 0) rfl rfl) rfl hl.1 rfl (Nat.le_of_ble_eq_true rfl) dX6_hushes_71 ⟨Nat.le_of_ble_eq_true rfl, Nat.le_of_ble_eq_true rfl⟩ ?_
                refine lv_iload hx hb dX6_hushes_74 (lv_at hl 5 rfl) ?_
                refine lv_icmp_ge (tgt := 83) hx hb dX6_hushes_76 (by decide) (fun c_47 => ?_) (fun c_47 => ?_)
                · have hf := ip c_47 hf
                  refine lv_iconst (v := 0) hx hb dX6_hushes_83 (by decide) ?_
                  cases hf
                  exact J84 ls (lv_sub hl [1, 2, 3, 4, 5, 6, 7] rfl)
                · have hf := im c_47 hf
                  refine lv_iconst (v := 1) hx hb dX6_hushes_79 (by decide) ?_
                  refine lv_goto (tgt := 84) hx hb dX6_hushes_80 (by decide) ?_
                  cases hf
                  exact J84 ls (lv_sub hl [1, 2, 3, 4, 5, 6, 7] rfl)
        · replace hf := hr56
          refine lv_if_ne (tgt := 55) hx hb dX6_hushes_32 (by decide) (fun c_35 => ?_) (fun c_35 => ?_)
          · have hf := im c_35 hf
            refine lv_iconst (v := 0) hx hb dX6_hushes_55 (by decide) ?_
            cases hf
            exact J56 ls (lv_sub hl [0, 1, 2, 3, 4, 5, 6] rfl)
          · have hf := ip c_35 hf
            refine lv_aload_n hx hb dX6_hushes_35 rfl (lv_at hl 0 rfl) ?_
            refine lv_iload hx hb dX6_hushes_36 (lv_at hl 5 rfl) ?_
            refine lv_iload hx hb dX6_hushes_38 (lv_at hl 6 rfl) ?_
            refine lv_iconst (v := (-1)) hx hb dX6_hushes_40 (by decide) ?_
            refine lv_ixor hx hb dX6_hushes_41 ?_
            refine lv_iand hx hb dX6_hushes_42 ?_
            obtain ⟨x14, hv_48, hf⟩ := ob1_some hf
            refine q_rVi (As := [.int (x1 &&& (x4 ^^^ (-1)))]) (rest := []) (r := x14) ⟨hx, hb, hml, hown, hts⟩ (c_X6_toldByAll l D cI cC cL cB h h_piece h_deed h_st h_was h_kept h_seen h_text h_told h_readPiece h_readRoom h_readDeed h_now ((x1 &&& (x4 ^^^ (-1)))) h_pieces h_deeds h_law h_acts h_keeps h_seens h_texted h_at h_readPieces h_readDeeds h_readCoins h_readLaw h_deed_c h_now_c h_piece_c x14 hv_48) (cwV 1 hts gX6_hushes_X6_toldByAll rfl rfl rfl (by decide +kernel) ⟨Nat.le_of_ble_eq_true rfl, Nat.le_of_ble_eq_true rfl⟩) hK hP [0, 3, 1, 2] rfl (va_recv hK hP (ci := 6) (q0 := 0) rfl rfl) rfl hl.1 rfl (Nat.le_of_ble_eq_true rfl) dX6_hushes_43 ⟨Nat.le_of_ble_eq_true rfl, Nat.le_of_ble_eq_true rfl⟩ ?_
            refine lv_iload_n hx hb dX6_hushes_46 rfl (lv_at hl 1 rfl) ?_
            refine lv_iand hx hb dX6_hushes_47 ?_
            refine lv_if_ne (tgt := 55) hx hb dX6_hushes_48 (by decide) (fun c_49 => ?_) (fun c_49 => ?_)
            · have hf := im c_49 hf
              refine lv_iconst (v := 0) hx hb dX6_hushes_55 (by decide) ?_
              cases hf
              exact J56 ls (lv_sub hl [0, 1, 2, 3, 4, 5, 6] rfl)
            · have hf := ip c_49 hf
              refine lv_iconst (v := 1) hx hb dX6_hushes_51 (by decide) ?_
              refine lv_goto (tgt := 56) hx hb dX6_hushes_52 (by decide) ?_
              cases hf
              exact J56 ls (lv_sub hl [0, 1, 2, 3, 4, 5, 6] rfl)
  obtain ⟨x5, x6, hr14, hf⟩ := ob2_some hf
  refine loop14 300 _ _ _ ls (lv_sub hl [4, 5, 6, 3, 2, 1, 0] rfl) _ _ hr14 (fun ls hl => ?_)
  refine lv_iload_n hx hb dX6_hushes_122 rfl (lv_at hl 0 rfl) ?_
  refine lv_if_ne (tgt := 131) hx hb dX6_hushes_123 (by decide) (fun c_50 => ?_) (fun c_50 => ?_)
  · have hf := im c_50 hf
    refine lv_iload_n hx hb dX6_hushes_131 rfl (lv_at hl 1 rfl) ?_
    cases hf
    exact W.iret hx hb hr (fun t ht hW => ⟨_, rfl, rfl, ht⟩) (fun _ h => by cases h) dX6_hushes_132
  · have hf := ip c_50 hf
    refine lv_iload hx hb dX6_hushes_126 (lv_at hl 2 rfl) ?_
    refine lv_goto (tgt := 132) hx hb dX6_hushes_128 (by decide) ?_
    cases hf
    exact W.iret hx hb hr (fun t ht hW => ⟨_, rfl, rfl, ht⟩) (fun _ h => by cases h) dX6_hushes_132
theorem uX6_hush_X6 : ∀ w ∈ wsX60, w ∈ wsX6_hush := fun w h => List.mem_cons_of_mem _ (List.mem_append_right _ h)
set_option maxHeartbeats 4000000 in
set_option maxRecDepth 100000 in
theorem c_X6_hush (l : Launch) (D : va_G) (cI cC cL cB : ClassId) (sz : Nat) (h : Nat) (h_piece : Nat) (h_deed : Nat) (h_st : Nat) (h_was : Nat) (h_kept : Nat) (h_seen : Nat) (h_text : Nat) (h_told : Nat) (h_readPiece : Nat) (h_readRoom : Nat) (h_readDeed : Nat) (h_now : Nat) (a1 : Int32) (a2 : Int32) (h_pieces : Int32) (h_deeds : Int32) (h_law : Int32) (h_acts : Int32) (h_keeps : Int32) (h_seens : Int32) (h_texted : Int32) (h_at : Int32) (h_readPieces : Int32) (h_readDeeds : Int32) (h_readCoins : Int32) (h_readLaw : Int32) (h_st_c : Nat → Int32) (h_now_c : Nat → Int32) (h_piece_c : Nat → Int32) (h_deed_c : Nat → Int32) (r : Int32) (o0 : Nat → Int32) (hf : m_X6_hush a1 a2 h_pieces h_deeds h_law h_st_c h_now_c h_piece_c h_deed_c = some (r, o0)) : Met l yX6_hush wsX6_hush ({ frames := 6, cells := 0, slots := 0, locals := 143 }) (va_Pc [.ref h, .int a1, .int a2] (q_W D vwCl (tyL cI cC cL cB) [(h, .inr (6, [.int h_pieces, .ref h_piece, .int h_deeds, .ref h_deed, .int h_law, .ref h_st, .int h_acts, .ref h_was, .int h_keeps, .ref h_kept, .int h_seens, .ref h_seen, .ref h_text, .int h_texted, .int h_at, .ref h_told, .int h_readPieces, .ref h_readPiece, .ref h_readRoom, .int h_readDeeds, .ref h_readDeed, .int h_readCoins, .int h_readLaw, .ref h_now])), (h_st, .inl (cI, 18, .inl h_st_c)), (h_now, .inl (cI, 18, .inl h_now_c)), (h_piece, .inl (cI, 16, .inl h_piece_c)), (h_deed, .inl (cI, 40, .inl h_deed_c))] sz)) (va_Qi (fun r' _ => r' = r) (q_E D vwCl (tyL cI cC cL cB) (va_A [(h, .inr (6, [.int h_pieces, .ref h_piece, .int h_deeds, .ref h_deed, .int h_law, .ref h_st, .int h_acts, .ref h_was, .int h_keeps, .ref h_kept, .int h_seens, .ref h_seen, .ref h_text, .int h_texted, .int h_at, .ref h_told, .int h_readPieces, .ref h_readPiece, .ref h_readRoom, .int h_readDeeds, .ref h_readDeed, .int h_readCoins, .int h_readLaw, .ref h_now])), (h_st, .inl (cI, 18, .inl h_st_c)), (h_now, .inl (cI, 18, .inl h_now_c)), (h_piece, .inl (cI, 16, .inl h_piece_c)), (h_deed, .inl (cI, 40, .inl h_deed_c))] sz) [(h, .inr (6, [.int h_pieces, .ref h_piece, .int h_deeds, .ref h_deed, .int h_law, .ref h_st, .int h_acts, .ref h_was, .int h_keeps, .ref h_kept, .int h_seens, .ref h_seen, .ref h_text, .int h_texted, .int h_at, .ref h_told, .int h_readPieces, .ref h_readPiece, .ref h_readRoom, .int h_readDeeds, .ref h_readDeed, .int h_readCoins, .int h_readLaw, .ref h_now])), (h_st, .inl (cI, 18, .inl h_st_c)), (h_now, .inl (cI, 18, .inl o0)), (h_piece, .inl (cI, 16, .inl h_piece_c)), (h_deed, .inl (cI, 40, .inl h_deed_c))]) (va_A [(h, .inr (6, [.int h_pieces, .ref h_piece, .int h_deeds, .ref h_deed, .int h_law, .ref h_st, .int h_acts, .ref h_was, .int h_keeps, .ref h_kept, .int h_seens, .ref h_seen, .ref h_text, .int h_texted, .int h_at, .ref h_told, .int h_readPieces, .ref h_readPiece, .ref h_readRoom, .int h_readDeeds, .ref h_readDeed, .int h_readCoins, .int h_readLaw, .ref h_now])), (h_st, .inl (cI, 18, .inl h_st_c)), (h_now, .inl (cI, 18, .inl h_now_c)), (h_piece, .inl (cI, 16, .inl h_piece_c)), (h_deed, .inl (cI, 40, .inl h_deed_c))] sz)) 0 0 (va_A [(h, .inr (6, [.int h_pieces, .ref h_piece, .int h_deeds, .ref h_deed, .int h_law, .ref h_st, .int h_acts, .ref h_was, .int h_keeps, .ref h_kept, .int h_seens, .ref h_seen, .ref h_text, .int h_texted, .int h_at, .ref h_told, .int h_readPieces, .ref h_readPiece, .ref h_readRoom, .int h_readDeeds, .ref h_readDeed, .int h_readCoins, .int h_readLaw, .ref h_now])), (h_st, .inl (cI, 18, .inl h_st_c)), (h_now, .inl (cI, 18, .inl h_now_c)), (h_piece, .inl (cI, 16, .inl h_piece_c)), (h_deed, .inl (cI, 40, .inl h_deed_c))] sz) := by
  refine Met.ofW (cc := cX6_hush) (maxL := 3) (ret := (some .int)) (by decide) rfl ?_
  intro p e s m args below meth c s₁ B hml hv
  obtain ⟨rfl, hsz, hP, hK, hD0⟩ := hv
  have hx := B.exec
  have hb := B.bytes
  have hr := B.returns
  have hts := atoms_spec (ws := wsX6_hush) B.pre
  have hown : s.vm.findClass RX6 = some m.cls := findClass_of_methodNamed B.named
  have hlocks := B.notSynchronized
  subst hsz
  have hD := hD0.self (sz := s.heap.size)
  generalize hAe : va_A [(h, .inr (6, [.int h_pieces, .ref h_piece, .int h_deeds, .ref h_deed, .int h_law, .ref h_st, .int h_acts, .ref h_was, .int h_keeps, .ref h_kept, .int h_seens, .ref h_seen, .ref h_text, .int h_texted, .int h_at, .ref h_told, .int h_readPieces, .ref h_readPiece, .ref h_readRoom, .int h_readDeeds, .ref h_readDeed, .int h_readCoins, .int h_readLaw, .ref h_now])), (h_st, .inl (cI, 18, .inl h_st_c)), (h_now, .inl (cI, 18, .inl h_now_c)), (h_piece, .inl (cI, 16, .inl h_piece_c)), (h_deed, .inl (cI, 40, .inl h_deed_c))] s.heap.size = A at hD ⊢
  have hA : ∀ q : Nat, s.heap.size ≤ q → A q := fun q h => by rw [← hAe]; exact Or.inr h
  have hS : va_S A s.heap s.heap [] := va_S.rf
  have hP : va_P D vwCl [(h, .inr (6, [.int h_pieces, .ref h_piece, .int h_deeds, .ref h_deed, .int h_law, .ref h_st, .int h_acts, .ref h_was, .int h_keeps, .ref h_kept, .int h_seens, .ref h_seen, .ref h_text, .int h_texted, .int h_at, .ref h_told, .int h_readPieces, .ref h_readPiece, .ref h_readRoom, .int h_readDeeds, .ref h_readDeed, .int h_readCoins, .int h_readLaw, .ref h_now])), (h_st, .inl (cI, 18, .inl h_st_c)), (h_now, .inl (cI, 18, .inl h_now_c)), (h_piece, .inl (cI, 16, .inl h_piece_c)), (h_deed, .inl (cI, 40, .inl h_deed_c))] s.heap := hP
  have hl := lv_entry ([.ref h, .int a1, .int a2]) (n := 3) (Nat.le_of_ble_eq_true rfl)
  rw [lg_entry_eq]
  generalize (lg_sl ([.ref h, .int a1, .int a2]) ++ List.replicate (3 - (lg_sl ([.ref h, .int a1, .int a2])).length) Slot.unset).toArray = ls at hl ⊢
  have hl : lv_has ls 3 [(0, .ref h), (1, .int a1), (2, .int a2)] := hl
  unfold m_X6_hush at hf
  refine lv_aload_n hx hb dX6_hush_0 rfl (lv_at hl 0 rfl) ?_
  refine lv_iload_n hx hb dX6_hush_1 rfl (lv_at hl 1 rfl) ?_
  obtain ⟨x1, hv_1, hf⟩ := ob1_some hf
  refine q_rVi (As := [.int a1]) (rest := []) (r := x1) ⟨hx, hb, hml, hown, hts⟩ (c_X6_isDeed l D cI cC cL cB h h_piece h_deed h_st h_was h_kept h_seen h_text h_told h_readPiece h_readRoom h_readDeed h_now a1 h_pieces h_deeds h_law h_acts h_keeps h_seens h_texted h_at h_readPieces h_readDeeds h_readCoins h_readLaw x1 hv_1) (cwV 1 hts gX6_hush_X6_isDeed rfl rfl rfl (by decide +kernel) ⟨Nat.le_of_ble_eq_true rfl, Nat.le_of_ble_eq_true rfl⟩) hK hP [0] rfl (va_recv hK hP (ci := 6) (q0 := 0) rfl rfl) rfl hl.1 rfl (Nat.le_of_ble_eq_true rfl) dX6_hush_2 ⟨Nat.le_of_ble_eq_true rfl, Nat.le_of_ble_eq_true rfl⟩ ?_
  refine lv_if_eq (tgt := 17) hx hb dX6_hush_5 (by decide) (fun c_2 => ?_) (fun c_2 => ?_)
  · have hf := ip c_2 hf
    refine lv_iconst (v := (-1)) hx hb dX6_hush_17 (by decide) ?_
    cases hf
    exact W.iret hx hb hr (fun t ht hW => ⟨⟨_, (), rfl, rfl, by rw [ht]; exact hP, va_K.moved hW.alike hK, hD⟩, hS.F ht⟩) hS.2.2 dX6_hush_18
  · have hf := im c_2 hf
    refine lv_iload_n hx hb dX6_hush_8 rfl (lv_at hl 2 rfl) ?_
    refine lv_iconst (v := 0) hx hb dX6_hush_9 (by decide) ?_
    refine lv_iconst (v := 1) hx hb dX6_hush_10 (by decide) ?_
    obtain ⟨x2, hv_3, hf⟩ := ob1_some hf
    refine q_rSi (As := [.int a2, .int 0, .int 1]) (rest := []) (r := x2) ⟨hx, hb, hml, hown, hts⟩ (c_X6_in l D cI cC cL cB a2 ((0 : Int32)) ((1 : Int32)) x2 hv_3) (va_cwS 3 hts gX6_hush_X6_in rfl rfl rfl (by decide +kernel) ⟨Nat.le_of_ble_eq_true rfl, Nat.le_of_ble_eq_true rfl⟩) hK hP [] rfl rfl hl.1 rfl (Nat.le_of_ble_eq_true rfl) dX6_hush_11 ⟨Nat.le_of_ble_eq_true rfl, Nat.le_of_ble_eq_true rfl⟩ ?_
    refine lv_if_ne (tgt := 19) hx hb dX6_hush_14 (by decide) (fun c_4 => ?_) (fun c_4 => ?_)
    · have hf := im c_4 hf
      refine lv_aload_n hx hb dX6_hush_19 rfl (lv_at hl 0 rfl) ?_
      obtain ⟨c3, hv_5, hf⟩ := ob1_some hf
      refine q_wVv (As := []) (rest := []) (w1 := [(h, .inr (6, [.int h_pieces, .ref h_piece, .int h_deeds, .ref h_deed, .int h_law, .ref h_st, .int h_acts, .ref h_was, .int h_keeps, .ref h_kept, .int h_seens, .ref h_seen, .ref h_text, .int h_texted, .int h_at, .ref h_told, .int h_readPieces, .ref h_readPiece, .ref h_readRoom, .int h_readDeeds, .ref h_readDeed, .int h_readCoins, .int h_readLaw, .ref h_now])), (h_st, .inl (cI, 18, .inl h_st_c)), (h_now, .inl (cI, 18, .inl c3))]) (wr := [(h_piece, .inl (cI, 16, .inl h_piece_c)), (h_deed, .inl (cI, 40, .inl h_deed_c))]) (w2 := [(h, .inr (6, [.int h_pieces, .ref h_piece, .int h_deeds, .ref h_deed, .int h_law, .ref h_st, .int h_acts, .ref h_was, .int h_keeps, .ref h_kept, .int h_seens, .ref h_seen, .ref h_text, .int h_texted, .int h_at, .ref h_told, .int h_readPieces, .ref h_readPiece, .ref h_readRoom, .int h_readDeeds, .ref h_readDeed, .int h_readCoins, .int h_readLaw, .ref h_now])), (h_st, .inl (cI, 18, .inl h_st_c)), (h_now, .inl (cI, 18, .inl c3)), (h_piece, .inl (cI, 16, .inl h_piece_c)), (h_deed, .inl (cI, 40, .inl h_deed_c))]) ⟨hx, hb, hml, hown, hts⟩ (c_X6_asItIs l D cI cC cL cB s.heap.size h h_piece h_deed h_st h_was h_kept h_seen h_text h_told h_readPiece h_readRoom h_readDeed h_now h_pieces h_deeds h_law h_acts h_keeps h_seens h_texted h_at h_readPieces h_readDeeds h_readCoins h_readLaw h_st_c h_now_c c3 hv_5) (cwV 0 hts gX6_hush_X6_asItIs rfl rfl rfl (by decide +kernel) ⟨Nat.le_of_ble_eq_true rfl, Nat.le_of_ble_eq_true rfl⟩) hK hP hD hS hA [0, 1, 2] rfl (by decide) [3, 4] rfl (by decide) (by decide) [2, 3, 4, 0, 1] rfl (by decide) (va_recv hK hP (ci := 6) (q0 := 0) rfl rfl) rfl hl.1 rfl (Nat.le_of_ble_eq_true rfl) dX6_hush_20 ⟨Nat.le_of_ble_eq_true rfl, Nat.le_of_ble_eq_true rfl⟩ (fun H locs hP hD hS => ?_)
      have hP : va_P D vwCl [(h, .inr (6, [.int h_pieces, .ref h_piece, .int h_deeds, .ref h_deed, .int h_law, .ref h_st, .int h_acts, .ref h_was, .int h_keeps, .ref h_kept, .int h_seens, .ref h_seen, .ref h_text, .int h_texted, .int h_at, .ref h_told, .int h_readPieces, .ref h_readPiece, .ref h_readRoom, .int h_readDeeds, .ref h_readDeed, .int h_readCoins, .int h_readLaw, .ref h_now])), (h_st, .inl (cI, 18, .inl h_st_c)), (h_now, .inl (cI, 18, .inl c3)), (h_piece, .inl (cI, 16, .inl h_piece_c)), (h_deed, .inl (cI, 40, .inl h_deed_c))] H := hP
      have hD : va_D A [(h, .inr (6, [.int h_pieces, .ref h_piece, .int h_deeds, .ref h_deed, .int h_law, .ref h_st, .int h_acts, .ref h_was, .int h_keeps, .ref h_kept, .int h_seens, .ref h_seen, .ref h_text, .int h_texted, .int h_at, .ref h_told, .int h_readPieces, .ref h_readPiece, .ref h_readRoom, .int h_readDeeds, .ref h_readDeed, .int h_readCoins, .int h_readLaw, .ref h_now])), (h_st, .inl (cI, 18, .inl h_st_c)), (h_now, .inl (cI, 18, .inl c3)), (h_piece, .inl (cI, 16, .inl h_piece_c)), (h_deed, .inl (cI, 40, .inl h_deed_c))] := hD
      refine lv_aload_n hx hb dX6_hush_23 rfl (lv_at hl 0 rfl) ?_
      refine va_get (D := D) (ci := 6) (v := .ref h_st) (C := RX6) (T := TX6) (N := 24) hx hb hts uX6_hush_X6 hown hK hP 0 rfl rfl 5 (by decide) (hts (.fieldLink RX6 16 "SpeaksForTheChairModel" "st" "[I") (List.mem_of_getElem? (i := 1) rfl)) (fun _ h9 => h9) rfl dX6_hush_24 ?_
      refine lv_iconst (v := 1) hx hb dX6_hush_27 (by decide) ?_
      refine va_iald hx hb hK hP 1 0 rfl rfl (okI_in (by decide)) dX6_hush_28 ?_
      refine lv_iload_n hx hb dX6_hush_29 rfl (lv_at hl 1 rfl) ?_
      obtain ⟨x4, hv_6, hf⟩ := ob1_some hf
      refine q_rSi (As := [.int (h_st_c (1 : Int32).toNatClampNeg), .int a1]) (rest := []) (r := x4) ⟨hx, hb, hml, hown, hts⟩ (c_X6_has l D cI cC cL cB ((h_st_c (1 : Int32).toNatClampNeg)) a1 x4 hv_6) (va_cwS 2 hts gX6_hush_X6_has rfl rfl rfl (by decide +kernel) ⟨Nat.le_of_ble_eq_true rfl, Nat.le_of_ble_eq_true rfl⟩) hK hP [] rfl rfl hl.1 rfl (Nat.le_of_ble_eq_true rfl) dX6_hush_30 ⟨Nat.le_of_ble_eq_true rfl, Nat.le_of_ble_eq_true rfl⟩ ?_
      refine lv_if_eq (tgt := 41) hx hb dX6_hush_33 (by decide) (fun c_7 => ?_) (fun c_7 => ?_)
      · have hf := ip c_7 hf
        refine lv_aload_n hx hb dX6_hush_41 rfl (lv_at hl 0 rfl) ?_
        refine lv_iconst (v := 1) hx hb dX6_hush_42 (by decide) ?_
        refine lv_iload_n hx hb dX6_hush_43 rfl (lv_at hl 1 rfl) ?_
        refine lv_ishl hx hb dX6_hush_44 ?_
        refine lv_iload_n hx hb dX6_hush_45 rfl (lv_at hl 2 rfl) ?_
        obtain ⟨x5, hv_8, hf⟩ := ob1_some hf
        refine q_rVi (As := [.int ((1 : Int32) <<< (a1 &&& 31)), .int a2]) (rest := []) (r := x5) ⟨hx, hb, hml, hown, hts⟩ (c_X6_hushes l D cI cC cL cB h h_piece h_deed h_st h_was h_kept h_seen h_text h_told h_readPiece h_readRoom h_readDeed h_now (((1 : Int32) <<< (a1 &&& 31))) a2 h_pieces h_deeds h_law h_acts h_keeps h_seens h_texted h_at h_readPieces h_readDeeds h_readCoins h_readLaw c3 h_piece_c h_deed_c x5 hv_8) (cwV 2 hts gX6_hush_X6_hushes rfl rfl rfl (by decide +kernel) ⟨Nat.le_of_ble_eq_true rfl, Nat.le_of_ble_eq_true rfl⟩) hK hP [0, 2, 3, 4] rfl (va_recv hK hP (ci := 6) (q0 := 0) rfl rfl) rfl hl.1 rfl (Nat.le_of_ble_eq_true rfl) dX6_hush_46 ⟨Nat.le_of_ble_eq_true rfl, Nat.le_of_ble_eq_true rfl⟩ ?_
        cases hf
        exact W.iret hx hb hr (fun t ht hW => ⟨⟨_, (), rfl, rfl, by rw [ht]; exact hP, va_K.moved hW.alike hK, hD⟩, hS.F ht⟩) hS.2.2 dX6_hush_49
      · have hf := im c_7 hf
        refine lv_bipush (v := (-4)) hx hb dX6_hush_36 (by decide) ?_
        refine lv_goto (tgt := 49) hx hb dX6_hush_38 (by decide) ?_
        cases hf
        exact W.iret hx hb hr (fun t ht hW => ⟨⟨_, (), rfl, rfl, by rw [ht]; exact hP, va_K.moved hW.alike hK, hD⟩, hS.F ht⟩) hS.2.2 dX6_hush_49
    · have hf := ip c_4 hf
      refine lv_iconst (v := (-1)) hx hb dX6_hush_17 (by decide) ?_
      cases hf
      exact W.iret hx hb hr (fun t ht hW => ⟨⟨_, (), rfl, rfl, by rw [ht]; exact hP, va_K.moved hW.alike hK, hD⟩, hS.F ht⟩) hS.2.2 dX6_hush_18
theorem uX6_hushAll_X6 : ∀ w ∈ wsX60, w ∈ wsX6_hushAll := fun w h => List.mem_cons_of_mem _ (List.mem_append_right _ h)
set_option maxHeartbeats 4000000 in
set_option maxRecDepth 100000 in
theorem c_X6_hushAll (l : Launch) (D : va_G) (cI cC cL cB : ClassId) (sz : Nat) (h : Nat) (h_piece : Nat) (h_deed : Nat) (h_st : Nat) (h_was : Nat) (h_kept : Nat) (h_seen : Nat) (h_text : Nat) (h_told : Nat) (h_readPiece : Nat) (h_readRoom : Nat) (h_readDeed : Nat) (h_now : Nat) (a1 : Int32) (a2 : Int32) (h_pieces : Int32) (h_deeds : Int32) (h_law : Int32) (h_acts : Int32) (h_keeps : Int32) (h_seens : Int32) (h_texted : Int32) (h_at : Int32) (h_readPieces : Int32) (h_readDeeds : Int32) (h_readCoins : Int32) (h_readLaw : Int32) (h_st_c : Nat → Int32) (h_now_c : Nat → Int32) (h_deed_c : Nat → Int32) (h_piece_c : Nat → Int32) (r : Int32) (o0 : Nat → Int32) (hf : m_X6_hushAll a1 a2 h_pieces h_deeds h_law h_st_c h_now_c h_deed_c h_piece_c = some (r, o0)) : Met l yX6_hushAll wsX6_hushAll ({ frames := 6, cells := 0, slots := 0, locals := 143 }) (va_Pc [.ref h, .int a1, .int a2] (q_W D vwCl (tyL cI cC cL cB) [(h, .inr (6, [.int h_pieces, .ref h_piece, .int h_deeds, .ref h_deed, .int h_law, .ref h_st, .int h_acts, .ref h_was, .int h_keeps, .ref h_kept, .int h_seens, .ref h_seen, .ref h_text, .int h_texted, .int h_at, .ref h_told, .int h_readPieces, .ref h_readPiece, .ref h_readRoom, .int h_readDeeds, .ref h_readDeed, .int h_readCoins, .int h_readLaw, .ref h_now])), (h_st, .inl (cI, 18, .inl h_st_c)), (h_now, .inl (cI, 18, .inl h_now_c)), (h_deed, .inl (cI, 40, .inl h_deed_c)), (h_piece, .inl (cI, 16, .inl h_piece_c))] sz)) (va_Qi (fun r' _ => r' = r) (q_E D vwCl (tyL cI cC cL cB) (va_A [(h, .inr (6, [.int h_pieces, .ref h_piece, .int h_deeds, .ref h_deed, .int h_law, .ref h_st, .int h_acts, .ref h_was, .int h_keeps, .ref h_kept, .int h_seens, .ref h_seen, .ref h_text, .int h_texted, .int h_at, .ref h_told, .int h_readPieces, .ref h_readPiece, .ref h_readRoom, .int h_readDeeds, .ref h_readDeed, .int h_readCoins, .int h_readLaw, .ref h_now])), (h_st, .inl (cI, 18, .inl h_st_c)), (h_now, .inl (cI, 18, .inl h_now_c)), (h_deed, .inl (cI, 40, .inl h_deed_c)), (h_piece, .inl (cI, 16, .inl h_piece_c))] sz) [(h, .inr (6, [.int h_pieces, .ref h_piece, .int h_deeds, .ref h_deed, .int h_law, .ref h_st, .int h_acts, .ref h_was, .int h_keeps, .ref h_kept, .int h_seens, .ref h_seen, .ref h_text, .int h_texted, .int h_at, .ref h_told, .int h_readPieces, .ref h_readPiece, .ref h_readRoom, .int h_readDeeds, .ref h_readDeed, .int h_readCoins, .int h_readLaw, .ref h_now])), (h_st, .inl (cI, 18, .inl h_st_c)), (h_now, .inl (cI, 18, .inl o0)), (h_deed, .inl (cI, 40, .inl h_deed_c)), (h_piece, .inl (cI, 16, .inl h_piece_c))]) (va_A [(h, .inr (6, [.int h_pieces, .ref h_piece, .int h_deeds, .ref h_deed, .int h_law, .ref h_st, .int h_acts, .ref h_was, .int h_keeps, .ref h_kept, .int h_seens, .ref h_seen, .ref h_text, .int h_texted, .int h_at, .ref h_told, .int h_readPieces, .ref h_readPiece, .ref h_readRoom, .int h_readDeeds, .ref h_readDeed, .int h_readCoins, .int h_readLaw, .ref h_now])), (h_st, .inl (cI, 18, .inl h_st_c)), (h_now, .inl (cI, 18, .inl h_now_c)), (h_deed, .inl (cI, 40, .inl h_deed_c)), (h_piece, .inl (cI, 16, .inl h_piece_c))] sz)) 0 0 (va_A [(h, .inr (6, [.int h_pieces, .ref h_piece, .int h_deeds, .ref h_deed, .int h_law, .ref h_st, .int h_acts, .ref h_was, .int h_keeps, .ref h_kept, .int h_seens, .ref h_seen, .ref h_text, .int h_texted, .int h_at, .ref h_told, .int h_readPieces, .ref h_readPiece, .ref h_readRoom, .int h_readDeeds, .ref h_readDeed, .int h_readCoins, .int h_readLaw, .ref h_now])), (h_st, .inl (cI, 18, .inl h_st_c)), (h_now, .inl (cI, 18, .inl h_now_c)), (h_deed, .inl (cI, 40, .inl h_deed_c)), (h_piece, .inl (cI, 16, .inl h_piece_c))] sz) := by
  refine Met.ofW (cc := cX6_hushAll) (maxL := 5) (ret := (some .int)) (by decide) rfl ?_
  intro p e s m args below meth c s₁ B hml hv
  obtain ⟨rfl, hsz, hP, hK, hD0⟩ := hv
  have hx := B.exec
  have hb := B.bytes
  have hr := B.returns
  have hts := atoms_spec (ws := wsX6_hushAll) B.pre
  have hown : s.vm.findClass RX6 = some m.cls := findClass_of_methodNamed B.named
  have hlocks := B.notSynchronized
  subst hsz
  have hD := hD0.self (sz := s.heap.size)
  generalize hAe : va_A [(h, .inr (6, [.int h_pieces, .ref h_piece, .int h_deeds, .ref h_deed, .int h_law, .ref h_st, .int h_acts, .ref h_was, .int h_keeps, .ref h_kept, .int h_seens, .ref h_seen, .ref h_text, .int h_texted, .int h_at, .ref h_told, .int h_readPieces, .ref h_readPiece, .ref h_readRoom, .int h_readDeeds, .ref h_readDeed, .int h_readCoins, .int h_readLaw, .ref h_now])), (h_st, .inl (cI, 18, .inl h_st_c)), (h_now, .inl (cI, 18, .inl h_now_c)), (h_deed, .inl (cI, 40, .inl h_deed_c)), (h_piece, .inl (cI, 16, .inl h_piece_c))] s.heap.size = A at hD ⊢
  have hA : ∀ q : Nat, s.heap.size ≤ q → A q := fun q h => by rw [← hAe]; exact Or.inr h
  have hS : va_S A s.heap s.heap [] := va_S.rf
  have hP : va_P D vwCl [(h, .inr (6, [.int h_pieces, .ref h_piece, .int h_deeds, .ref h_deed, .int h_law, .ref h_st, .int h_acts, .ref h_was, .int h_keeps, .ref h_kept, .int h_seens, .ref h_seen, .ref h_text, .int h_texted, .int h_at, .ref h_told, .int h_readPieces, .ref h_readPiece, .ref h_readRoom, .int h_readDeeds, .ref h_readDeed, .int h_readCoins, .int h_readLaw, .ref h_now])), (h_st, .inl (cI, 18, .inl h_st_c)), (h_now, .inl (cI, 18, .inl h_now_c)), (h_deed, .inl (cI, 40, .inl h_deed_c)), (h_piece, .inl (cI, 16, .inl h_piece_c))] s.heap := hP
  have hl := lv_entry ([.ref h, .int a1, .int a2]) (n := 5) (Nat.le_of_ble_eq_true rfl)
  rw [lg_entry_eq]
  generalize (lg_sl ([.ref h, .int a1, .int a2]) ++ List.replicate (5 - (lg_sl ([.ref h, .int a1, .int a2])).length) Slot.unset).toArray = ls at hl ⊢
  have hl : lv_has ls 5 [(0, .ref h), (1, .int a1), (2, .int a2)] := hl
  unfold m_X6_hushAll at hf
  refine lv_iload_n hx hb dX6_hushAll_0 rfl (lv_at hl 1 rfl) ?_
  refine lv_iconst (v := 1) hx hb dX6_hushAll_1 (by decide) ?_
  refine lv_bipush (v := 30) hx hb dX6_hushAll_2 (by decide) ?_
  obtain ⟨x1, hv_1, hf⟩ := ob1_some hf
  refine q_rSi (As := [.int a1, .int 1, .int 30]) (rest := []) (r := x1) ⟨hx, hb, hml, hown, hts⟩ (c_X6_in l D cI cC cL cB a1 ((1 : Int32)) ((30 : Int32)) x1 hv_1) (va_cwS 3 hts gX6_hushAll_X6_in rfl rfl rfl (by decide +kernel) ⟨Nat.le_of_ble_eq_true rfl, Nat.le_of_ble_eq_true rfl⟩) hK hP [] rfl rfl hl.1 rfl (Nat.le_of_ble_eq_true rfl) dX6_hushAll_4 ⟨Nat.le_of_ble_eq_true rfl, Nat.le_of_ble_eq_true rfl⟩ ?_
  refine lv_if_eq (tgt := 19) hx hb dX6_hushAll_7 (by decide) (fun c_2 => ?_) (fun c_2 => ?_)
  · have hf := ip c_2 hf
    refine lv_iconst (v := (-1)) hx hb dX6_hushAll_19 (by decide) ?_
    cases hf
    exact W.iret hx hb hr (fun t ht hW => ⟨⟨_, (), rfl, rfl, by rw [ht]; exact hP, va_K.moved hW.alike hK, hD⟩, hS.F ht⟩) hS.2.2 dX6_hushAll_20
  · have hf := im c_2 hf
    refine lv_iload_n hx hb dX6_hushAll_10 rfl (lv_at hl 2 rfl) ?_
    refine lv_iconst (v := 0) hx hb dX6_hushAll_11 (by decide) ?_
    refine lv_iconst (v := 1) hx hb dX6_hushAll_12 (by decide) ?_
    obtain ⟨x2, hv_3, hf⟩ := ob1_some hf
    refine q_rSi (As := [.int a2, .int 0, .int 1]) (rest := []) (r := x2) ⟨hx, hb, hml, hown, hts⟩ (c_X6_in l D cI cC cL cB a2 ((0 : Int32)) ((1 : Int32)) x2 hv_3) (va_cwS 3 hts gX6_hushAll_X6_in rfl rfl rfl (by decide +kernel) ⟨Nat.le_of_ble_eq_true rfl, Nat.le_of_ble_eq_true rfl⟩) hK hP [] rfl rfl hl.1 rfl (Nat.le_of_ble_eq_true rfl) dX6_hushAll_13 ⟨Nat.le_of_ble_eq_true rfl, Nat.le_of_ble_eq_true rfl⟩ ?_
    refine lv_if_ne (tgt := 21) hx hb dX6_hushAll_16 (by decide) (fun c_4 => ?_) (fun c_4 => ?_)
    · have hf := im c_4 hf
      refine lv_aload_n hx hb dX6_hushAll_21 rfl (lv_at hl 0 rfl) ?_
      obtain ⟨c3, hv_5, hf⟩ := ob1_some hf
      refine q_wVv (As := []) (rest := []) (w1 := [(h, .inr (6, [.int h_pieces, .ref h_piece, .int h_deeds, .ref h_deed, .int h_law, .ref h_st, .int h_acts, .ref h_was, .int h_keeps, .ref h_kept, .int h_seens, .ref h_seen, .ref h_text, .int h_texted, .int h_at, .ref h_told, .int h_readPieces, .ref h_readPiece, .ref h_readRoom, .int h_readDeeds, .ref h_readDeed, .int h_readCoins, .int h_readLaw, .ref h_now])), (h_st, .inl (cI, 18, .inl h_st_c)), (h_now, .inl (cI, 18, .inl c3))]) (wr := [(h_deed, .inl (cI, 40, .inl h_deed_c)), (h_piece, .inl (cI, 16, .inl h_piece_c))]) (w2 := [(h, .inr (6, [.int h_pieces, .ref h_piece, .int h_deeds, .ref h_deed, .int h_law, .ref h_st, .int h_acts, .ref h_was, .int h_keeps, .ref h_kept, .int h_seens, .ref h_seen, .ref h_text, .int h_texted, .int h_at, .ref h_told, .int h_readPieces, .ref h_readPiece, .ref h_readRoom, .int h_readDeeds, .ref h_readDeed, .int h_readCoins, .int h_readLaw, .ref h_now])), (h_st, .inl (cI, 18, .inl h_st_c)), (h_now, .inl (cI, 18, .inl c3)), (h_deed, .inl (cI, 40, .inl h_deed_c)), (h_piece, .inl (cI, 16, .inl h_piece_c))]) ⟨hx, hb, hml, hown, hts⟩ (c_X6_asItIs l D cI cC cL cB s.heap.size h h_piece h_deed h_st h_was h_kept h_seen h_text h_told h_readPiece h_readRoom h_readDeed h_now h_pieces h_deeds h_law h_acts h_keeps h_seens h_texted h_at h_readPieces h_readDeeds h_readCoins h_readLaw h_st_c h_now_c c3 hv_5) (cwV 0 hts gX6_hushAll_X6_asItIs rfl rfl rfl (by decide +kernel) ⟨Nat.le_of_ble_eq_true rfl, Nat.le_of_ble_eq_true rfl⟩) hK hP hD hS hA [0, 1, 2] rfl (by decide) [3, 4] rfl (by decide) (by decide) [2, 3, 4, 0, 1] rfl (by decide) (va_recv hK hP (ci := 6) (q0 := 0) rfl rfl) rfl hl.1 rfl (Nat.le_of_ble_eq_true rfl) dX6_hushAll_22 ⟨Nat.le_of_ble_eq_true rfl, Nat.le_of_ble_eq_true rfl⟩ (fun H locs hP hD hS => ?_)
      have hP : va_P D vwCl [(h, .inr (6, [.int h_pieces, .ref h_piece, .int h_deeds, .ref h_deed, .int h_law, .ref h_st, .int h_acts, .ref h_was, .int h_keeps, .ref h_kept, .int h_seens, .ref h_seen, .ref h_text, .int h_texted, .int h_at, .ref h_told, .int h_readPieces, .ref h_readPiece, .ref h_readRoom, .int h_readDeeds, .ref h_readDeed, .int h_readCoins, .int h_readLaw, .ref h_now])), (h_st, .inl (cI, 18, .inl h_st_c)), (h_now, .inl (cI, 18, .inl c3)), (h_deed, .inl (cI, 40, .inl h_deed_c)), (h_piece, .inl (cI, 16, .inl h_piece_c))] H := hP
      have hD : va_D A [(h, .inr (6, [.int h_pieces, .ref h_piece, .int h_deeds, .ref h_deed, .int h_law, .ref h_st, .int h_acts, .ref h_was, .int h_keeps, .ref h_kept, .int h_seens, .ref h_seen, .ref h_text, .int h_texted, .int h_at, .ref h_told, .int h_readPieces, .ref h_readPiece, .ref h_readRoom, .int h_readDeeds, .ref h_readDeed, .int h_readCoins, .int h_readLaw, .ref h_now])), (h_st, .inl (cI, 18, .inl h_st_c)), (h_now, .inl (cI, 18, .inl c3)), (h_deed, .inl (cI, 40, .inl h_deed_c)), (h_piece, .inl (cI, 16, .inl h_piece_c))] := hD
      refine lv_iconst (v := 0) hx hb dX6_hushAll_25 (by decide) ?_
      refine lv_istore_n (lv' := [(3, .int 0), (0, .ref h), (1, .int a1), (2, .int a2)]) hx hb dX6_hushAll_26 rfl hl (by decide) rfl (fun ls hl => ?_)
      refine lv_iconst (v := 0) hx hb dX6_hushAll_27 (by decide) ?_
      refine lv_istore (lv' := [(4, .int 0), (3, .int 0), (0, .ref h), (1, .int a1), (2, .int a2)]) hx hb dX6_hushAll_28 hl (by decide) rfl (fun ls hl => ?_)
      have loop30 : ∀ (n : Nat) (x4 : Int32) (x5 : Int32), ∀ (ls : Array Slot), lv_has ls 5 [(0, .ref h), (1, .int a1), (2, .int a2), (3, .int x4), (4, .int x5)] → ∀ (x6 : Int32), L_X6_hushAll_30 h_deeds h_deed_c a1 h_st_c n x4 x5 = some x6 → (∀ (ls : Array Slot), lv_has ls 5 [(0, .ref h), (2, .int a2), (3, .int x6)] → W p l e (headSpec wsX6_hushAll ({ frames := 6, cells := 0, slots := 0, locals := 143 })).room s m ([.ref h, .int a1, .int a2] : List Value).toArray below meth c H locs 0 0 (MQ below (va_Qi (fun r' _ => r' = r) (q_E D vwCl (tyL cI cC cL cB) A [(h, .inr (6, [.int h_pieces, .ref h_piece, .int h_deeds, .ref h_deed, .int h_law, .ref h_st, .int h_acts, .ref h_was, .int h_keeps, .ref h_kept, .int h_seens, .ref h_seen, .ref h_text, .int h_texted, .int h_at, .ref h_told, .int h_readPieces, .ref h_readPiece, .ref h_readRoom, .int h_readDeeds, .ref h_readDeed, .int h_readCoins, .int h_readLaw, .ref h_now])), (h_st, .inl (cI, 18, .inl h_st_c)), (h_now, .inl (cI, 18, .inl o0)), (h_deed, .inl (cI, 40, .inl h_deed_c)), (h_piece, .inl (cI, 16, .inl h_piece_c))]) A) ([.ref h, .int a1, .int a2] : List Value).toArray s 0 0 A) (F0 m 80 ls [])) → W p l e (headSpec wsX6_hushAll ({ frames := 6, cells := 0, slots := 0, locals := 143 })).room s m ([.ref h, .int a1, .int a2] : List Value).toArray below meth c H locs 0 0 (MQ below (va_Qi (fun r' _ => r' = r) (q_E D vwCl (tyL cI cC cL cB) A [(h, .inr (6, [.int h_pieces, .ref h_piece, .int h_deeds, .ref h_deed, .int h_law, .ref h_st, .int h_acts, .ref h_was, .int h_keeps, .ref h_kept, .int h_seens, .ref h_seen, .ref h_text, .int h_texted, .int h_at, .ref h_told, .int h_readPieces, .ref h_readPiece, .ref h_readRoom, .int h_readDeeds, .ref h_readDeed, .int h_readCoins, .int h_readLaw, .ref h_now])), (h_st, .inl (cI, 18, .inl h_st_c)), (h_now, .inl (cI, 18, .inl o0)), (h_deed, .inl (cI, 40, .inl h_deed_c)), (h_piece, .inl (cI, 16, .inl h_piece_c))]) A) ([.ref h, .int a1, .int a2] : List Value).toArray s 0 0 A) (F0 m 30 ls []) := by
        intro n
        induction n with
        | zero =>
          intro x4 x5 ls hl x6 hf KX
          rw [L_X6_hushAll_30] at hf
          cases hf
        | succ n ih =>
          intro x4 x5 ls hl x6 hf KX
          rw [L_X6_hushAll_30] at hf
          refine lv_iload hx hb dX6_hushAll_30 (lv_at hl 4 rfl) ?_
          refine lv_aload_n hx hb dX6_hushAll_32 rfl (lv_at hl 0 rfl) ?_
          refine va_get (D := D) (ci := 6) (v := .int h_deeds) (C := RX6) (T := TX6) (N := 24) hx hb hts uX6_hushAll_X6 hown hK hP 0 rfl rfl 2 (by decide) (hts (.fieldLink RX6 80 "SpeaksForTheChairModel" "deeds" "I") (List.mem_of_getElem? (i := 1) rfl)) (fun _ h9 => h9) rfl dX6_hushAll_33 ?_
          refine lv_icmp_ge (tgt := 80) hx hb dX6_hushAll_36 (by decide) (fun c_16 => ?_) (fun c_16 => ?_)
          · have hf := ip c_16 hf
            cases hf
            exact KX ls (lv_sub hl [0, 2, 3] rfl)
          · have hf := im c_16 hf
            refine lv_iload_n hx hb dX6_hushAll_39 rfl (lv_at hl 3 rfl) ?_
            refine lv_aload_n hx hb dX6_hushAll_40 rfl (lv_at hl 0 rfl) ?_
            refine lv_iload hx hb dX6_hushAll_41 (lv_at hl 4 rfl) ?_
            obtain ⟨x7, hv_17, hf⟩ := ob1_some hf
            refine q_rVi (As := [.int x5]) (rest := [.int x4]) (r := x7) ⟨hx, hb, hml, hown, hts⟩ (c_X6_weighs l D cI cC cL cB h h_piece h_deed h_st h_was h_kept h_seen h_text h_told h_readPiece h_readRoom h_readDeed h_now x5 h_pieces h_deeds h_law h_acts h_keeps h_seens h_texted h_at h_readPieces h_readDeeds h_readCoins h_readLaw h_deed_c x7 hv_17) (cwV 1 hts gX6_hushAll_X6_weighs rfl rfl rfl (by decide +kernel) ⟨Nat.le_of_ble_eq_true rfl, Nat.le_of_ble_eq_true rfl⟩) hK hP [0, 3] rfl (va_recv hK hP (ci := 6) (q0 := 0) rfl rfl) rfl hl.1 rfl (Nat.le_of_ble_eq_true rfl) dX6_hushAll_43 ⟨Nat.le_of_ble_eq_true rfl, Nat.le_of_ble_eq_true rfl⟩ ?_
            refine lv_iload_n hx hb dX6_hushAll_46 rfl (lv_at hl 1 rfl) ?_
            refine lv_icmp_lt (tgt := 71) hx hb dX6_hushAll_47 (by decide) (fun c_18 => ?_) (fun c_18 => ?_)
            · have hf := ip c_18 hf
              refine lv_iconst (v := 0) hx hb dX6_hushAll_71 (by decide) ?_
              refine lv_ior hx hb dX6_hushAll_72 ?_
              refine lv_topi (fun x8 ex8 => ?_)
              have hf := pv_eq ex8 hf
              refine lv_istore_n (lv' := [(3, .int x8), (0, .ref h), (1, .int a1), (2, .int a2), (4, .int x5)]) hx hb dX6_hushAll_73 rfl hl (by decide) rfl (fun ls hl => ?_)
              obtain ⟨x9, ex9⟩ : ∃ y : Int32, y = (x5 + 1) := ⟨_, rfl⟩
              have hf := pv_eq ex9 hf
              refine lv_iinc (v := x9) (lv' := [(4, .int x9), (3, .int x8), (0, .ref h), (1, .int a1), (2, .int a2)]) hx hb dX6_hushAll_74 hl (k := 4) rfl (by rw [ex9]; rfl) (by decide) rfl (fun ls hl => ?_)
              refine lv_goto (tgt := 30) hx hb dX6_hushAll_77 (by decide) ?_
              exact ih _ _ ls (lv_sub hl [2, 3, 4, 1, 0] rfl) _ hf KX
            · have hf := im c_18 hf
              refine lv_aload_n hx hb dX6_hushAll_50 rfl (lv_at hl 0 rfl) ?_
              refine va_get (D := D) (ci := 6) (v := .ref h_st) (C := RX6) (T := TX6) (N := 24) hx hb hts uX6_hushAll_X6 hown hK hP 0 rfl rfl 5 (by decide) (hts (.fieldLink RX6 16 "SpeaksForTheChairModel" "st" "[I") (List.mem_of_getElem? (i := 2) rfl)) (fun _ h9 => h9) rfl dX6_hushAll_51 ?_
              refine lv_iconst (v := 1) hx hb dX6_hushAll_54 (by decide) ?_
              refine va_iald hx hb hK hP 1 0 rfl rfl (okI_in (by decide)) dX6_hushAll_55 ?_
              refine lv_iload hx hb dX6_hushAll_56 (lv_at hl 4 rfl) ?_
              obtain ⟨x10, hv_19, hf⟩ := ob1_some hf
              refine q_rSi (As := [.int (h_st_c (1 : Int32).toNatClampNeg), .int x5]) (rest := [.int x4]) (r := x10) ⟨hx, hb, hml, hown, hts⟩ (c_X6_has l D cI cC cL cB ((h_st_c (1 : Int32).toNatClampNeg)) x5 x10 hv_19) (va_cwS 2 hts gX6_hushAll_X6_has rfl rfl rfl (by decide +kernel) ⟨Nat.le_of_ble_eq_true rfl, Nat.le_of_ble_eq_true rfl⟩) hK hP [] rfl rfl hl.1 rfl (Nat.le_of_ble_eq_true rfl) dX6_hushAll_58 ⟨Nat.le_of_ble_eq_true rfl, Nat.le_of_ble_eq_true rfl⟩ ?_
              refine lv_if_ne (tgt := 71) hx hb dX6_hushAll_61 (by decide) (fun c_20 => ?_) (fun c_20 => ?_)
              · have hf := im c_20 hf
                refine lv_iconst (v := 0) hx hb dX6_hushAll_71 (by decide) ?_
                refine lv_ior hx hb dX6_hushAll_72 ?_
                refine lv_topi (fun x11 ex11 => ?_)
                have hf := pv_eq ex11 hf
                refine lv_istore_n (lv' := [(3, .int x11), (0, .ref h), (1, .int a1), (2, .int a2), (4, .int x5)]) hx hb dX6_hushAll_73 rfl hl (by decide) rfl (fun ls hl => ?_)
                obtain ⟨x12, ex12⟩ : ∃ y : Int32, y = (x5 + 1) := ⟨_, rfl⟩
                have hf := pv_eq ex12 hf
                refine lv_iinc (v := x12) (lv' := [(4, .int x12), (3, .int x11), (0, .ref h), (1, .int a1), (2, .int a2)]) hx hb dX6_hushAll_74 hl (k := 4) rfl (by rw [ex12]; rfl) (by decide) rfl (fun ls hl => ?_)
                refine lv_goto (tgt := 30) hx hb dX6_hushAll_77 (by decide) ?_
                exact ih _ _ ls (lv_sub hl [2, 3, 4, 1, 0] rfl) _ hf KX
              · have hf := ip c_20 hf
                refine lv_iconst (v := 1) hx hb dX6_hushAll_64 (by decide) ?_
                refine lv_iload hx hb dX6_hushAll_65 (lv_at hl 4 rfl) ?_
                refine lv_ishl hx hb dX6_hushAll_67 ?_
                refine lv_goto (tgt := 72) hx hb dX6_hushAll_68 (by decide) ?_
                refine lv_ior hx hb dX6_hushAll_72 ?_
                refine lv_topi (fun x13 ex13 => ?_)
                have hf := pv_eq ex13 hf
                refine lv_istore_n (lv' := [(3, .int x13), (0, .ref h), (1, .int a1), (2, .int a2), (4, .int x5)]) hx hb dX6_hushAll_73 rfl hl (by decide) rfl (fun ls hl => ?_)
                obtain ⟨x14, ex14⟩ : ∃ y : Int32, y = (x5 + 1) := ⟨_, rfl⟩
                have hf := pv_eq ex14 hf
                refine lv_iinc (v := x14) (lv' := [(4, .int x14), (3, .int x13), (0, .ref h), (1, .int a1), (2, .int a2)]) hx hb dX6_hushAll_74 hl (k := 4) rfl (by rw [ex14]; rfl) (by decide) rfl (fun ls hl => ?_)
                refine lv_goto (tgt := 30) hx hb dX6_hushAll_77 (by decide) ?_
                exact ih _ _ ls (lv_sub hl [2, 3, 4, 1, 0] rfl) _ hf KX
      obtain ⟨x6, hr30, hf⟩ := ob1_some hf
      refine loop30 300 _ _ ls (lv_sub hl [2, 3, 4, 1, 0] rfl) _ hr30 (fun ls hl => ?_)
      refine lv_aload_n hx hb dX6_hushAll_80 rfl (lv_at hl 0 rfl) ?_
      refine lv_iload_n hx hb dX6_hushAll_81 rfl (lv_at hl 2 rfl) ?_
      refine lv_iload_n hx hb dX6_hushAll_82 rfl (lv_at hl 1 rfl) ?_
      obtain ⟨x15, hv_21, hf⟩ := ob1_some hf
      refine q_rVi (As := [.int x6, .int a2]) (rest := []) (r := x15) ⟨hx, hb, hml, hown, hts⟩ (c_X6_hushes l D cI cC cL cB h h_piece h_deed h_st h_was h_kept h_seen h_text h_told h_readPiece h_readRoom h_readDeed h_now x6 a2 h_pieces h_deeds h_law h_acts h_keeps h_seens h_texted h_at h_readPieces h_readDeeds h_readCoins h_readLaw c3 h_piece_c h_deed_c x15 hv_21) (cwV 2 hts gX6_hushAll_X6_hushes rfl rfl rfl (by decide +kernel) ⟨Nat.le_of_ble_eq_true rfl, Nat.le_of_ble_eq_true rfl⟩) hK hP [0, 2, 4, 3] rfl (va_recv hK hP (ci := 6) (q0 := 0) rfl rfl) rfl hl.1 rfl (Nat.le_of_ble_eq_true rfl) dX6_hushAll_83 ⟨Nat.le_of_ble_eq_true rfl, Nat.le_of_ble_eq_true rfl⟩ ?_
      cases hf
      exact W.iret hx hb hr (fun t ht hW => ⟨⟨_, (), rfl, rfl, by rw [ht]; exact hP, va_K.moved hW.alike hK, hD⟩, hS.F ht⟩) hS.2.2 dX6_hushAll_86
    · have hf := ip c_4 hf
      refine lv_iconst (v := (-1)) hx hb dX6_hushAll_19 (by decide) ?_
      cases hf
      exact W.iret hx hb hr (fun t ht hW => ⟨⟨_, (), rfl, rfl, by rw [ht]; exact hP, va_K.moved hW.alike hK, hD⟩, hS.F ht⟩) hS.2.2 dX6_hushAll_20
theorem uX6_hushOne_X6 : ∀ w ∈ wsX60, w ∈ wsX6_hushOne := fun w h => List.mem_cons_of_mem _ (List.mem_append_right _ h)
set_option maxHeartbeats 4000000 in
set_option maxRecDepth 100000 in
theorem c_X6_hushOne (l : Launch) (D : va_G) (cI cC cL cB : ClassId) (sz : Nat) (h : Nat) (h_piece : Nat) (h_deed : Nat) (h_st : Nat) (h_was : Nat) (h_kept : Nat) (h_seen : Nat) (h_text : Nat) (h_told : Nat) (h_readPiece : Nat) (h_readRoom : Nat) (h_readDeed : Nat) (h_now : Nat) (a1 : Int32) (a2 : Int32) (h_pieces : Int32) (h_deeds : Int32) (h_law : Int32) (h_acts : Int32) (h_keeps : Int32) (h_seens : Int32) (h_texted : Int32) (h_at : Int32) (h_readPieces : Int32) (h_readDeeds : Int32) (h_readCoins : Int32) (h_readLaw : Int32) (h_st_c : Nat → Int32) (h_now_c : Nat → Int32) (h_deed_c : Nat → Int32) (h_piece_c : Nat → Int32) (r : Int32) (o0 : Nat → Int32) (hf : m_X6_hushOne a1 a2 h_pieces h_deeds h_law h_st_c h_now_c h_deed_c h_piece_c = some (r, o0)) : Met l yX6_hushOne wsX6_hushOne ({ frames := 6, cells := 0, slots := 0, locals := 143 }) (va_Pc [.ref h, .int a1, .int a2] (q_W D vwCl (tyL cI cC cL cB) [(h, .inr (6, [.int h_pieces, .ref h_piece, .int h_deeds, .ref h_deed, .int h_law, .ref h_st, .int h_acts, .ref h_was, .int h_keeps, .ref h_kept, .int h_seens, .ref h_seen, .ref h_text, .int h_texted, .int h_at, .ref h_told, .int h_readPieces, .ref h_readPiece, .ref h_readRoom, .int h_readDeeds, .ref h_readDeed, .int h_readCoins, .int h_readLaw, .ref h_now])), (h_st, .inl (cI, 18, .inl h_st_c)), (h_now, .inl (cI, 18, .inl h_now_c)), (h_deed, .inl (cI, 40, .inl h_deed_c)), (h_piece, .inl (cI, 16, .inl h_piece_c))] sz)) (va_Qi (fun r' _ => r' = r) (q_E D vwCl (tyL cI cC cL cB) (va_A [(h, .inr (6, [.int h_pieces, .ref h_piece, .int h_deeds, .ref h_deed, .int h_law, .ref h_st, .int h_acts, .ref h_was, .int h_keeps, .ref h_kept, .int h_seens, .ref h_seen, .ref h_text, .int h_texted, .int h_at, .ref h_told, .int h_readPieces, .ref h_readPiece, .ref h_readRoom, .int h_readDeeds, .ref h_readDeed, .int h_readCoins, .int h_readLaw, .ref h_now])), (h_st, .inl (cI, 18, .inl h_st_c)), (h_now, .inl (cI, 18, .inl h_now_c)), (h_deed, .inl (cI, 40, .inl h_deed_c)), (h_piece, .inl (cI, 16, .inl h_piece_c))] sz) [(h, .inr (6, [.int h_pieces, .ref h_piece, .int h_deeds, .ref h_deed, .int h_law, .ref h_st, .int h_acts, .ref h_was, .int h_keeps, .ref h_kept, .int h_seens, .ref h_seen, .ref h_text, .int h_texted, .int h_at, .ref h_told, .int h_readPieces, .ref h_readPiece, .ref h_readRoom, .int h_readDeeds, .ref h_readDeed, .int h_readCoins, .int h_readLaw, .ref h_now])), (h_st, .inl (cI, 18, .inl h_st_c)), (h_now, .inl (cI, 18, .inl o0)), (h_deed, .inl (cI, 40, .inl h_deed_c)), (h_piece, .inl (cI, 16, .inl h_piece_c))]) (va_A [(h, .inr (6, [.int h_pieces, .ref h_piece, .int h_deeds, .ref h_deed, .int h_law, .ref h_st, .int h_acts, .ref h_was, .int h_keeps, .ref h_kept, .int h_seens, .ref h_seen, .ref h_text, .int h_texted, .int h_at, .ref h_told, .int h_readPieces, .ref h_readPiece, .ref h_readRoom, .int h_readDeeds, .ref h_readDeed, .int h_readCoins, .int h_readLaw, .ref h_now])), (h_st, .inl (cI, 18, .inl h_st_c)), (h_now, .inl (cI, 18, .inl h_now_c)), (h_deed, .inl (cI, 40, .inl h_deed_c)), (h_piece, .inl (cI, 16, .inl h_piece_c))] sz)) 0 0 (va_A [(h, .inr (6, [.int h_pieces, .ref h_piece, .int h_deeds, .ref h_deed, .int h_law, .ref h_st, .int h_acts, .ref h_was, .int h_keeps, .ref h_kept, .int h_seens, .ref h_seen, .ref h_text, .int h_texted, .int h_at, .ref h_told, .int h_readPieces, .ref h_readPiece, .ref h_readRoom, .int h_readDeeds, .ref h_readDeed, .int h_readCoins, .int h_readLaw, .ref h_now])), (h_st, .inl (cI, 18, .inl h_st_c)), (h_now, .inl (cI, 18, .inl h_now_c)), (h_deed, .inl (cI, 40, .inl h_deed_c)), (h_piece, .inl (cI, 16, .inl h_piece_c))] sz) := by
  refine Met.ofW (cc := cX6_hushOne) (maxL := 5) (ret := (some .int)) (by decide) rfl ?_
  intro p e s m args below meth c s₁ B hml hv
  obtain ⟨rfl, hsz, hP, hK, hD0⟩ := hv
  have hx := B.exec
  have hb := B.bytes
  have hr := B.returns
  have hts := atoms_spec (ws := wsX6_hushOne) B.pre
  have hown : s.vm.findClass RX6 = some m.cls := findClass_of_methodNamed B.named
  have hlocks := B.notSynchronized
  subst hsz
  have hD := hD0.self (sz := s.heap.size)
  generalize hAe : va_A [(h, .inr (6, [.int h_pieces, .ref h_piece, .int h_deeds, .ref h_deed, .int h_law, .ref h_st, .int h_acts, .ref h_was, .int h_keeps, .ref h_kept, .int h_seens, .ref h_seen, .ref h_text, .int h_texted, .int h_at, .ref h_told, .int h_readPieces, .ref h_readPiece, .ref h_readRoom, .int h_readDeeds, .ref h_readDeed, .int h_readCoins, .int h_readLaw, .ref h_now])), (h_st, .inl (cI, 18, .inl h_st_c)), (h_now, .inl (cI, 18, .inl h_now_c)), (h_deed, .inl (cI, 40, .inl h_deed_c)), (h_piece, .inl (cI, 16, .inl h_piece_c))] s.heap.size = A at hD ⊢
  have hA : ∀ q : Nat, s.heap.size ≤ q → A q := fun q h => by rw [← hAe]; exact Or.inr h
  have hS : va_S A s.heap s.heap [] := va_S.rf
  have hP : va_P D vwCl [(h, .inr (6, [.int h_pieces, .ref h_piece, .int h_deeds, .ref h_deed, .int h_law, .ref h_st, .int h_acts, .ref h_was, .int h_keeps, .ref h_kept, .int h_seens, .ref h_seen, .ref h_text, .int h_texted, .int h_at, .ref h_told, .int h_readPieces, .ref h_readPiece, .ref h_readRoom, .int h_readDeeds, .ref h_readDeed, .int h_readCoins, .int h_readLaw, .ref h_now])), (h_st, .inl (cI, 18, .inl h_st_c)), (h_now, .inl (cI, 18, .inl h_now_c)), (h_deed, .inl (cI, 40, .inl h_deed_c)), (h_piece, .inl (cI, 16, .inl h_piece_c))] s.heap := hP
  have hl := lv_entry ([.ref h, .int a1, .int a2]) (n := 5) (Nat.le_of_ble_eq_true rfl)
  rw [lg_entry_eq]
  generalize (lg_sl ([.ref h, .int a1, .int a2]) ++ List.replicate (5 - (lg_sl ([.ref h, .int a1, .int a2])).length) Slot.unset).toArray = ls at hl ⊢
  have hl : lv_has ls 5 [(0, .ref h), (1, .int a1), (2, .int a2)] := hl
  unfold m_X6_hushOne at hf
  refine lv_iload_n hx hb dX6_hushOne_0 rfl (lv_at hl 1 rfl) ?_
  refine lv_iconst (v := 0) hx hb dX6_hushOne_1 (by decide) ?_
  refine lv_iconst (v := 5) hx hb dX6_hushOne_2 (by decide) ?_
  obtain ⟨x1, hv_1, hf⟩ := ob1_some hf
  refine q_rSi (As := [.int a1, .int 0, .int 5]) (rest := []) (r := x1) ⟨hx, hb, hml, hown, hts⟩ (c_X6_in l D cI cC cL cB a1 ((0 : Int32)) ((5 : Int32)) x1 hv_1) (va_cwS 3 hts gX6_hushOne_X6_in rfl rfl rfl (by decide +kernel) ⟨Nat.le_of_ble_eq_true rfl, Nat.le_of_ble_eq_true rfl⟩) hK hP [] rfl rfl hl.1 rfl (Nat.le_of_ble_eq_true rfl) dX6_hushOne_3 ⟨Nat.le_of_ble_eq_true rfl, Nat.le_of_ble_eq_true rfl⟩ ?_
  refine lv_if_eq (tgt := 18) hx hb dX6_hushOne_6 (by decide) (fun c_2 => ?_) (fun c_2 => ?_)
  · have hf := ip c_2 hf
    refine lv_iconst (v := (-1)) hx hb dX6_hushOne_18 (by decide) ?_
    cases hf
    exact W.iret hx hb hr (fun t ht hW => ⟨⟨_, (), rfl, rfl, by rw [ht]; exact hP, va_K.moved hW.alike hK, hD⟩, hS.F ht⟩) hS.2.2 dX6_hushOne_19
  · have hf := im c_2 hf
    refine lv_iload_n hx hb dX6_hushOne_9 rfl (lv_at hl 2 rfl) ?_
    refine lv_iconst (v := 0) hx hb dX6_hushOne_10 (by decide) ?_
    refine lv_iconst (v := 1) hx hb dX6_hushOne_11 (by decide) ?_
    obtain ⟨x2, hv_3, hf⟩ := ob1_some hf
    refine q_rSi (As := [.int a2, .int 0, .int 1]) (rest := []) (r := x2) ⟨hx, hb, hml, hown, hts⟩ (c_X6_in l D cI cC cL cB a2 ((0 : Int32)) ((1 : Int32)) x2 hv_3) (va_cwS 3 hts gX6_hushOne_X6_in rfl rfl rfl (by decide +kernel) ⟨Nat.le_of_ble_eq_true rfl, Nat.le_of_ble_eq_true rfl⟩) hK hP [] rfl rfl hl.1 rfl (Nat.le_of_ble_eq_true rfl) dX6_hushOne_12 ⟨Nat.le_of_ble_eq_true rfl, Nat.le_of_ble_eq_true rfl⟩ ?_
    refine lv_if_ne (tgt := 20) hx hb dX6_hushOne_15 (by decide) (fun c_4 => ?_) (fun c_4 => ?_)
    · have hf := im c_4 hf
      refine lv_aload_n hx hb dX6_hushOne_20 rfl (lv_at hl 0 rfl) ?_
      obtain ⟨c3, hv_5, hf⟩ := ob1_some hf
      refine q_wVv (As := []) (rest := []) (w1 := [(h, .inr (6, [.int h_pieces, .ref h_piece, .int h_deeds, .ref h_deed, .int h_law, .ref h_st, .int h_acts, .ref h_was, .int h_keeps, .ref h_kept, .int h_seens, .ref h_seen, .ref h_text, .int h_texted, .int h_at, .ref h_told, .int h_readPieces, .ref h_readPiece, .ref h_readRoom, .int h_readDeeds, .ref h_readDeed, .int h_readCoins, .int h_readLaw, .ref h_now])), (h_st, .inl (cI, 18, .inl h_st_c)), (h_now, .inl (cI, 18, .inl c3))]) (wr := [(h_deed, .inl (cI, 40, .inl h_deed_c)), (h_piece, .inl (cI, 16, .inl h_piece_c))]) (w2 := [(h, .inr (6, [.int h_pieces, .ref h_piece, .int h_deeds, .ref h_deed, .int h_law, .ref h_st, .int h_acts, .ref h_was, .int h_keeps, .ref h_kept, .int h_seens, .ref h_seen, .ref h_text, .int h_texted, .int h_at, .ref h_told, .int h_readPieces, .ref h_readPiece, .ref h_readRoom, .int h_readDeeds, .ref h_readDeed, .int h_readCoins, .int h_readLaw, .ref h_now])), (h_st, .inl (cI, 18, .inl h_st_c)), (h_now, .inl (cI, 18, .inl c3)), (h_deed, .inl (cI, 40, .inl h_deed_c)), (h_piece, .inl (cI, 16, .inl h_piece_c))]) ⟨hx, hb, hml, hown, hts⟩ (c_X6_asItIs l D cI cC cL cB s.heap.size h h_piece h_deed h_st h_was h_kept h_seen h_text h_told h_readPiece h_readRoom h_readDeed h_now h_pieces h_deeds h_law h_acts h_keeps h_seens h_texted h_at h_readPieces h_readDeeds h_readCoins h_readLaw h_st_c h_now_c c3 hv_5) (cwV 0 hts gX6_hushOne_X6_asItIs rfl rfl rfl (by decide +kernel) ⟨Nat.le_of_ble_eq_true rfl, Nat.le_of_ble_eq_true rfl⟩) hK hP hD hS hA [0, 1, 2] rfl (by decide) [3, 4] rfl (by decide) (by decide) [2, 3, 4, 0, 1] rfl (by decide) (va_recv hK hP (ci := 6) (q0 := 0) rfl rfl) rfl hl.1 rfl (Nat.le_of_ble_eq_true rfl) dX6_hushOne_21 ⟨Nat.le_of_ble_eq_true rfl, Nat.le_of_ble_eq_true rfl⟩ (fun H locs hP hD hS => ?_)
      have hP : va_P D vwCl [(h, .inr (6, [.int h_pieces, .ref h_piece, .int h_deeds, .ref h_deed, .int h_law, .ref h_st, .int h_acts, .ref h_was, .int h_keeps, .ref h_kept, .int h_seens, .ref h_seen, .ref h_text, .int h_texted, .int h_at, .ref h_told, .int h_readPieces, .ref h_readPiece, .ref h_readRoom, .int h_readDeeds, .ref h_readDeed, .int h_readCoins, .int h_readLaw, .ref h_now])), (h_st, .inl (cI, 18, .inl h_st_c)), (h_now, .inl (cI, 18, .inl c3)), (h_deed, .inl (cI, 40, .inl h_deed_c)), (h_piece, .inl (cI, 16, .inl h_piece_c))] H := hP
      have hD : va_D A [(h, .inr (6, [.int h_pieces, .ref h_piece, .int h_deeds, .ref h_deed, .int h_law, .ref h_st, .int h_acts, .ref h_was, .int h_keeps, .ref h_kept, .int h_seens, .ref h_seen, .ref h_text, .int h_texted, .int h_at, .ref h_told, .int h_readPieces, .ref h_readPiece, .ref h_readRoom, .int h_readDeeds, .ref h_readDeed, .int h_readCoins, .int h_readLaw, .ref h_now])), (h_st, .inl (cI, 18, .inl h_st_c)), (h_now, .inl (cI, 18, .inl c3)), (h_deed, .inl (cI, 40, .inl h_deed_c)), (h_piece, .inl (cI, 16, .inl h_piece_c))] := hD
      refine lv_iconst (v := 0) hx hb dX6_hushOne_24 (by decide) ?_
      refine lv_istore_n (lv' := [(3, .int 0), (0, .ref h), (1, .int a1), (2, .int a2)]) hx hb dX6_hushOne_25 rfl hl (by decide) rfl (fun ls hl => ?_)
      refine lv_iconst (v := 0) hx hb dX6_hushOne_26 (by decide) ?_
      refine lv_istore (lv' := [(4, .int 0), (3, .int 0), (0, .ref h), (1, .int a1), (2, .int a2)]) hx hb dX6_hushOne_27 hl (by decide) rfl (fun ls hl => ?_)
      have loop29 : ∀ (n : Nat) (x4 : Int32) (x5 : Int32), ∀ (ls : Array Slot), lv_has ls 5 [(0, .ref h), (1, .int a1), (2, .int a2), (3, .int x4), (4, .int x5)] → ∀ (x6 : Int32), L_X6_hushOne_29 h_deeds h_deed_c a1 h_st_c n x4 x5 = some x6 → (∀ (ls : Array Slot), lv_has ls 5 [(0, .ref h), (2, .int a2), (3, .int x6)] → W p l e (headSpec wsX6_hushOne ({ frames := 6, cells := 0, slots := 0, locals := 143 })).room s m ([.ref h, .int a1, .int a2] : List Value).toArray below meth c H locs 0 0 (MQ below (va_Qi (fun r' _ => r' = r) (q_E D vwCl (tyL cI cC cL cB) A [(h, .inr (6, [.int h_pieces, .ref h_piece, .int h_deeds, .ref h_deed, .int h_law, .ref h_st, .int h_acts, .ref h_was, .int h_keeps, .ref h_kept, .int h_seens, .ref h_seen, .ref h_text, .int h_texted, .int h_at, .ref h_told, .int h_readPieces, .ref h_readPiece, .ref h_readRoom, .int h_readDeeds, .ref h_readDeed, .int h_readCoins, .int h_readLaw, .ref h_now])), (h_st, .inl (cI, 18, .inl h_st_c)), (h_now, .inl (cI, 18, .inl o0)), (h_deed, .inl (cI, 40, .inl h_deed_c)), (h_piece, .inl (cI, 16, .inl h_piece_c))]) A) ([.ref h, .int a1, .int a2] : List Value).toArray s 0 0 A) (F0 m 82 ls [])) → W p l e (headSpec wsX6_hushOne ({ frames := 6, cells := 0, slots := 0, locals := 143 })).room s m ([.ref h, .int a1, .int a2] : List Value).toArray below meth c H locs 0 0 (MQ below (va_Qi (fun r' _ => r' = r) (q_E D vwCl (tyL cI cC cL cB) A [(h, .inr (6, [.int h_pieces, .ref h_piece, .int h_deeds, .ref h_deed, .int h_law, .ref h_st, .int h_acts, .ref h_was, .int h_keeps, .ref h_kept, .int h_seens, .ref h_seen, .ref h_text, .int h_texted, .int h_at, .ref h_told, .int h_readPieces, .ref h_readPiece, .ref h_readRoom, .int h_readDeeds, .ref h_readDeed, .int h_readCoins, .int h_readLaw, .ref h_now])), (h_st, .inl (cI, 18, .inl h_st_c)), (h_now, .inl (cI, 18, .inl o0)), (h_deed, .inl (cI, 40, .inl h_deed_c)), (h_piece, .inl (cI, 16, .inl h_piece_c))]) A) ([.ref h, .int a1, .int a2] : List Value).toArray s 0 0 A) (F0 m 29 ls []) := by
        intro n
        induction n with
        | zero =>
          intro x4 x5 ls hl x6 hf KX
          rw [L_X6_hushOne_29] at hf
          cases hf
        | succ n ih =>
          intro x4 x5 ls hl x6 hf KX
          rw [L_X6_hushOne_29] at hf
          refine lv_iload hx hb dX6_hushOne_29 (lv_at hl 4 rfl) ?_
          refine lv_aload_n hx hb dX6_hushOne_31 rfl (lv_at hl 0 rfl) ?_
          refine va_get (D := D) (ci := 6) (v := .int h_deeds) (C := RX6) (T := TX6) (N := 24) hx hb hts uX6_hushOne_X6 hown hK hP 0 rfl rfl 2 (by decide) (hts (.fieldLink RX6 80 "SpeaksForTheChairModel" "deeds" "I") (List.mem_of_getElem? (i := 1) rfl)) (fun _ h9 => h9) rfl dX6_hushOne_32 ?_
          refine lv_icmp_ge (tgt := 82) hx hb dX6_hushOne_35 (by decide) (fun c_16 => ?_) (fun c_16 => ?_)
          · have hf := ip c_16 hf
            cases hf
            exact KX ls (lv_sub hl [0, 2, 3] rfl)
          · have hf := im c_16 hf
            refine lv_iload_n hx hb dX6_hushOne_38 rfl (lv_at hl 3 rfl) ?_
            refine lv_aload_n hx hb dX6_hushOne_39 rfl (lv_at hl 0 rfl) ?_
            refine va_get (D := D) (ci := 6) (v := .ref h_deed) (C := RX6) (T := TX6) (N := 24) hx hb hts uX6_hushOne_X6 hown hK hP 0 rfl rfl 3 (by decide) (hts (.fieldLink RX6 13 "SpeaksForTheChairModel" "deed" "[I") (List.mem_of_getElem? (i := 2) rfl)) (fun _ h9 => h9) rfl dX6_hushOne_40 ?_
            refine lv_iconst (v := 4) hx hb dX6_hushOne_43 (by decide) ?_
            refine lv_iload hx hb dX6_hushOne_44 (lv_at hl 4 rfl) ?_
            refine lv_imul hx hb dX6_hushOne_46 ?_
            obtain ⟨g_17, hf⟩ := gu_in hf
            refine va_iald hx hb hK hP 3 0 rfl rfl g_17 dX6_hushOne_47 ?_
            refine lv_iload_n hx hb dX6_hushOne_48 rfl (lv_at hl 1 rfl) ?_
            refine lv_icmp_ne (tgt := 73) hx hb dX6_hushOne_49 (by decide) (fun c_18 => ?_) (fun c_18 => ?_)
            · have hf := im c_18 hf
              refine lv_iconst (v := 0) hx hb dX6_hushOne_73 (by decide) ?_
              refine lv_ior hx hb dX6_hushOne_74 ?_
              refine lv_topi (fun x7 ex7 => ?_)
              have hf := pv_eq ex7 hf
              refine lv_istore_n (lv' := [(3, .int x7), (0, .ref h), (1, .int a1), (2, .int a2), (4, .int x5)]) hx hb dX6_hushOne_75 rfl hl (by decide) rfl (fun ls hl => ?_)
              obtain ⟨x8, ex8⟩ : ∃ y : Int32, y = (x5 + 1) := ⟨_, rfl⟩
              have hf := pv_eq ex8 hf
              refine lv_iinc (v := x8) (lv' := [(4, .int x8), (3, .int x7), (0, .ref h), (1, .int a1), (2, .int a2)]) hx hb dX6_hushOne_76 hl (k := 4) rfl (by rw [ex8]; rfl) (by decide) rfl (fun ls hl => ?_)
              refine lv_goto (tgt := 29) hx hb dX6_hushOne_79 (by decide) ?_
              exact ih _ _ ls (lv_sub hl [2, 3, 4, 1, 0] rfl) _ hf KX
            · have hf := ip c_18 hf
              refine lv_aload_n hx hb dX6_hushOne_52 rfl (lv_at hl 0 rfl) ?_
              refine va_get (D := D) (ci := 6) (v := .ref h_st) (C := RX6) (T := TX6) (N := 24) hx hb hts uX6_hushOne_X6 hown hK hP 0 rfl rfl 5 (by decide) (hts (.fieldLink RX6 16 "SpeaksForTheChairModel" "st" "[I") (List.mem_of_getElem? (i := 3) rfl)) (fun _ h9 => h9) rfl dX6_hushOne_53 ?_
              refine lv_iconst (v := 1) hx hb dX6_hushOne_56 (by decide) ?_
              refine va_iald hx hb hK hP 1 0 rfl rfl (okI_in (by decide)) dX6_hushOne_57 ?_
              refine lv_iload hx hb dX6_hushOne_58 (lv_at hl 4 rfl) ?_
              obtain ⟨x9, hv_19, hf⟩ := ob1_some hf
              refine q_rSi (As := [.int (h_st_c (1 : Int32).toNatClampNeg), .int x5]) (rest := [.int x4]) (r := x9) ⟨hx, hb, hml, hown, hts⟩ (c_X6_has l D cI cC cL cB ((h_st_c (1 : Int32).toNatClampNeg)) x5 x9 hv_19) (va_cwS 2 hts gX6_hushOne_X6_has rfl rfl rfl (by decide +kernel) ⟨Nat.le_of_ble_eq_true rfl, Nat.le_of_ble_eq_true rfl⟩) hK hP [] rfl rfl hl.1 rfl (Nat.le_of_ble_eq_true rfl) dX6_hushOne_60 ⟨Nat.le_of_ble_eq_true rfl, Nat.le_of_ble_eq_true rfl⟩ ?_
              refine lv_if_ne (tgt := 73) hx hb dX6_hushOne_63 (by decide) (fun c_20 => ?_) (fun c_20 => ?_)
              · have hf := im c_20 hf
                refine lv_iconst (v := 0) hx hb dX6_hushOne_73 (by decide) ?_
                refine lv_ior hx hb dX6_hushOne_74 ?_
                refine lv_topi (fun x10 ex10 => ?_)
                have hf := pv_eq ex10 hf
                refine lv_istore_n (lv' := [(3, .int x10), (0, .ref h), (1, .int a1), (2, .int a2), (4, .int x5)]) hx hb dX6_hushOne_75 rfl hl (by decide) rfl (fun ls hl => ?_)
                obtain ⟨x11, ex11⟩ : ∃ y : Int32, y = (x5 + 1) := ⟨_, rfl⟩
                have hf := pv_eq ex11 hf
                refine lv_iinc (v := x11) (lv' := [(4, .int x11), (3, .int x10), (0, .ref h), (1, .int a1), (2, .int a2)]) hx hb dX6_hushOne_76 hl (k := 4) rfl (by rw [ex11]; rfl) (by decide) rfl (fun ls hl => ?_)
                refine lv_goto (tgt := 29) hx hb dX6_hushOne_79 (by decide) ?_
                exact ih _ _ ls (lv_sub hl [2, 3, 4, 1, 0] rfl) _ hf KX
              · have hf := ip c_20 hf
                refine lv_iconst (v := 1) hx hb dX6_hushOne_66 (by decide) ?_
                refine lv_iload hx hb dX6_hushOne_67 (lv_at hl 4 rfl) ?_
                refine lv_ishl hx hb dX6_hushOne_69 ?_
                refine lv_goto (tgt := 74) hx hb dX6_hushOne_70 (by decide) ?_
                refine lv_ior hx hb dX6_hushOne_74 ?_
                refine lv_topi (fun x12 ex12 => ?_)
                have hf := pv_eq ex12 hf
                refine lv_istore_n (lv' := [(3, .int x12), (0, .ref h), (1, .int a1), (2, .int a2), (4, .int x5)]) hx hb dX6_hushOne_75 rfl hl (by decide) rfl (fun ls hl => ?_)
                obtain ⟨x13, ex13⟩ : ∃ y : Int32, y = (x5 + 1) := ⟨_, rfl⟩
                have hf := pv_eq ex13 hf
                refine lv_iinc (v := x13) (lv' := [(4, .int x13), (3, .int x12), (0, .ref h), (1, .int a1), (2, .int a2)]) hx hb dX6_hushOne_76 hl (k := 4) rfl (by rw [ex13]; rfl) (by decide) rfl (fun ls hl => ?_)
                refine lv_goto (tgt := 29) hx hb dX6_hushOne_79 (by decide) ?_
                exact ih _ _ ls (lv_sub hl [2, 3, 4, 1, 0] rfl) _ hf KX
      obtain ⟨x6, hr29, hf⟩ := ob1_some hf
      refine loop29 300 _ _ ls (lv_sub hl [2, 3, 4, 1, 0] rfl) _ hr29 (fun ls hl => ?_)
      refine lv_aload_n hx hb dX6_hushOne_82 rfl (lv_at hl 0 rfl) ?_
      refine lv_iload_n hx hb dX6_hushOne_83 rfl (lv_at hl 2 rfl) ?_
      refine lv_iload_n hx hb dX6_hushOne_84 rfl (lv_at hl 1 rfl) ?_
      obtain ⟨x14, hv_21, hf⟩ := ob1_some hf
      refine q_rVi (As := [.int x6, .int a2]) (rest := []) (r := x14) ⟨hx, hb, hml, hown, hts⟩ (c_X6_hushes l D cI cC cL cB h h_piece h_deed h_st h_was h_kept h_seen h_text h_told h_readPiece h_readRoom h_readDeed h_now x6 a2 h_pieces h_deeds h_law h_acts h_keeps h_seens h_texted h_at h_readPieces h_readDeeds h_readCoins h_readLaw c3 h_piece_c h_deed_c x14 hv_21) (cwV 2 hts gX6_hushOne_X6_hushes rfl rfl rfl (by decide +kernel) ⟨Nat.le_of_ble_eq_true rfl, Nat.le_of_ble_eq_true rfl⟩) hK hP [0, 2, 4, 3] rfl (va_recv hK hP (ci := 6) (q0 := 0) rfl rfl) rfl hl.1 rfl (Nat.le_of_ble_eq_true rfl) dX6_hushOne_85 ⟨Nat.le_of_ble_eq_true rfl, Nat.le_of_ble_eq_true rfl⟩ ?_
      cases hf
      exact W.iret hx hb hr (fun t ht hW => ⟨⟨_, (), rfl, rfl, by rw [ht]; exact hP, va_K.moved hW.alike hK, hD⟩, hS.F ht⟩) hS.2.2 dX6_hushOne_88
    · have hf := ip c_4 hf
      refine lv_iconst (v := (-1)) hx hb dX6_hushOne_18 (by decide) ?_
      cases hf
      exact W.iret hx hb hr (fun t ht hW => ⟨⟨_, (), rfl, rfl, by rw [ht]; exact hP, va_K.moved hW.alike hK, hD⟩, hS.F ht⟩) hS.2.2 dX6_hushOne_19
theorem uX6_save_X6 : ∀ w ∈ wsX60, w ∈ wsX6_save := fun w h => List.mem_cons_of_mem _ (List.mem_append_right _ h)
set_option maxHeartbeats 4000000 in
set_option maxRecDepth 100000 in
theorem c_X6_save (l : Launch) (D : va_G) (cI cC cL cB : ClassId) (sz : Nat) (h : Nat) (h_piece : Nat) (h_deed : Nat) (h_st : Nat) (h_was : Nat) (h_kept : Nat) (h_seen : Nat) (h_text : Nat) (h_told : Nat) (h_readPiece : Nat) (h_readRoom : Nat) (h_readDeed : Nat) (h_now : Nat) (a1 : Int32) (h_pieces : Int32) (h_deeds : Int32) (h_law : Int32) (h_acts : Int32) (h_keeps : Int32) (h_seens : Int32) (h_texted : Int32) (h_at : Int32) (h_readPieces : Int32) (h_readDeeds : Int32) (h_readCoins : Int32) (h_readLaw : Int32) (h_st_c : Nat → Int32) (h_now_c : Nat → Int32) (h_piece_c : Nat → Int32) (h_deed_c : Nat → Int32) (r : Int32) (o0 : Nat → Int32) (hf : m_X6_save a1 h_pieces h_deeds h_law h_st_c h_now_c h_piece_c h_deed_c = some (r, o0)) : Met l yX6_save wsX6_save ({ frames := 5, cells := 0, slots := 0, locals := 115 }) (va_Pc [.ref h, .int a1] (q_W D vwCl (tyL cI cC cL cB) [(h, .inr (6, [.int h_pieces, .ref h_piece, .int h_deeds, .ref h_deed, .int h_law, .ref h_st, .int h_acts, .ref h_was, .int h_keeps, .ref h_kept, .int h_seens, .ref h_seen, .ref h_text, .int h_texted, .int h_at, .ref h_told, .int h_readPieces, .ref h_readPiece, .ref h_readRoom, .int h_readDeeds, .ref h_readDeed, .int h_readCoins, .int h_readLaw, .ref h_now])), (h_st, .inl (cI, 18, .inl h_st_c)), (h_now, .inl (cI, 18, .inl h_now_c)), (h_piece, .inl (cI, 16, .inl h_piece_c)), (h_deed, .inl (cI, 40, .inl h_deed_c))] sz)) (va_Qi (fun r' _ => r' = r) (q_E D vwCl (tyL cI cC cL cB) (va_A [(h, .inr (6, [.int h_pieces, .ref h_piece, .int h_deeds, .ref h_deed, .int h_law, .ref h_st, .int h_acts, .ref h_was, .int h_keeps, .ref h_kept, .int h_seens, .ref h_seen, .ref h_text, .int h_texted, .int h_at, .ref h_told, .int h_readPieces, .ref h_readPiece, .ref h_readRoom, .int h_readDeeds, .ref h_readDeed, .int h_readCoins, .int h_readLaw, .ref h_now])), (h_st, .inl (cI, 18, .inl h_st_c)), (h_now, .inl (cI, 18, .inl h_now_c)), (h_piece, .inl (cI, 16, .inl h_piece_c)), (h_deed, .inl (cI, 40, .inl h_deed_c))] sz) [(h, .inr (6, [.int h_pieces, .ref h_piece, .int h_deeds, .ref h_deed, .int h_law, .ref h_st, .int h_acts, .ref h_was, .int h_keeps, .ref h_kept, .int h_seens, .ref h_seen, .ref h_text, .int h_texted, .int h_at, .ref h_told, .int h_readPieces, .ref h_readPiece, .ref h_readRoom, .int h_readDeeds, .ref h_readDeed, .int h_readCoins, .int h_readLaw, .ref h_now])), (h_st, .inl (cI, 18, .inl h_st_c)), (h_now, .inl (cI, 18, .inl o0)), (h_piece, .inl (cI, 16, .inl h_piece_c)), (h_deed, .inl (cI, 40, .inl h_deed_c))]) (va_A [(h, .inr (6, [.int h_pieces, .ref h_piece, .int h_deeds, .ref h_deed, .int h_law, .ref h_st, .int h_acts, .ref h_was, .int h_keeps, .ref h_kept, .int h_seens, .ref h_seen, .ref h_text, .int h_texted, .int h_at, .ref h_told, .int h_readPieces, .ref h_readPiece, .ref h_readRoom, .int h_readDeeds, .ref h_readDeed, .int h_readCoins, .int h_readLaw, .ref h_now])), (h_st, .inl (cI, 18, .inl h_st_c)), (h_now, .inl (cI, 18, .inl h_now_c)), (h_piece, .inl (cI, 16, .inl h_piece_c)), (h_deed, .inl (cI, 40, .inl h_deed_c))] sz)) 0 0 (va_A [(h, .inr (6, [.int h_pieces, .ref h_piece, .int h_deeds, .ref h_deed, .int h_law, .ref h_st, .int h_acts, .ref h_was, .int h_keeps, .ref h_kept, .int h_seens, .ref h_seen, .ref h_text, .int h_texted, .int h_at, .ref h_told, .int h_readPieces, .ref h_readPiece, .ref h_readRoom, .int h_readDeeds, .ref h_readDeed, .int h_readCoins, .int h_readLaw, .ref h_now])), (h_st, .inl (cI, 18, .inl h_st_c)), (h_now, .inl (cI, 18, .inl h_now_c)), (h_piece, .inl (cI, 16, .inl h_piece_c)), (h_deed, .inl (cI, 40, .inl h_deed_c))] sz) := by
  refine Met.ofW (cc := cX6_save) (maxL := 7) (ret := (some .int)) (by decide) rfl ?_
  intro p e s m args below meth c s₁ B hml hv
  obtain ⟨rfl, hsz, hP, hK, hD0⟩ := hv
  have hx := B.exec
  have hb := B.bytes
  have hr := B.returns
  have hts := atoms_spec (ws := wsX6_save) B.pre
  have hown : s.vm.findClass RX6 = some m.cls := findClass_of_methodNamed B.named
  have hlocks := B.notSynchronized
  subst hsz
  have hD := hD0.self (sz := s.heap.size)
  generalize hAe : va_A [(h, .inr (6, [.int h_pieces, .ref h_piece, .int h_deeds, .ref h_deed, .int h_law, .ref h_st, .int h_acts, .ref h_was, .int h_keeps, .ref h_kept, .int h_seens, .ref h_seen, .ref h_text, .int h_texted, .int h_at, .ref h_told, .int h_readPieces, .ref h_readPiece, .ref h_readRoom, .int h_readDeeds, .ref h_readDeed, .int h_readCoins, .int h_readLaw, .ref h_now])), (h_st, .inl (cI, 18, .inl h_st_c)), (h_now, .inl (cI, 18, .inl h_now_c)), (h_piece, .inl (cI, 16, .inl h_piece_c)), (h_deed, .inl (cI, 40, .inl h_deed_c))] s.heap.size = A at hD ⊢
  have hA : ∀ q : Nat, s.heap.size ≤ q → A q := fun q h => by rw [← hAe]; exact Or.inr h
  have hS : va_S A s.heap s.heap [] := va_S.rf
  have hP : va_P D vwCl [(h, .inr (6, [.int h_pieces, .ref h_piece, .int h_deeds, .ref h_deed, .int h_law, .ref h_st, .int h_acts, .ref h_was, .int h_keeps, .ref h_kept, .int h_seens, .ref h_seen, .ref h_text, .int h_texted, .int h_at, .ref h_told, .int h_readPieces, .ref h_readPiece, .ref h_readRoom, .int h_readDeeds, .ref h_readDeed, .int h_readCoins, .int h_readLaw, .ref h_now])), (h_st, .inl (cI, 18, .inl h_st_c)), (h_now, .inl (cI, 18, .inl h_now_c)), (h_piece, .inl (cI, 16, .inl h_piece_c)), (h_deed, .inl (cI, 40, .inl h_deed_c))] s.heap := hP
  have hl := lv_entry ([.ref h, .int a1]) (n := 7) (Nat.le_of_ble_eq_true rfl)
  rw [lg_entry_eq]
  generalize (lg_sl ([.ref h, .int a1]) ++ List.replicate (7 - (lg_sl ([.ref h, .int a1])).length) Slot.unset).toArray = ls at hl ⊢
  have hl : lv_has ls 7 [(0, .ref h), (1, .int a1)] := hl
  unfold m_X6_save at hf
  refine lv_iload_n hx hb dX6_save_0 rfl (lv_at hl 1 rfl) ?_
  refine lv_iconst (v := 0) hx hb dX6_save_1 (by decide) ?_
  refine lv_iconst (v := 1) hx hb dX6_save_2 (by decide) ?_
  obtain ⟨x1, hv_1, hf⟩ := ob1_some hf
  refine q_rSi (As := [.int a1, .int 0, .int 1]) (rest := []) (r := x1) ⟨hx, hb, hml, hown, hts⟩ (c_X6_in l D cI cC cL cB a1 ((0 : Int32)) ((1 : Int32)) x1 hv_1) (va_cwS 3 hts gX6_save_X6_in rfl rfl rfl (by decide +kernel) ⟨Nat.le_of_ble_eq_true rfl, Nat.le_of_ble_eq_true rfl⟩) hK hP [] rfl rfl hl.1 rfl (Nat.le_of_ble_eq_true rfl) dX6_save_3 ⟨Nat.le_of_ble_eq_true rfl, Nat.le_of_ble_eq_true rfl⟩ ?_
  refine lv_if_ne (tgt := 11) hx hb dX6_save_6 (by decide) (fun c_2 => ?_) (fun c_2 => ?_)
  · have hf := im c_2 hf
    refine lv_aload_n hx hb dX6_save_11 rfl (lv_at hl 0 rfl) ?_
    obtain ⟨c2, hv_3, hf⟩ := ob1_some hf
    refine q_wVv (As := []) (rest := []) (w1 := [(h, .inr (6, [.int h_pieces, .ref h_piece, .int h_deeds, .ref h_deed, .int h_law, .ref h_st, .int h_acts, .ref h_was, .int h_keeps, .ref h_kept, .int h_seens, .ref h_seen, .ref h_text, .int h_texted, .int h_at, .ref h_told, .int h_readPieces, .ref h_readPiece, .ref h_readRoom, .int h_readDeeds, .ref h_readDeed, .int h_readCoins, .int h_readLaw, .ref h_now])), (h_st, .inl (cI, 18, .inl h_st_c)), (h_now, .inl (cI, 18, .inl c2))]) (wr := [(h_piece, .inl (cI, 16, .inl h_piece_c)), (h_deed, .inl (cI, 40, .inl h_deed_c))]) (w2 := [(h, .inr (6, [.int h_pieces, .ref h_piece, .int h_deeds, .ref h_deed, .int h_law, .ref h_st, .int h_acts, .ref h_was, .int h_keeps, .ref h_kept, .int h_seens, .ref h_seen, .ref h_text, .int h_texted, .int h_at, .ref h_told, .int h_readPieces, .ref h_readPiece, .ref h_readRoom, .int h_readDeeds, .ref h_readDeed, .int h_readCoins, .int h_readLaw, .ref h_now])), (h_st, .inl (cI, 18, .inl h_st_c)), (h_now, .inl (cI, 18, .inl c2)), (h_piece, .inl (cI, 16, .inl h_piece_c)), (h_deed, .inl (cI, 40, .inl h_deed_c))]) ⟨hx, hb, hml, hown, hts⟩ (c_X6_asItIs l D cI cC cL cB s.heap.size h h_piece h_deed h_st h_was h_kept h_seen h_text h_told h_readPiece h_readRoom h_readDeed h_now h_pieces h_deeds h_law h_acts h_keeps h_seens h_texted h_at h_readPieces h_readDeeds h_readCoins h_readLaw h_st_c h_now_c c2 hv_3) (cwV 0 hts gX6_save_X6_asItIs rfl rfl rfl (by decide +kernel) ⟨Nat.le_of_ble_eq_true rfl, Nat.le_of_ble_eq_true rfl⟩) hK hP hD hS hA [0, 1, 2] rfl (by decide) [3, 4] rfl (by decide) (by decide) [2, 3, 4, 0, 1] rfl (by decide) (va_recv hK hP (ci := 6) (q0 := 0) rfl rfl) rfl hl.1 rfl (Nat.le_of_ble_eq_true rfl) dX6_save_12 ⟨Nat.le_of_ble_eq_true rfl, Nat.le_of_ble_eq_true rfl⟩ (fun H locs hP hD hS => ?_)
    have hP : va_P D vwCl [(h, .inr (6, [.int h_pieces, .ref h_piece, .int h_deeds, .ref h_deed, .int h_law, .ref h_st, .int h_acts, .ref h_was, .int h_keeps, .ref h_kept, .int h_seens, .ref h_seen, .ref h_text, .int h_texted, .int h_at, .ref h_told, .int h_readPieces, .ref h_readPiece, .ref h_readRoom, .int h_readDeeds, .ref h_readDeed, .int h_readCoins, .int h_readLaw, .ref h_now])), (h_st, .inl (cI, 18, .inl h_st_c)), (h_now, .inl (cI, 18, .inl c2)), (h_piece, .inl (cI, 16, .inl h_piece_c)), (h_deed, .inl (cI, 40, .inl h_deed_c))] H := hP
    have hD : va_D A [(h, .inr (6, [.int h_pieces, .ref h_piece, .int h_deeds, .ref h_deed, .int h_law, .ref h_st, .int h_acts, .ref h_was, .int h_keeps, .ref h_kept, .int h_seens, .ref h_seen, .ref h_text, .int h_texted, .int h_at, .ref h_told, .int h_readPieces, .ref h_readPiece, .ref h_readRoom, .int h_readDeeds, .ref h_readDeed, .int h_readCoins, .int h_readLaw, .ref h_now])), (h_st, .inl (cI, 18, .inl h_st_c)), (h_now, .inl (cI, 18, .inl c2)), (h_piece, .inl (cI, 16, .inl h_piece_c)), (h_deed, .inl (cI, 40, .inl h_deed_c))] := hD
    refine lv_iconst (v := 0) hx hb dX6_save_15 (by decide) ?_
    refine lv_istore_n (lv' := [(2, .int 0), (0, .ref h), (1, .int a1)]) hx hb dX6_save_16 rfl hl (by decide) rfl (fun ls hl => ?_)
    refine lv_iconst (v := (-1)) hx hb dX6_save_17 (by decide) ?_
    refine lv_istore_n (lv' := [(3, .int (-1)), (2, .int 0), (0, .ref h), (1, .int a1)]) hx hb dX6_save_18 rfl hl (by decide) rfl (fun ls hl => ?_)
    refine lv_aload_n hx hb dX6_save_19 rfl (lv_at hl 2 rfl) ?_
    obtain ⟨x3, hv_4, hf⟩ := ob1_some hf
    refine q_rVi (As := []) (rest := []) (r := x3) ⟨hx, hb, hml, hown, hts⟩ (c_X6_loose l D cI cC cL cB h h_piece h_deed h_st h_was h_kept h_seen h_text h_told h_readPiece h_readRoom h_readDeed h_now h_pieces h_deeds h_law h_acts h_keeps h_seens h_texted h_at h_readPieces h_readDeeds h_readCoins h_readLaw c2 h_piece_c x3 hv_4) (cwV 0 hts gX6_save_X6_loose rfl rfl rfl (by decide +kernel) ⟨Nat.le_of_ble_eq_true rfl, Nat.le_of_ble_eq_true rfl⟩) hK hP [0, 2, 3] rfl (va_recv hK hP (ci := 6) (q0 := 0) rfl rfl) rfl hl.1 rfl (Nat.le_of_ble_eq_true rfl) dX6_save_20 ⟨Nat.le_of_ble_eq_true rfl, Nat.le_of_ble_eq_true rfl⟩ ?_
    refine lv_istore (lv' := [(4, .int x3), (3, .int (-1)), (2, .int 0), (0, .ref h), (1, .int a1)]) hx hb dX6_save_23 hl (by decide) rfl (fun ls hl => ?_)
    refine lv_iconst (v := 0) hx hb dX6_save_25 (by decide) ?_
    refine lv_istore (lv' := [(5, .int 0), (4, .int x3), (3, .int (-1)), (2, .int 0), (0, .ref h), (1, .int a1)]) hx hb dX6_save_26 hl (by decide) rfl (fun ls hl => ?_)
    have loop28 : ∀ (n : Nat) (x4 : Int32) (x5 : Int32) (x6 : Int32), ∀ (ls : Array Slot), lv_has ls 7 [(0, .ref h), (1, .int a1), (2, .int x4), (3, .int x5), (4, .int x3), (5, .int x6)] → ∀ (x7 : Int32) (x8 : Int32), L_X6_save_28 h_pieces x3 h_piece_c h_st_c h_deeds h_deed_c c2 n x4 x5 x6 = some (x7, x8) → (∀ (ls : Array Slot), lv_has ls 7 [(1, .int a1), (2, .int x7), (3, .int x8)] → W p l e (headSpec wsX6_save ({ frames := 5, cells := 0, slots := 0, locals := 115 })).room s m ([.ref h, .int a1] : List Value).toArray below meth c H locs 0 0 (MQ below (va_Qi (fun r' _ => r' = r) (q_E D vwCl (tyL cI cC cL cB) A [(h, .inr (6, [.int h_pieces, .ref h_piece, .int h_deeds, .ref h_deed, .int h_law, .ref h_st, .int h_acts, .ref h_was, .int h_keeps, .ref h_kept, .int h_seens, .ref h_seen, .ref h_text, .int h_texted, .int h_at, .ref h_told, .int h_readPieces, .ref h_readPiece, .ref h_readRoom, .int h_readDeeds, .ref h_readDeed, .int h_readCoins, .int h_readLaw, .ref h_now])), (h_st, .inl (cI, 18, .inl h_st_c)), (h_now, .inl (cI, 18, .inl o0)), (h_piece, .inl (cI, 16, .inl h_piece_c)), (h_deed, .inl (cI, 40, .inl h_deed_c))]) A) ([.ref h, .int a1] : List Value).toArray s 0 0 A) (F0 m 130 ls [])) → W p l e (headSpec wsX6_save ({ frames := 5, cells := 0, slots := 0, locals := 115 })).room s m ([.ref h, .int a1] : List Value).toArray below meth c H locs 0 0 (MQ below (va_Qi (fun r' _ => r' = r) (q_E D vwCl (tyL cI cC cL cB) A [(h, .inr (6, [.int h_pieces, .ref h_piece, .int h_deeds, .ref h_deed, .int h_law, .ref h_st, .int h_acts, .ref h_was, .int h_keeps, .ref h_kept, .int h_seens, .ref h_seen, .ref h_text, .int h_texted, .int h_at, .ref h_told, .int h_readPieces, .ref h_readPiece, .ref h_readRoom, .int h_readDeeds, .ref h_readDeed, .int h_readCoins, .int h_readLaw, .ref h_now])), (h_st, .inl (cI, 18, .inl h_st_c)), (h_now, .inl (cI, 18, .inl o0)), (h_piece, .inl (cI, 16, .inl h_piece_c)), (h_deed, .inl (cI, 40, .inl h_deed_c))]) A) ([.ref h, .int a1] : List Value).toArray s 0 0 A) (F0 m 28 ls []) := by
      intro n
      induction n with
      | zero =>
        intro x4 x5 x6 ls hl x7 x8 hf KX
        rw [L_X6_save_28] at hf
        cases hf
      | succ n ih =>
        intro x4 x5 x6 ls hl x7 x8 hf KX
        rw [L_X6_save_28] at hf
        refine lv_iload hx hb dX6_save_28 (lv_at hl 5 rfl) ?_
        refine lv_iconst (v := 1) hx hb dX6_save_30 (by decide) ?_
        refine lv_aload_n hx hb dX6_save_31 rfl (lv_at hl 0 rfl) ?_
        refine va_get (D := D) (ci := 6) (v := .int h_pieces) (C := RX6) (T := TX6) (N := 24) hx hb hts uX6_save_X6 hown hK hP 0 rfl rfl 0 (by decide) (hts (.fieldLink RX6 73 "SpeaksForTheChairModel" "pieces" "I") (List.mem_of_getElem? (i := 1) rfl)) (fun _ h9 => h9) rfl dX6_save_32 ?_
        refine lv_ishl hx hb dX6_save_35 ?_
        refine lv_icmp_ge (tgt := 130) hx hb dX6_save_36 (by decide) (fun c_27 => ?_) (fun c_27 => ?_)
        · have hf := ip c_27 hf
          cases hf
          exact KX ls (lv_sub hl [1, 2, 3] rfl)
        · have hf := im c_27 hf
          refine lv_iload hx hb dX6_save_39 (lv_at hl 5 rfl) ?_
          refine lv_iload hx hb dX6_save_41 (lv_at hl 4 rfl) ?_
          refine lv_iconst (v := (-1)) hx hb dX6_save_43 (by decide) ?_
          refine lv_ixor hx hb dX6_save_44 ?_
          refine lv_iand hx hb dX6_save_45 ?_
          refine lv_if_ne (tgt := 124) hx hb dX6_save_46 (by decide) (fun c_28 => ?_) (fun c_28 => ?_)
          · have hf := im c_28 hf
            obtain ⟨x9, ex9⟩ : ∃ y : Int32, y = (x6 + 1) := ⟨_, rfl⟩
            have hf := pv_eq ex9 hf
            refine lv_iinc (v := x9) (lv' := [(5, .int x9), (0, .ref h), (1, .int a1), (2, .int x4), (3, .int x5), (4, .int x3)]) hx hb dX6_save_124 hl (k := 5) rfl (by rw [ex9]; rfl) (by decide) rfl (fun ls hl => ?_)
            refine lv_goto (tgt := 28) hx hb dX6_save_127 (by decide) ?_
            exact ih _ _ _ ls (lv_sub hl [1, 2, 3, 4, 5, 0] rfl) _ _ hf KX
          · have hf := ip c_28 hf
            refine lv_aload_n hx hb dX6_save_49 rfl (lv_at hl 0 rfl) ?_
            refine lv_iload hx hb dX6_save_50 (lv_at hl 5 rfl) ?_
            obtain ⟨x10, hv_29, hf⟩ := ob1_some hf
            refine q_rVi (As := [.int x6]) (rest := []) (r := x10) ⟨hx, hb, hml, hown, hts⟩ (c_X6_priceOf l D cI cC cL cB h h_piece h_deed h_st h_was h_kept h_seen h_text h_told h_readPiece h_readRoom h_readDeed h_now x6 h_pieces h_deeds h_law h_acts h_keeps h_seens h_texted h_at h_readPieces h_readDeeds h_readCoins h_readLaw h_piece_c x10 hv_29) (cwV 1 hts gX6_save_X6_priceOf rfl rfl rfl (by decide +kernel) ⟨Nat.le_of_ble_eq_true rfl, Nat.le_of_ble_eq_true rfl⟩) hK hP [0, 3] rfl (va_recv hK hP (ci := 6) (q0 := 0) rfl rfl) rfl hl.1 rfl (Nat.le_of_ble_eq_true rfl) dX6_save_52 ⟨Nat.le_of_ble_eq_true rfl, Nat.le_of_ble_eq_true rfl⟩ ?_
            refine lv_aload_n hx hb dX6_save_55 rfl (lv_at hl 0 rfl) ?_
            refine va_get (D := D) (ci := 6) (v := .ref h_st) (C := RX6) (T := TX6) (N := 24) hx hb hts uX6_save_X6 hown hK hP 0 rfl rfl 5 (by decide) (hts (.fieldLink RX6 16 "SpeaksForTheChairModel" "st" "[I") (List.mem_of_getElem? (i := 2) rfl)) (fun _ h9 => h9) rfl dX6_save_56 ?_
            refine lv_iconst (v := 0) hx hb dX6_save_59 (by decide) ?_
            refine va_iald hx hb hK hP 1 0 rfl rfl (okI_in (by decide)) dX6_save_60 ?_
            refine lv_icmp_gt (tgt := 124) hx hb dX6_save_61 (by decide) (fun c_30 => ?_) (fun c_30 => ?_)
            · have hf := ip c_30 hf
              obtain ⟨x11, ex11⟩ : ∃ y : Int32, y = (x6 + 1) := ⟨_, rfl⟩
              have hf := pv_eq ex11 hf
              refine lv_iinc (v := x11) (lv' := [(5, .int x11), (0, .ref h), (1, .int a1), (2, .int x4), (3, .int x5), (4, .int x3)]) hx hb dX6_save_124 hl (k := 5) rfl (by rw [ex11]; rfl) (by decide) rfl (fun ls hl => ?_)
              refine lv_goto (tgt := 28) hx hb dX6_save_127 (by decide) ?_
              exact ih _ _ _ ls (lv_sub hl [1, 2, 3, 4, 5, 0] rfl) _ _ hf KX
            · have hf := im c_30 hf
              refine lv_aload_n hx hb dX6_save_64 rfl (lv_at hl 0 rfl) ?_
              refine lv_aload_n hx hb dX6_save_65 rfl (lv_at hl 0 rfl) ?_
              refine lv_iload hx hb dX6_save_66 (lv_at hl 4 rfl) ?_
              refine lv_iload hx hb dX6_save_68 (lv_at hl 5 rfl) ?_
              refine lv_iconst (v := (-1)) hx hb dX6_save_70 (by decide) ?_
              refine lv_ixor hx hb dX6_save_71 ?_
              refine lv_iand hx hb dX6_save_72 ?_
              obtain ⟨x12, hv_31, hf⟩ := ob1_some hf
              refine q_rVi (As := [.int (x3 &&& (x6 ^^^ (-1)))]) (rest := [.ref h]) (r := x12) ⟨hx, hb, hml, hown, hts⟩ (c_X6_toldByAll l D cI cC cL cB h h_piece h_deed h_st h_was h_kept h_seen h_text h_told h_readPiece h_readRoom h_readDeed h_now ((x3 &&& (x6 ^^^ (-1)))) h_pieces h_deeds h_law h_acts h_keeps h_seens h_texted h_at h_readPieces h_readDeeds h_readCoins h_readLaw h_deed_c c2 h_piece_c x12 hv_31) (cwV 1 hts gX6_save_X6_toldByAll rfl rfl rfl (by decide +kernel) ⟨Nat.le_of_ble_eq_true rfl, Nat.le_of_ble_eq_true rfl⟩) hK hP [0, 4, 2, 3] rfl (va_recv hK hP (ci := 6) (q0 := 0) rfl rfl) rfl hl.1 rfl (Nat.le_of_ble_eq_true rfl) dX6_save_73 ⟨Nat.le_of_ble_eq_true rfl, Nat.le_of_ble_eq_true rfl⟩ ?_
              refine lv_aload_n hx hb dX6_save_76 rfl (lv_at hl 0 rfl) ?_
              refine va_get (D := D) (ci := 6) (v := .ref h_st) (C := RX6) (T := TX6) (N := 24) hx hb hts uX6_save_X6 hown hK hP 0 rfl rfl 5 (by decide) (hts (.fieldLink RX6 16 "SpeaksForTheChairModel" "st" "[I") (List.mem_of_getElem? (i := 2) rfl)) (fun _ h9 => h9) rfl dX6_save_77 ?_
              refine lv_iconst (v := 1) hx hb dX6_save_80 (by decide) ?_
              refine va_iald hx hb hK hP 1 0 rfl rfl (okI_in (by decide)) dX6_save_81 ?_
              refine lv_iconst (v := (-1)) hx hb dX6_save_82 (by decide) ?_
              refine lv_ixor hx hb dX6_save_83 ?_
              refine lv_iand hx hb dX6_save_84 ?_
              obtain ⟨x13, hv_32, hf⟩ := ob1_some hf
              refine q_rVi (As := [.int (x12 &&& ((h_st_c (1 : Int32).toNatClampNeg) ^^^ (-1)))]) (rest := []) (r := x13) ⟨hx, hb, hml, hown, hts⟩ (c_X6_allWeigh l D cI cC cL cB h h_piece h_deed h_st h_was h_kept h_seen h_text h_told h_readPiece h_readRoom h_readDeed h_now ((x12 &&& ((h_st_c (1 : Int32).toNatClampNeg) ^^^ (-1)))) h_pieces h_deeds h_law h_acts h_keeps h_seens h_texted h_at h_readPieces h_readDeeds h_readCoins h_readLaw h_deed_c x13 hv_32) (cwV 1 hts gX6_save_X6_allWeigh rfl rfl rfl (by decide +kernel) ⟨Nat.le_of_ble_eq_true rfl, Nat.le_of_ble_eq_true rfl⟩) hK hP [0, 4] rfl (va_recv hK hP (ci := 6) (q0 := 0) rfl rfl) rfl hl.1 rfl (Nat.le_of_ble_eq_true rfl) dX6_save_85 ⟨Nat.le_of_ble_eq_true rfl, Nat.le_of_ble_eq_true rfl⟩ ?_
              refine lv_istore (lv' := [(6, .int x13), (0, .ref h), (1, .int a1), (2, .int x4), (3, .int x5), (4, .int x3), (5, .int x6)]) hx hb dX6_save_88 hl (by decide) rfl (fun ls hl => ?_)
              refine lv_iload_n hx hb dX6_save_90 rfl (lv_at hl 4 rfl) ?_
              obtain ⟨x14, hr106, hf⟩ := ob1_some hf
              refine q_jn (pcJ := 106) (nL := 7) (vs := [(0, .ref h), (1, .int a1), (3, .int x5), (4, .int x3), (5, .int x6), (6, .int x13)]) (st := [.int x14]) (fun ls hl => ?_) (fun J106 => ?_)
              · clear hr106
                refine lv_istore_n (lv' := [(2, .int x14), (0, .ref h), (1, .int a1), (3, .int x5), (4, .int x3), (5, .int x6), (6, .int x13)]) hx hb dX6_save_106 rfl hl (by decide) rfl (fun ls hl => ?_)
                refine lv_iload_n hx hb dX6_save_107 rfl (lv_at hl 3 rfl) ?_
                refine lv_if_lt (tgt := 117) hx hb dX6_save_108 (by decide) (fun c_35 => ?_) (fun c_35 => ?_)
                · have hf := ip c_35 hf
                  refine lv_iload hx hb dX6_save_117 (lv_at hl 6 rfl) ?_
                  refine lv_goto (tgt := 123) hx hb dX6_save_119 (by decide) ?_
                  refine lv_istore_n (lv' := [(3, .int x13), (2, .int x14), (0, .ref h), (1, .int a1), (4, .int x3), (5, .int x6), (6, .int x13)]) hx hb dX6_save_123 rfl hl (by decide) rfl (fun ls hl => ?_)
                  obtain ⟨x15, ex15⟩ : ∃ y : Int32, y = (x6 + 1) := ⟨_, rfl⟩
                  have hf := pv_eq ex15 hf
                  refine lv_iinc (v := x15) (lv' := [(5, .int x15), (3, .int x13), (2, .int x14), (0, .ref h), (1, .int a1), (4, .int x3), (6, .int x13)]) hx hb dX6_save_124 hl (k := 5) rfl (by rw [ex15]; rfl) (by decide) rfl (fun ls hl => ?_)
                  refine lv_goto (tgt := 28) hx hb dX6_save_127 (by decide) ?_
                  exact ih _ _ _ ls (lv_sub hl [3, 4, 2, 1, 5, 0] rfl) _ _ hf KX
                · have hf := im c_35 hf
                  refine lv_iload hx hb dX6_save_111 (lv_at hl 6 rfl) ?_
                  refine lv_iload_n hx hb dX6_save_113 rfl (lv_at hl 3 rfl) ?_
                  refine lv_icmp_ge (tgt := 122) hx hb dX6_save_114 (by decide) (fun c_36 => ?_) (fun c_36 => ?_)
                  · have hf := ip c_36 hf
                    refine lv_iload_n hx hb dX6_save_122 rfl (lv_at hl 3 rfl) ?_
                    refine lv_istore_n (lv' := [(3, .int x5), (2, .int x14), (0, .ref h), (1, .int a1), (4, .int x3), (5, .int x6), (6, .int x13)]) hx hb dX6_save_123 rfl hl (by decide) rfl (fun ls hl => ?_)
                    obtain ⟨x16, ex16⟩ : ∃ y : Int32, y = (x6 + 1) := ⟨_, rfl⟩
                    have hf := pv_eq ex16 hf
                    refine lv_iinc (v := x16) (lv' := [(5, .int x16), (3, .int x5), (2, .int x14), (0, .ref h), (1, .int a1), (4, .int x3), (6, .int x13)]) hx hb dX6_save_124 hl (k := 5) rfl (by rw [ex16]; rfl) (by decide) rfl (fun ls hl => ?_)
                    refine lv_goto (tgt := 28) hx hb dX6_save_127 (by decide) ?_
                    exact ih _ _ _ ls (lv_sub hl [3, 4, 2, 1, 5, 0] rfl) _ _ hf KX
                  · have hf := im c_36 hf
                    refine lv_iload hx hb dX6_save_117 (lv_at hl 6 rfl) ?_
                    refine lv_goto (tgt := 123) hx hb dX6_save_119 (by decide) ?_
                    refine lv_istore_n (lv' := [(3, .int x13), (2, .int x14), (0, .ref h), (1, .int a1), (4, .int x3), (5, .int x6), (6, .int x13)]) hx hb dX6_save_123 rfl hl (by decide) rfl (fun ls hl => ?_)
                    obtain ⟨x17, ex17⟩ : ∃ y : Int32, y = (x6 + 1) := ⟨_, rfl⟩
                    have hf := pv_eq ex17 hf
                    refine lv_iinc (v := x17) (lv' := [(5, .int x17), (3, .int x13), (2, .int x14), (0, .ref h), (1, .int a1), (4, .int x3), (6, .int x13)]) hx hb dX6_save_124 hl (k := 5) rfl (by rw [ex17]; rfl) (by decide) rfl (fun ls hl => ?_)
                    refine lv_goto (tgt := 28) hx hb dX6_save_127 (by decide) ?_
                    exact ih _ _ _ ls (lv_sub hl [3, 4, 2, 1, 5, 0] rfl) _ _ hf KX
              · replace hf := hr106
                refine lv_if_lt (tgt := 100) hx hb dX6_save_91 (by decide) (fun c_33 => ?_) (fun c_33 => ?_)
                · have hf := ip c_33 hf
                  refine lv_iload hx hb dX6_save_100 (lv_at hl 6 rfl) ?_
                  refine lv_goto (tgt := 106) hx hb dX6_save_102 (by decide) ?_
                  cases hf
                  exact J106 ls (lv_sub hl [1, 2, 4, 5, 6, 0] rfl)
                · have hf := im c_33 hf
                  refine lv_iload hx hb dX6_save_94 (lv_at hl 0 rfl) ?_
                  refine lv_iload_n hx hb dX6_save_96 rfl (lv_at hl 4 rfl) ?_
                  refine lv_icmp_ge (tgt := 105) hx hb dX6_save_97 (by decide) (fun c_37 => ?_) (fun c_37 => ?_)
                  · have hf := ip c_37 hf
                    refine lv_iload_n hx hb dX6_save_105 rfl (lv_at hl 3 rfl) ?_
                    cases hf
                    exact J106 ls (lv_sub hl [1, 2, 4, 5, 6, 0] rfl)
                  · have hf := im c_37 hf
                    refine lv_iload hx hb dX6_save_100 (lv_at hl 6 rfl) ?_
                    refine lv_goto (tgt := 106) hx hb dX6_save_102 (by decide) ?_
                    cases hf
                    exact J106 ls (lv_sub hl [1, 2, 4, 5, 6, 0] rfl)
    obtain ⟨x7, x8, hr28, hf⟩ := ob2_some hf
    refine loop28 300 _ _ _ ls (lv_sub hl [4, 5, 3, 2, 1, 0] rfl) _ _ hr28 (fun ls hl => ?_)
    refine lv_iload_n hx hb dX6_save_130 rfl (lv_at hl 0 rfl) ?_
    refine lv_if_ne (tgt := 138) hx hb dX6_save_131 (by decide) (fun c_38 => ?_) (fun c_38 => ?_)
    · have hf := im c_38 hf
      refine lv_iload_n hx hb dX6_save_138 rfl (lv_at hl 1 rfl) ?_
      cases hf
      exact W.iret hx hb hr (fun t ht hW => ⟨⟨_, (), rfl, rfl, by rw [ht]; exact hP, va_K.moved hW.alike hK, hD⟩, hS.F ht⟩) hS.2.2 dX6_save_139
    · have hf := ip c_38 hf
      refine lv_iload_n hx hb dX6_save_134 rfl (lv_at hl 2 rfl) ?_
      refine lv_goto (tgt := 139) hx hb dX6_save_135 (by decide) ?_
      cases hf
      exact W.iret hx hb hr (fun t ht hW => ⟨⟨_, (), rfl, rfl, by rw [ht]; exact hP, va_K.moved hW.alike hK, hD⟩, hS.F ht⟩) hS.2.2 dX6_save_139
  · have hf := ip c_2 hf
    refine lv_iconst (v := (-1)) hx hb dX6_save_9 (by decide) ?_
    cases hf
    exact W.iret hx hb hr (fun t ht hW => ⟨⟨_, (), rfl, rfl, by rw [ht]; exact hP, va_K.moved hW.alike hK, hD⟩, hS.F ht⟩) hS.2.2 dX6_save_10
