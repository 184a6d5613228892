/-! contracts: X6_may, X6_likely, X6_sale, X6_keep, X6_back, X6_manyAre -/
theorem uX6_may_X6 : ∀ w ∈ wsX60, w ∈ wsX6_may := fun w h => List.mem_cons_of_mem _ (List.mem_append_right _ h)
set_option maxHeartbeats 4000000 in
set_option maxRecDepth 100000 in
theorem c_X6_may (l : Launch) (D : va_G) (cI cC cL cB : ClassId) (sz : Nat) (h : Nat) (h_piece : Nat) (h_deed : Nat) (h_st : Nat) (h_was : Nat) (h_kept : Nat) (h_seen : Nat) (h_text : Nat) (h_told : Nat) (h_readPiece : Nat) (h_readRoom : Nat) (h_readDeed : Nat) (h_now : Nat) (a1 : Int32) (a2 : Int32) (h_pieces : Int32) (h_deeds : Int32) (h_law : Int32) (h_acts : Int32) (h_keeps : Int32) (h_seens : Int32) (h_texted : Int32) (h_at : Int32) (h_readPieces : Int32) (h_readDeeds : Int32) (h_readCoins : Int32) (h_readLaw : Int32) (h_st_c : Nat → Int32) (h_now_c : Nat → Int32) (h_deed_c : Nat → Int32) (h_seen_c : Nat → Int32) (h_piece_c : Nat → Int32) (r : Int32) (o0 : Nat → Int32) (o1 : Nat → Int32) (hf : m_X6_may a1 a2 h_deeds h_seens h_st_c h_now_c h_deed_c h_seen_c h_piece_c = some (r, o0, o1)) : Met l yX6_may wsX6_may ({ frames := 4, cells := 0, slots := 0, locals := 92 }) (va_Pc [.ref h, .int a1, .int a2] (q_W D vwCl (tyL cI cC cL cB) [(h, .inr (6, [.int h_pieces, .ref h_piece, .int h_deeds, .ref h_deed, .int h_law, .ref h_st, .int h_acts, .ref h_was, .int h_keeps, .ref h_kept, .int h_seens, .ref h_seen, .ref h_text, .int h_texted, .int h_at, .ref h_told, .int h_readPieces, .ref h_readPiece, .ref h_readRoom, .int h_readDeeds, .ref h_readDeed, .int h_readCoins, .int h_readLaw, .ref h_now])), (h_st, .inl (cI, 18, .inl h_st_c)), (h_now, .inl (cI, 18, .inl h_now_c)), (h_deed, .inl (cI, 40, .inl h_deed_c)), (h_seen, .inl (cI, 18, .inl h_seen_c)), (h_piece, .inl (cI, 16, .inl h_piece_c))] sz)) (va_Qi (fun r' _ => r' = r) (q_E D vwCl (tyL cI cC cL cB) (va_A [(h, .inr (6, [.int h_pieces, .ref h_piece, .int h_deeds, .ref h_deed, .int h_law, .ref h_st, .int h_acts, .ref h_was, .int h_keeps, .ref h_kept, .int h_seens, .ref h_seen, .ref h_text, .int h_texted, .int h_at, .ref h_told, .int h_readPieces, .ref h_readPiece, .ref h_readRoom, .int h_readDeeds, .ref h_readDeed, .int h_readCoins, .int h_readLaw, .ref h_now])), (h_st, .inl (cI, 18, .inl h_st_c)), (h_now, .inl (cI, 18, .inl h_now_c)), (h_deed, .inl (cI, 40, .inl h_deed_c)), (h_seen, .inl (cI, 18, .inl h_seen_c)), (h_piece, .inl (cI, 16, .inl h_piece_c))] sz) [(h, .inr (6, [.int h_pieces, .ref h_piece, .int h_deeds, .ref h_deed, .int h_law, .ref h_st, .int h_acts, .ref h_was, .int h_keeps, .ref h_kept, .int h_seens, .ref h_seen, .ref h_text, .int h_texted, .int h_at, .ref h_told, .int h_readPieces, .ref h_readPiece, .ref h_readRoom, .int h_readDeeds, .ref h_readDeed, .int h_readCoins, .int h_readLaw, .ref h_now])), (h_st, .inl (cI, 18, .inl h_st_c)), (h_now, .inl (cI, 18, .inl o0)), (h_deed, .inl (cI, 40, .inl o1)), (h_seen, .inl (cI, 18, .inl h_seen_c)), (h_piece, .inl (cI, 16, .inl h_piece_c))]) (va_A [(h, .inr (6, [.int h_pieces, .ref h_piece, .int h_deeds, .ref h_deed, .int h_law, .ref h_st, .int h_acts, .ref h_was, .int h_keeps, .ref h_kept, .int h_seens, .ref h_seen, .ref h_text, .int h_texted, .int h_at, .ref h_told, .int h_readPieces, .ref h_readPiece, .ref h_readRoom, .int h_readDeeds, .ref h_readDeed, .int h_readCoins, .int h_readLaw, .ref h_now])), (h_st, .inl (cI, 18, .inl h_st_c)), (h_now, .inl (cI, 18, .inl h_now_c)), (h_deed, .inl (cI, 40, .inl h_deed_c)), (h_seen, .inl (cI, 18, .inl h_seen_c)), (h_piece, .inl (cI, 16, .inl h_piece_c))] sz)) 0 0 (va_A [(h, .inr (6, [.int h_pieces, .ref h_piece, .int h_deeds, .ref h_deed, .int h_law, .ref h_st, .int h_acts, .ref h_was, .int h_keeps, .ref h_kept, .int h_seens, .ref h_seen, .ref h_text, .int h_texted, .int h_at, .ref h_told, .int h_readPieces, .ref h_readPiece, .ref h_readRoom, .int h_readDeeds, .ref h_readDeed, .int h_readCoins, .int h_readLaw, .ref h_now])), (h_st, .inl (cI, 18, .inl h_st_c)), (h_now, .inl (cI, 18, .inl h_now_c)), (h_deed, .inl (cI, 40, .inl h_deed_c)), (h_seen, .inl (cI, 18, .inl h_seen_c)), (h_piece, .inl (cI, 16, .inl h_piece_c))] sz) := by
  refine Met.ofW (cc := cX6_may) (maxL := 7) (ret := (some .int)) (by decide) rfl ?_
  intro p e s m args below meth c s₁ B hml hv
  obtain ⟨rfl, hsz, hP, hK, hD0⟩ := hv
  have hx := B.exec
  have hb := B.bytes
  have hr := B.returns
  have hts := atoms_spec (ws := wsX6_may) B.pre
  have hown : s.vm.findClass RX6 = some m.cls := findClass_of_methodNamed B.named
  have hlocks := B.notSynchronized
  subst hsz
  have hD := hD0.self (sz := s.heap.size)
  generalize hAe : va_A [(h, .inr (6, [.int h_pieces, .ref h_piece, .int h_deeds, .ref h_deed, .int h_law, .ref h_st, .int h_acts, .ref h_was, .int h_keeps, .ref h_kept, .int h_seens, .ref h_seen, .ref h_text, .int h_texted, .int h_at, .ref h_told, .int h_readPieces, .ref h_readPiece, .ref h_readRoom, .int h_readDeeds, .ref h_readDeed, .int h_readCoins, .int h_readLaw, .ref h_now])), (h_st, .inl (cI, 18, .inl h_st_c)), (h_now, .inl (cI, 18, .inl h_now_c)), (h_deed, .inl (cI, 40, .inl h_deed_c)), (h_seen, .inl (cI, 18, .inl h_seen_c)), (h_piece, .inl (cI, 16, .inl h_piece_c))] s.heap.size = A at hD ⊢
  have hA : ∀ q : Nat, s.heap.size ≤ q → A q := fun q h => by rw [← hAe]; exact Or.inr h
  have hS : va_S A s.heap s.heap [] := va_S.rf
  have hP : va_P D vwCl [(h, .inr (6, [.int h_pieces, .ref h_piece, .int h_deeds, .ref h_deed, .int h_law, .ref h_st, .int h_acts, .ref h_was, .int h_keeps, .ref h_kept, .int h_seens, .ref h_seen, .ref h_text, .int h_texted, .int h_at, .ref h_told, .int h_readPieces, .ref h_readPiece, .ref h_readRoom, .int h_readDeeds, .ref h_readDeed, .int h_readCoins, .int h_readLaw, .ref h_now])), (h_st, .inl (cI, 18, .inl h_st_c)), (h_now, .inl (cI, 18, .inl h_now_c)), (h_deed, .inl (cI, 40, .inl h_deed_c)), (h_seen, .inl (cI, 18, .inl h_seen_c)), (h_piece, .inl (cI, 16, .inl h_piece_c))] s.heap := hP
  have hl := lv_entry ([.ref h, .int a1, .int a2]) (n := 7) (Nat.le_of_ble_eq_true rfl)
  rw [lg_entry_eq]
  generalize (lg_sl ([.ref h, .int a1, .int a2]) ++ List.replicate (7 - (lg_sl ([.ref h, .int a1, .int a2])).length) Slot.unset).toArray = ls at hl ⊢
  have hl : lv_has ls 7 [(0, .ref h), (1, .int a1), (2, .int a2)] := hl
  unfold m_X6_may at hf
  refine lv_aload_n hx hb dX6_may_0 rfl (lv_at hl 0 rfl) ?_
  refine lv_iload_n hx hb dX6_may_1 rfl (lv_at hl 1 rfl) ?_
  obtain ⟨x1, hv_1, hf⟩ := ob1_some hf
  refine q_rVi (As := [.int a1]) (rest := []) (r := x1) ⟨hx, hb, hml, hown, hts⟩ (c_X6_isDeed l D cI cC cL cB h h_piece h_deed h_st h_was h_kept h_seen h_text h_told h_readPiece h_readRoom h_readDeed h_now a1 h_pieces h_deeds h_law h_acts h_keeps h_seens h_texted h_at h_readPieces h_readDeeds h_readCoins h_readLaw x1 hv_1) (cwV 1 hts gX6_may_X6_isDeed rfl rfl rfl (by decide +kernel) ⟨Nat.le_of_ble_eq_true rfl, Nat.le_of_ble_eq_true rfl⟩) hK hP [0] rfl (va_recv hK hP (ci := 6) (q0 := 0) rfl rfl) rfl hl.1 rfl (Nat.le_of_ble_eq_true rfl) dX6_may_2 ⟨Nat.le_of_ble_eq_true rfl, Nat.le_of_ble_eq_true rfl⟩ ?_
  refine lv_if_eq (tgt := 17) hx hb dX6_may_5 (by decide) (fun c_2 => ?_) (fun c_2 => ?_)
  · have hf := ip c_2 hf
    refine lv_iconst (v := (-1)) hx hb dX6_may_17 (by decide) ?_
    cases hf
    exact W.iret hx hb hr (fun t ht hW => ⟨⟨_, (), rfl, rfl, by rw [ht]; exact hP, va_K.moved hW.alike hK, hD⟩, hS.F ht⟩) hS.2.2 dX6_may_18
  · have hf := im c_2 hf
    refine lv_iload_n hx hb dX6_may_8 rfl (lv_at hl 2 rfl) ?_
    refine lv_iconst (v := 0) hx hb dX6_may_9 (by decide) ?_
    refine lv_iconst (v := 1) hx hb dX6_may_10 (by decide) ?_
    obtain ⟨x2, hv_3, hf⟩ := ob1_some hf
    refine q_rSi (As := [.int a2, .int 0, .int 1]) (rest := []) (r := x2) ⟨hx, hb, hml, hown, hts⟩ (c_X6_in l D cI cC cL cB a2 ((0 : Int32)) ((1 : Int32)) x2 hv_3) (va_cwS 3 hts gX6_may_X6_in rfl rfl rfl (by decide +kernel) ⟨Nat.le_of_ble_eq_true rfl, Nat.le_of_ble_eq_true rfl⟩) hK hP [] rfl rfl hl.1 rfl (Nat.le_of_ble_eq_true rfl) dX6_may_11 ⟨Nat.le_of_ble_eq_true rfl, Nat.le_of_ble_eq_true rfl⟩ ?_
    refine lv_if_ne (tgt := 19) hx hb dX6_may_14 (by decide) (fun c_4 => ?_) (fun c_4 => ?_)
    · have hf := im c_4 hf
      refine lv_aload_n hx hb dX6_may_19 rfl (lv_at hl 0 rfl) ?_
      obtain ⟨c3, hv_5, hf⟩ := ob1_some hf
      refine q_wVv (As := []) (rest := []) (w1 := [(h, .inr (6, [.int h_pieces, .ref h_piece, .int h_deeds, .ref h_deed, .int h_law, .ref h_st, .int h_acts, .ref h_was, .int h_keeps, .ref h_kept, .int h_seens, .ref h_seen, .ref h_text, .int h_texted, .int h_at, .ref h_told, .int h_readPieces, .ref h_readPiece, .ref h_readRoom, .int h_readDeeds, .ref h_readDeed, .int h_readCoins, .int h_readLaw, .ref h_now])), (h_st, .inl (cI, 18, .inl h_st_c)), (h_now, .inl (cI, 18, .inl c3))]) (wr := [(h_deed, .inl (cI, 40, .inl h_deed_c)), (h_seen, .inl (cI, 18, .inl h_seen_c)), (h_piece, .inl (cI, 16, .inl h_piece_c))]) (w2 := [(h, .inr (6, [.int h_pieces, .ref h_piece, .int h_deeds, .ref h_deed, .int h_law, .ref h_st, .int h_acts, .ref h_was, .int h_keeps, .ref h_kept, .int h_seens, .ref h_seen, .ref h_text, .int h_texted, .int h_at, .ref h_told, .int h_readPieces, .ref h_readPiece, .ref h_readRoom, .int h_readDeeds, .ref h_readDeed, .int h_readCoins, .int h_readLaw, .ref h_now])), (h_st, .inl (cI, 18, .inl h_st_c)), (h_now, .inl (cI, 18, .inl c3)), (h_deed, .inl (cI, 40, .inl h_deed_c)), (h_seen, .inl (cI, 18, .inl h_seen_c)), (h_piece, .inl (cI, 16, .inl h_piece_c))]) ⟨hx, hb, hml, hown, hts⟩ (c_X6_asItIs l D cI cC cL cB s.heap.size h h_piece h_deed h_st h_was h_kept h_seen h_text h_told h_readPiece h_readRoom h_readDeed h_now h_pieces h_deeds h_law h_acts h_keeps h_seens h_texted h_at h_readPieces h_readDeeds h_readCoins h_readLaw h_st_c h_now_c c3 hv_5) (cwV 0 hts gX6_may_X6_asItIs rfl rfl rfl (by decide +kernel) ⟨Nat.le_of_ble_eq_true rfl, Nat.le_of_ble_eq_true rfl⟩) hK hP hD hS hA [0, 1, 2] rfl (by decide) [3, 4, 5] rfl (by decide) (by decide) [3, 4, 5, 0, 1, 2] rfl (by decide) (va_recv hK hP (ci := 6) (q0 := 0) rfl rfl) rfl hl.1 rfl (Nat.le_of_ble_eq_true rfl) dX6_may_20 ⟨Nat.le_of_ble_eq_true rfl, Nat.le_of_ble_eq_true rfl⟩ (fun H locs hP hD hS => ?_)
      have hP : va_P D vwCl [(h, .inr (6, [.int h_pieces, .ref h_piece, .int h_deeds, .ref h_deed, .int h_law, .ref h_st, .int h_acts, .ref h_was, .int h_keeps, .ref h_kept, .int h_seens, .ref h_seen, .ref h_text, .int h_texted, .int h_at, .ref h_told, .int h_readPieces, .ref h_readPiece, .ref h_readRoom, .int h_readDeeds, .ref h_readDeed, .int h_readCoins, .int h_readLaw, .ref h_now])), (h_st, .inl (cI, 18, .inl h_st_c)), (h_now, .inl (cI, 18, .inl c3)), (h_deed, .inl (cI, 40, .inl h_deed_c)), (h_seen, .inl (cI, 18, .inl h_seen_c)), (h_piece, .inl (cI, 16, .inl h_piece_c))] H := hP
      have hD : va_D A [(h, .inr (6, [.int h_pieces, .ref h_piece, .int h_deeds, .ref h_deed, .int h_law, .ref h_st, .int h_acts, .ref h_was, .int h_keeps, .ref h_kept, .int h_seens, .ref h_seen, .ref h_text, .int h_texted, .int h_at, .ref h_told, .int h_readPieces, .ref h_readPiece, .ref h_readRoom, .int h_readDeeds, .ref h_readDeed, .int h_readCoins, .int h_readLaw, .ref h_now])), (h_st, .inl (cI, 18, .inl h_st_c)), (h_now, .inl (cI, 18, .inl c3)), (h_deed, .inl (cI, 40, .inl h_deed_c)), (h_seen, .inl (cI, 18, .inl h_seen_c)), (h_piece, .inl (cI, 16, .inl h_piece_c))] := hD
      refine lv_iconst (v := 4) hx hb dX6_may_23 (by decide) ?_
      refine lv_iload_n hx hb dX6_may_24 rfl (lv_at hl 1 rfl) ?_
      refine lv_imul hx hb dX6_may_25 ?_
      refine lv_iconst (v := 1) hx hb dX6_may_26 (by decide) ?_
      refine lv_iadd hx hb dX6_may_27 ?_
      refine lv_iload_n hx hb dX6_may_28 rfl (lv_at hl 2 rfl) ?_
      refine lv_iadd hx hb dX6_may_29 ?_
      refine lv_topi (fun x4 ex4 => ?_)
      have hf := pv_eq ex4 hf
      refine lv_istore_n (lv' := [(3, .int x4), (0, .ref h), (1, .int a1), (2, .int a2)]) hx hb dX6_may_30 rfl hl (by decide) rfl (fun ls hl => ?_)
      refine lv_aload_n hx hb dX6_may_31 rfl (lv_at hl 1 rfl) ?_
      refine va_get (D := D) (ci := 6) (v := .ref h_deed) (C := RX6) (T := TX6) (N := 24) hx hb hts uX6_may_X6 hown hK hP 0 rfl rfl 3 (by decide) (hts (.fieldLink RX6 13 "SpeaksForTheChairModel" "deed" "[I") (List.mem_of_getElem? (i := 1) rfl)) (fun _ h9 => h9) rfl dX6_may_32 ?_
      refine lv_iload_n hx hb dX6_may_35 rfl (lv_at hl 0 rfl) ?_
      obtain ⟨g_6, hf⟩ := gu_in hf
      refine va_iald hx hb hK hP 3 0 rfl rfl g_6 dX6_may_36 ?_
      refine lv_topi (fun x5 ex5 => ?_)
      have hf := pv_eq ex5 hf
      refine lv_istore (lv' := [(4, .int x5), (3, .int x4), (0, .ref h), (1, .int a1), (2, .int a2)]) hx hb dX6_may_37 hl (by decide) rfl (fun ls hl => ?_)
      refine lv_iconst (v := 0) hx hb dX6_may_39 (by decide) ?_
      refine lv_istore (lv' := [(5, .int 0), (4, .int x5), (3, .int x4), (0, .ref h), (1, .int a1), (2, .int a2)]) hx hb dX6_may_40 hl (by decide) rfl (fun ls hl => ?_)
      refine lv_iconst (v := 0) hx hb dX6_may_42 (by decide) ?_
      refine lv_istore (lv' := [(6, .int 0), (5, .int 0), (4, .int x5), (3, .int x4), (0, .ref h), (1, .int a1), (2, .int a2)]) hx hb dX6_may_43 hl (by decide) rfl (fun ls hl => ?_)
      have loop45 : ∀ (n : Nat) (c6 : Nat → Int32) (x7 : Int32) (x8 : Int32), ∀ (H : Heap) (locs : List Loc), va_P D vwCl [(h, .inr (6, [.int h_pieces, .ref h_piece, .int h_deeds, .ref h_deed, .int h_law, .ref h_st, .int h_acts, .ref h_was, .int h_keeps, .ref h_kept, .int h_seens, .ref h_seen, .ref h_text, .int h_texted, .int h_at, .ref h_told, .int h_readPieces, .ref h_readPiece, .ref h_readRoom, .int h_readDeeds, .ref h_readDeed, .int h_readCoins, .int h_readLaw, .ref h_now])), (h_st, .inl (cI, 18, .inl h_st_c)), (h_now, .inl (cI, 18, .inl c3)), (h_deed, .inl (cI, 40, .inl c6)), (h_seen, .inl (cI, 18, .inl h_seen_c)), (h_piece, .inl (cI, 16, .inl h_piece_c))] H → va_D A [(h, .inr (6, [.int h_pieces, .ref h_piece, .int h_deeds, .ref h_deed, .int h_law, .ref h_st, .int h_acts, .ref h_was, .int h_keeps, .ref h_kept, .int h_seens, .ref h_seen, .ref h_text, .int h_texted, .int h_at, .ref h_told, .int h_readPieces, .ref h_readPiece, .ref h_readRoom, .int h_readDeeds, .ref h_readDeed, .int h_readCoins, .int h_readLaw, .ref h_now])), (h_st, .inl (cI, 18, .inl h_st_c)), (h_now, .inl (cI, 18, .inl c3)), (h_deed, .inl (cI, 40, .inl c6)), (h_seen, .inl (cI, 18, .inl h_seen_c)), (h_piece, .inl (cI, 16, .inl h_piece_c))] → va_S A s.heap H locs → ∀ (ls : Array Slot), lv_has ls 7 [(0, .ref h), (1, .int a1), (2, .int a2), (3, .int x4), (4, .int x5), (5, .int x7), (6, .int x8)] → ∀ (c9 : Nat → Int32) (x10 : Int32), L_X6_may_45 a2 x4 a1 h_deeds h_seens h_seen_c c3 h_piece_c n c6 x7 x8 = some (c9, x10) → (∀ (H : Heap) (locs : List Loc), va_P D vwCl [(h, .inr (6, [.int h_pieces, .ref h_piece, .int h_deeds, .ref h_deed, .int h_law, .ref h_st, .int h_acts, .ref h_was, .int h_keeps, .ref h_kept, .int h_seens, .ref h_seen, .ref h_text, .int h_texted, .int h_at, .ref h_told, .int h_readPieces, .ref h_readPiece, .ref h_readRoom, .int h_readDeeds, .ref h_readDeed, .int h_readCoins, .int h_readLaw, .ref h_now])), (h_st, .inl (cI, 18, .inl h_st_c)), (h_now, .inl (cI, 18, .inl c3)), (h_deed, .inl (cI, 40, .inl c9)), (h_seen, .inl (cI, 18, .inl h_seen_c)), (h_piece, .inl (cI, 16, .inl h_piece_c))] H → va_D A [(h, .inr (6, [.int h_pieces, .ref h_piece, .int h_deeds, .ref h_deed, .int h_law, .ref h_st, .int h_acts, .ref h_was, .int h_keeps, .ref h_kept, .int h_seens, .ref h_seen, .ref h_text, .int h_texted, .int h_at, .ref h_told, .int h_readPieces, .ref h_readPiece, .ref h_readRoom, .int h_readDeeds, .ref h_readDeed, .int h_readCoins, .int h_readLaw, .ref h_now])), (h_st, .inl (cI, 18, .inl h_st_c)), (h_now, .inl (cI, 18, .inl c3)), (h_deed, .inl (cI, 40, .inl c9)), (h_seen, .inl (cI, 18, .inl h_seen_c)), (h_piece, .inl (cI, 16, .inl h_piece_c))] → va_S A s.heap H locs → ∀ (ls : Array Slot), lv_has ls 7 [(0, .ref h), (3, .int x4), (4, .int x5), (5, .int x10)] → W p l e (headSpec wsX6_may ({ frames := 4, cells := 0, slots := 0, locals := 92 })).room s m ([.ref h, .int a1, .int a2] : List Value).toArray below meth c H locs 0 0 (MQ below (va_Qi (fun r' _ => r' = r) (q_E D vwCl (tyL cI cC cL cB) A [(h, .inr (6, [.int h_pieces, .ref h_piece, .int h_deeds, .ref h_deed, .int h_law, .ref h_st, .int h_acts, .ref h_was, .int h_keeps, .ref h_kept, .int h_seens, .ref h_seen, .ref h_text, .int h_texted, .int h_at, .ref h_told, .int h_readPieces, .ref h_readPiece, .ref h_readRoom, .int h_readDeeds, .ref h_readDeed, .int h_readCoins, .int h_readLaw, .ref h_now])), (h_st, .inl (cI, 18, .inl h_st_c)), (h_now, .inl (cI, 18, .inl o0)), (h_deed, .inl (cI, 40, .inl o1)), (h_seen, .inl (cI, 18, .inl h_seen_c)), (h_piece, .inl (cI, 16, .inl h_piece_c))]) A) ([.ref h, .int a1, .int a2] : List Value).toArray s 0 0 A) (F0 m 95 ls [])) → W p l e (headSpec wsX6_may ({ frames := 4, cells := 0, slots := 0, locals := 92 })).room s m ([.ref h, .int a1, .int a2] : List Value).toArray below meth c H locs 0 0 (MQ below (va_Qi (fun r' _ => r' = r) (q_E D vwCl (tyL cI cC cL cB) A [(h, .inr (6, [.int h_pieces, .ref h_piece, .int h_deeds, .ref h_deed, .int h_law, .ref h_st, .int h_acts, .ref h_was, .int h_keeps, .ref h_kept, .int h_seens, .ref h_seen, .ref h_text, .int h_texted, .int h_at, .ref h_told, .int h_readPieces, .ref h_readPiece, .ref h_readRoom, .int h_readDeeds, .ref h_readDeed, .int h_readCoins, .int h_readLaw, .ref h_now])), (h_st, .inl (cI, 18, .inl h_st_c)), (h_now, .inl (cI, 18, .inl o0)), (h_deed, .inl (cI, 40, .inl o1)), (h_seen, .inl (cI, 18, .inl h_seen_c)), (h_piece, .inl (cI, 16, .inl h_piece_c))]) A) ([.ref h, .int a1, .int a2] : List Value).toArray s 0 0 A) (F0 m 45 ls []) := by
        intro n
        induction n with
        | zero =>
          intro c6 x7 x8 H locs hP hD hS ls hl c9 x10 hf KX
          rw [L_X6_may_45] at hf
          cases hf
        | succ n ih =>
          intro c6 x7 x8 H locs hP hD hS ls hl c9 x10 hf KX
          rw [L_X6_may_45] at hf
          refine lv_iload hx hb dX6_may_45 (lv_at hl 6 rfl) ?_
          refine lv_iload_n hx hb dX6_may_47 rfl (lv_at hl 2 rfl) ?_
          obtain ⟨x11, hr57, hf⟩ := ob1_some hf
          refine q_jn (pcJ := 57) (nL := 7) (vs := [(0, .ref h), (1, .int a1), (2, .int a2), (3, .int x4), (4, .int x5), (5, .int x7), (6, .int x8)]) (st := [.int x11, .int x8]) (fun ls hl => ?_) (fun J57 => ?_)
          · clear hr57
            refine lv_icmp_ge (tgt := 95) hx hb dX6_may_57 (by decide) (fun c_18 => ?_) (fun c_18 => ?_)
            · have hf := ip c_18 hf
              cases hf
              exact KX _ _ hP hD hS ls (lv_sub hl [0, 3, 4, 5] rfl)
            · have hf := im c_18 hf
              refine lv_aload_n hx hb dX6_may_60 rfl (lv_at hl 0 rfl) ?_
              refine va_get (D := D) (ci := 6) (v := .ref h_deed) (C := RX6) (T := TX6) (N := 24) hx hb hts uX6_may_X6 hown hK hP 0 rfl rfl 3 (by decide) (hts (.fieldLink RX6 13 "SpeaksForTheChairModel" "deed" "[I") (List.mem_of_getElem? (i := 1) rfl)) (fun _ h9 => h9) rfl dX6_may_61 ?_
              refine lv_iload_n hx hb dX6_may_64 rfl (lv_at hl 3 rfl) ?_
              refine lv_iload hx hb dX6_may_65 (lv_at hl 6 rfl) ?_
              obtain ⟨g_19, hf⟩ := gu_in hf
              refine va_iast hx hb hK hP hD hS 3 0 rfl rfl g_19 dX6_may_67 (fun H locs hP hD hS => ?_)
              obtain ⟨c12, ec12⟩ : ∃ y : Nat → Int32, y = (upd c6 x4.toNatClampNeg x8) := ⟨_, rfl⟩
              have hf := pv_eq ec12 hf
              rw [← ec12] at hP hD
              have hP : va_P D vwCl [(h, .inr (6, [.int h_pieces, .ref h_piece, .int h_deeds, .ref h_deed, .int h_law, .ref h_st, .int h_acts, .ref h_was, .int h_keeps, .ref h_kept, .int h_seens, .ref h_seen, .ref h_text, .int h_texted, .int h_at, .ref h_told, .int h_readPieces, .ref h_readPiece, .ref h_readRoom, .int h_readDeeds, .ref h_readDeed, .int h_readCoins, .int h_readLaw, .ref h_now])), (h_st, .inl (cI, 18, .inl h_st_c)), (h_now, .inl (cI, 18, .inl c3)), (h_deed, .inl (cI, 40, .inl c12)), (h_seen, .inl (cI, 18, .inl h_seen_c)), (h_piece, .inl (cI, 16, .inl h_piece_c))] H := hP
              have hD : va_D A [(h, .inr (6, [.int h_pieces, .ref h_piece, .int h_deeds, .ref h_deed, .int h_law, .ref h_st, .int h_acts, .ref h_was, .int h_keeps, .ref h_kept, .int h_seens, .ref h_seen, .ref h_text, .int h_texted, .int h_at, .ref h_told, .int h_readPieces, .ref h_readPiece, .ref h_readRoom, .int h_readDeeds, .ref h_readDeed, .int h_readCoins, .int h_readLaw, .ref h_now])), (h_st, .inl (cI, 18, .inl h_st_c)), (h_now, .inl (cI, 18, .inl c3)), (h_deed, .inl (cI, 40, .inl c12)), (h_seen, .inl (cI, 18, .inl h_seen_c)), (h_piece, .inl (cI, 16, .inl h_piece_c))] := hD
              refine lv_iload hx hb dX6_may_68 (lv_at hl 5 rfl) ?_
              refine lv_aload_n hx hb dX6_may_70 rfl (lv_at hl 0 rfl) ?_
              refine lv_iload_n hx hb dX6_may_71 rfl (lv_at hl 1 rfl) ?_
              obtain ⟨x13, hv_20, hf⟩ := ob1_some hf
              refine q_rVi (As := [.int a1]) (rest := [.int x7]) (r := x13) ⟨hx, hb, hml, hown, hts⟩ (c_X6_isSo l D cI cC cL cB h h_piece h_deed h_st h_was h_kept h_seen h_text h_told h_readPiece h_readRoom h_readDeed h_now a1 h_pieces h_deeds h_law h_acts h_keeps h_seens h_texted h_at h_readPieces h_readDeeds h_readCoins h_readLaw h_seen_c c12 c3 h_piece_c x13 hv_20) (cwV 1 hts gX6_may_X6_isSo rfl rfl rfl (by decide +kernel) ⟨Nat.le_of_ble_eq_true rfl, Nat.le_of_ble_eq_true rfl⟩) hK hP [0, 4, 3, 2, 5] rfl (va_recv hK hP (ci := 6) (q0 := 0) rfl rfl) rfl hl.1 rfl (Nat.le_of_ble_eq_true rfl) dX6_may_72 ⟨Nat.le_of_ble_eq_true rfl, Nat.le_of_ble_eq_true rfl⟩ ?_
              refine lv_if_eq (tgt := 85) hx hb dX6_may_75 (by decide) (fun c_21 => ?_) (fun c_21 => ?_)
              · have hf := ip c_21 hf
                refine lv_iconst (v := 0) hx hb dX6_may_85 (by decide) ?_
                refine lv_ior hx hb dX6_may_86 ?_
                refine lv_topi (fun x14 ex14 => ?_)
                have hf := pv_eq ex14 hf
                refine lv_istore (lv' := [(5, .int x14), (0, .ref h), (1, .int a1), (2, .int a2), (3, .int x4), (4, .int x5), (6, .int x8)]) hx hb dX6_may_87 hl (by decide) rfl (fun ls hl => ?_)
                obtain ⟨x15, ex15⟩ : ∃ y : Int32, y = (x8 + 1) := ⟨_, rfl⟩
                have hf := pv_eq ex15 hf
                refine lv_iinc (v := x15) (lv' := [(6, .int x15), (5, .int x14), (0, .ref h), (1, .int a1), (2, .int a2), (3, .int x4), (4, .int x5)]) hx hb dX6_may_89 hl (k := 6) rfl (by rw [ex15]; rfl) (by decide) rfl (fun ls hl => ?_)
                refine lv_goto (tgt := 45) hx hb dX6_may_92 (by decide) ?_
                exact ih _ _ _ _ _ hP hD hS ls (lv_sub hl [2, 3, 4, 5, 6, 1, 0] rfl) _ _ hf KX
              · have hf := im c_21 hf
                refine lv_iconst (v := 1) hx hb dX6_may_78 (by decide) ?_
                refine lv_iload hx hb dX6_may_79 (lv_at hl 6 rfl) ?_
                refine lv_ishl hx hb dX6_may_81 ?_
                refine lv_goto (tgt := 86) hx hb dX6_may_82 (by decide) ?_
                refine lv_ior hx hb dX6_may_86 ?_
                refine lv_topi (fun x16 ex16 => ?_)
                have hf := pv_eq ex16 hf
                refine lv_istore (lv' := [(5, .int x16), (0, .ref h), (1, .int a1), (2, .int a2), (3, .int x4), (4, .int x5), (6, .int x8)]) hx hb dX6_may_87 hl (by decide) rfl (fun ls hl => ?_)
                obtain ⟨x17, ex17⟩ : ∃ y : Int32, y = (x8 + 1) := ⟨_, rfl⟩
                have hf := pv_eq ex17 hf
                refine lv_iinc (v := x17) (lv' := [(6, .int x17), (5, .int x16), (0, .ref h), (1, .int a1), (2, .int a2), (3, .int x4), (4, .int x5)]) hx hb dX6_may_89 hl (k := 6) rfl (by rw [ex17]; rfl) (by decide) rfl (fun ls hl => ?_)
                refine lv_goto (tgt := 45) hx hb dX6_may_92 (by decide) ?_
                exact ih _ _ _ _ _ hP hD hS ls (lv_sub hl [2, 3, 4, 5, 6, 1, 0] rfl) _ _ hf KX
          · replace hf := hr57
            refine lv_if_ne (tgt := 55) hx hb dX6_may_48 (by decide) (fun c_17 => ?_) (fun c_17 => ?_)
            · have hf := im c_17 hf
              refine lv_bipush (v := 24) hx hb dX6_may_55 (by decide) ?_
              cases hf
              exact J57 ls (lv_sub hl [0, 1, 2, 3, 4, 5, 6] rfl)
            · have hf := ip c_17 hf
              refine lv_iconst (v := 4) hx hb dX6_may_51 (by decide) ?_
              refine lv_goto (tgt := 57) hx hb dX6_may_52 (by decide) ?_
              cases hf
              exact J57 ls (lv_sub hl [0, 1, 2, 3, 4, 5, 6] rfl)
      obtain ⟨c9, x10, hr45, hf⟩ := ob2_some hf
      refine loop45 300 _ _ _ _ _ hP hD hS ls (lv_sub hl [4, 5, 6, 3, 2, 1, 0] rfl) _ _ hr45 (fun H locs hP hD hS ls hl => ?_)
      refine lv_aload_n hx hb dX6_may_95 rfl (lv_at hl 0 rfl) ?_
      refine va_get (D := D) (ci := 6) (v := .ref h_deed) (C := RX6) (T := TX6) (N := 24) hx hb hts uX6_may_X6 hown hK hP 0 rfl rfl 3 (by decide) (hts (.fieldLink RX6 13 "SpeaksForTheChairModel" "deed" "[I") (List.mem_of_getElem? (i := 1) rfl)) (fun _ h9 => h9) rfl dX6_may_96 ?_
      refine lv_iload_n hx hb dX6_may_99 rfl (lv_at hl 1 rfl) ?_
      refine lv_iload hx hb dX6_may_100 (lv_at hl 2 rfl) ?_
      obtain ⟨g_22, hf⟩ := gu_in hf
      refine va_iast hx hb hK hP hD hS 3 0 rfl rfl g_22 dX6_may_102 (fun H locs hP hD hS => ?_)
      obtain ⟨c18, ec18⟩ : ∃ y : Nat → Int32, y = (upd c9 x4.toNatClampNeg x5) := ⟨_, rfl⟩
      have hf := pv_eq ec18 hf
      rw [← ec18] at hP hD
      have hP : va_P D vwCl [(h, .inr (6, [.int h_pieces, .ref h_piece, .int h_deeds, .ref h_deed, .int h_law, .ref h_st, .int h_acts, .ref h_was, .int h_keeps, .ref h_kept, .int h_seens, .ref h_seen, .ref h_text, .int h_texted, .int h_at, .ref h_told, .int h_readPieces, .ref h_readPiece, .ref h_readRoom, .int h_readDeeds, .ref h_readDeed, .int h_readCoins, .int h_readLaw, .ref h_now])), (h_st, .inl (cI, 18, .inl h_st_c)), (h_now, .inl (cI, 18, .inl c3)), (h_deed, .inl (cI, 40, .inl c18)), (h_seen, .inl (cI, 18, .inl h_seen_c)), (h_piece, .inl (cI, 16, .inl h_piece_c))] H := hP
      have hD : va_D A [(h, .inr (6, [.int h_pieces, .ref h_piece, .int h_deeds, .ref h_deed, .int h_law, .ref h_st, .int h_acts, .ref h_was, .int h_keeps, .ref h_kept, .int h_seens, .ref h_seen, .ref h_text, .int h_texted, .int h_at, .ref h_told, .int h_readPieces, .ref h_readPiece, .ref h_readRoom, .int h_readDeeds, .ref h_readDeed, .int h_readCoins, .int h_readLaw, .ref h_now])), (h_st, .inl (cI, 18, .inl h_st_c)), (h_now, .inl (cI, 18, .inl c3)), (h_deed, .inl (cI, 40, .inl c18)), (h_seen, .inl (cI, 18, .inl h_seen_c)), (h_piece, .inl (cI, 16, .inl h_piece_c))] := hD
      refine lv_iload hx hb dX6_may_103 (lv_at hl 3 rfl) ?_
      cases hf
      exact W.iret hx hb hr (fun t ht hW => ⟨⟨_, (), rfl, rfl, by rw [ht]; exact hP, va_K.moved hW.alike hK, hD⟩, hS.F ht⟩) hS.2.2 dX6_may_105
    · have hf := ip c_4 hf
      refine lv_iconst (v := (-1)) hx hb dX6_may_17 (by decide) ?_
      cases hf
      exact W.iret hx hb hr (fun t ht hW => ⟨⟨_, (), rfl, rfl, by rw [ht]; exact hP, va_K.moved hW.alike hK, hD⟩, hS.F ht⟩) hS.2.2 dX6_may_18
theorem uX6_likely_X6 : ∀ w ∈ wsX60, w ∈ wsX6_likely := fun w h => List.mem_cons_of_mem _ (List.mem_append_right _ h)
set_option maxHeartbeats 4000000 in
set_option maxRecDepth 100000 in
theorem c_X6_likely (l : Launch) (D : va_G) (cI cC cL cB : ClassId) (sz : Nat) (h : Nat) (h_piece : Nat) (h_deed : Nat) (h_st : Nat) (h_was : Nat) (h_kept : Nat) (h_seen : Nat) (h_text : Nat) (h_told : Nat) (h_readPiece : Nat) (h_readRoom : Nat) (h_readDeed : Nat) (h_now : Nat) (a1 : Int32) (a2 : Int32) (a3 : Int32) (h_pieces : Int32) (h_deeds : Int32) (h_law : Int32) (h_acts : Int32) (h_keeps : Int32) (h_seens : Int32) (h_texted : Int32) (h_at : Int32) (h_readPieces : Int32) (h_readDeeds : Int32) (h_readCoins : Int32) (h_readLaw : Int32) (h_st_c : Nat → Int32) (h_now_c : Nat → Int32) (h_piece_c : Nat → Int32) (h_deed_c : Nat → Int32) (r : Int32) (o0 : Nat → Int32) (hf : m_X6_likely a1 a2 a3 h_pieces h_deeds h_law h_st_c h_now_c h_piece_c h_deed_c = some (r, o0)) : Met l yX6_likely wsX6_likely ({ frames := 4, cells := 0, slots := 0, locals := 92 }) (va_Pc [.ref h, .int a1, .int a2, .int a3] (q_W D vwCl (tyL cI cC cL cB) [(h, .inr (6, [.int h_pieces, .ref h_piece, .int h_deeds, .ref h_deed, .int h_law, .ref h_st, .int h_acts, .ref h_was, .int h_keeps, .ref h_kept, .int h_seens, .ref h_seen, .ref h_text, .int h_texted, .int h_at, .ref h_told, .int h_readPieces, .ref h_readPiece, .ref h_readRoom, .int h_readDeeds, .ref h_readDeed, .int h_readCoins, .int h_readLaw, .ref h_now])), (h_st, .inl (cI, 18, .inl h_st_c)), (h_now, .inl (cI, 18, .inl h_now_c)), (h_piece, .inl (cI, 16, .inl h_piece_c)), (h_deed, .inl (cI, 40, .inl h_deed_c))] sz)) (va_Qi (fun r' _ => r' = r) (q_E D vwCl (tyL cI cC cL cB) (va_A [(h, .inr (6, [.int h_pieces, .ref h_piece, .int h_deeds, .ref h_deed, .int h_law, .ref h_st, .int h_acts, .ref h_was, .int h_keeps, .ref h_kept, .int h_seens, .ref h_seen, .ref h_text, .int h_texted, .int h_at, .ref h_told, .int h_readPieces, .ref h_readPiece, .ref h_readRoom, .int h_readDeeds, .ref h_readDeed, .int h_readCoins, .int h_readLaw, .ref h_now])), (h_st, .inl (cI, 18, .inl h_st_c)), (h_now, .inl (cI, 18, .inl h_now_c)), (h_piece, .inl (cI, 16, .inl h_piece_c)), (h_deed, .inl (cI, 40, .inl h_deed_c))] sz) [(h, .inr (6, [.int h_pieces, .ref h_piece, .int h_deeds, .ref h_deed, .int h_law, .ref h_st, .int h_acts, .ref h_was, .int h_keeps, .ref h_kept, .int h_seens, .ref h_seen, .ref h_text, .int h_texted, .int h_at, .ref h_told, .int h_readPieces, .ref h_readPiece, .ref h_readRoom, .int h_readDeeds, .ref h_readDeed, .int h_readCoins, .int h_readLaw, .ref h_now])), (h_st, .inl (cI, 18, .inl h_st_c)), (h_now, .inl (cI, 18, .inl o0)), (h_piece, .inl (cI, 16, .inl h_piece_c)), (h_deed, .inl (cI, 40, .inl h_deed_c))]) (va_A [(h, .inr (6, [.int h_pieces, .ref h_piece, .int h_deeds, .ref h_deed, .int h_law, .ref h_st, .int h_acts, .ref h_was, .int h_keeps, .ref h_kept, .int h_seens, .ref h_seen, .ref h_text, .int h_texted, .int h_at, .ref h_told, .int h_readPieces, .ref h_readPiece, .ref h_readRoom, .int h_readDeeds, .ref h_readDeed, .int h_readCoins, .int h_readLaw, .ref h_now])), (h_st, .inl (cI, 18, .inl h_st_c)), (h_now, .inl (cI, 18, .inl h_now_c)), (h_piece, .inl (cI, 16, .inl h_piece_c)), (h_deed, .inl (cI, 40, .inl h_deed_c))] sz)) 0 0 (va_A [(h, .inr (6, [.int h_pieces, .ref h_piece, .int h_deeds, .ref h_deed, .int h_law, .ref h_st, .int h_acts, .ref h_was, .int h_keeps, .ref h_kept, .int h_seens, .ref h_seen, .ref h_text, .int h_texted, .int h_at, .ref h_told, .int h_readPieces, .ref h_readPiece, .ref h_readRoom, .int h_readDeeds, .ref h_readDeed, .int h_readCoins, .int h_readLaw, .ref h_now])), (h_st, .inl (cI, 18, .inl h_st_c)), (h_now, .inl (cI, 18, .inl h_now_c)), (h_piece, .inl (cI, 16, .inl h_piece_c)), (h_deed, .inl (cI, 40, .inl h_deed_c))] sz) := by
  refine Met.ofW (cc := cX6_likely) (maxL := 11) (ret := (some .int)) (by decide) rfl ?_
  intro p e s m args below meth c s₁ B hml hv
  obtain ⟨rfl, hsz, hP, hK, hD0⟩ := hv
  have hx := B.exec
  have hb := B.bytes
  have hr := B.returns
  have hts := atoms_spec (ws := wsX6_likely) B.pre
  have hown : s.vm.findClass RX6 = some m.cls := findClass_of_methodNamed B.named
  have hlocks := B.notSynchronized
  subst hsz
  have hD := hD0.self (sz := s.heap.size)
  generalize hAe : va_A [(h, .inr (6, [.int h_pieces, .ref h_piece, .int h_deeds, .ref h_deed, .int h_law, .ref h_st, .int h_acts, .ref h_was, .int h_keeps, .ref h_kept, .int h_seens, .ref h_seen, .ref h_text, .int h_texted, .int h_at, .ref h_told, .int h_readPieces, .ref h_readPiece, .ref h_readRoom, .int h_readDeeds, .ref h_readDeed, .int h_readCoins, .int h_readLaw, .ref h_now])), (h_st, .inl (cI, 18, .inl h_st_c)), (h_now, .inl (cI, 18, .inl h_now_c)), (h_piece, .inl (cI, 16, .inl h_piece_c)), (h_deed, .inl (cI, 40, .inl h_deed_c))] s.heap.size = A at hD ⊢
  have hA : ∀ q : Nat, s.heap.size ≤ q → A q := fun q h => by rw [← hAe]; exact Or.inr h
  have hS : va_S A s.heap s.heap [] := va_S.rf
  have hP : va_P D vwCl [(h, .inr (6, [.int h_pieces, .ref h_piece, .int h_deeds, .ref h_deed, .int h_law, .ref h_st, .int h_acts, .ref h_was, .int h_keeps, .ref h_kept, .int h_seens, .ref h_seen, .ref h_text, .int h_texted, .int h_at, .ref h_told, .int h_readPieces, .ref h_readPiece, .ref h_readRoom, .int h_readDeeds, .ref h_readDeed, .int h_readCoins, .int h_readLaw, .ref h_now])), (h_st, .inl (cI, 18, .inl h_st_c)), (h_now, .inl (cI, 18, .inl h_now_c)), (h_piece, .inl (cI, 16, .inl h_piece_c)), (h_deed, .inl (cI, 40, .inl h_deed_c))] s.heap := hP
  have hl := lv_entry ([.ref h, .int a1, .int a2, .int a3]) (n := 11) (Nat.le_of_ble_eq_true rfl)
  rw [lg_entry_eq]
  generalize (lg_sl ([.ref h, .int a1, .int a2, .int a3]) ++ List.replicate (11 - (lg_sl ([.ref h, .int a1, .int a2, .int a3])).length) Slot.unset).toArray = ls at hl ⊢
  have hl : lv_has ls 11 [(0, .ref h), (1, .int a1), (2, .int a2), (3, .int a3)] := hl
  unfold m_X6_likely at hf
  refine lv_aload_n hx hb dX6_likely_0 rfl (lv_at hl 0 rfl) ?_
  refine lv_iload_n hx hb dX6_likely_1 rfl (lv_at hl 1 rfl) ?_
  obtain ⟨x1, hv_1, hf⟩ := ob1_some hf
  refine q_rVi (As := [.int a1]) (rest := []) (r := x1) ⟨hx, hb, hml, hown, hts⟩ (c_X6_isDeed l D cI cC cL cB h h_piece h_deed h_st h_was h_kept h_seen h_text h_told h_readPiece h_readRoom h_readDeed h_now a1 h_pieces h_deeds h_law h_acts h_keeps h_seens h_texted h_at h_readPieces h_readDeeds h_readCoins h_readLaw x1 hv_1) (cwV 1 hts gX6_likely_X6_isDeed rfl rfl rfl (by decide +kernel) ⟨Nat.le_of_ble_eq_true rfl, Nat.le_of_ble_eq_true rfl⟩) hK hP [0] rfl (va_recv hK hP (ci := 6) (q0 := 0) rfl rfl) rfl hl.1 rfl (Nat.le_of_ble_eq_true rfl) dX6_likely_2 ⟨Nat.le_of_ble_eq_true rfl, Nat.le_of_ble_eq_true rfl⟩ ?_
  refine lv_if_eq (tgt := 27) hx hb dX6_likely_5 (by decide) (fun c_2 => ?_) (fun c_2 => ?_)
  · have hf := ip c_2 hf
    refine lv_iconst (v := (-1)) hx hb dX6_likely_27 (by decide) ?_
    cases hf
    exact W.iret hx hb hr (fun t ht hW => ⟨⟨_, (), rfl, rfl, by rw [ht]; exact hP, va_K.moved hW.alike hK, hD⟩, hS.F ht⟩) hS.2.2 dX6_likely_28
  · have hf := im c_2 hf
    refine lv_iload_n hx hb dX6_likely_8 rfl (lv_at hl 2 rfl) ?_
    refine lv_iconst (v := 0) hx hb dX6_likely_9 (by decide) ?_
    refine lv_bipush (v := 10) hx hb dX6_likely_10 (by decide) ?_
    obtain ⟨x2, hv_3, hf⟩ := ob1_some hf
    refine q_rSi (As := [.int a2, .int 0, .int 10]) (rest := []) (r := x2) ⟨hx, hb, hml, hown, hts⟩ (c_X6_in l D cI cC cL cB a2 ((0 : Int32)) ((10 : Int32)) x2 hv_3) (va_cwS 3 hts gX6_likely_X6_in rfl rfl rfl (by decide +kernel) ⟨Nat.le_of_ble_eq_true rfl, Nat.le_of_ble_eq_true rfl⟩) hK hP [] rfl rfl hl.1 rfl (Nat.le_of_ble_eq_true rfl) dX6_likely_12 ⟨Nat.le_of_ble_eq_true rfl, Nat.le_of_ble_eq_true rfl⟩ ?_
    refine lv_if_eq (tgt := 27) hx hb dX6_likely_15 (by decide) (fun c_4 => ?_) (fun c_4 => ?_)
    · have hf := ip c_4 hf
      refine lv_iconst (v := (-1)) hx hb dX6_likely_27 (by decide) ?_
      cases hf
      exact W.iret hx hb hr (fun t ht hW => ⟨⟨_, (), rfl, rfl, by rw [ht]; exact hP, va_K.moved hW.alike hK, hD⟩, hS.F ht⟩) hS.2.2 dX6_likely_28
    · have hf := im c_4 hf
      refine lv_iload_n hx hb dX6_likely_18 rfl (lv_at hl 3 rfl) ?_
      refine lv_iconst (v := 0) hx hb dX6_likely_19 (by decide) ?_
      refine lv_iconst (v := 1) hx hb dX6_likely_20 (by decide) ?_
      obtain ⟨x3, hv_5, hf⟩ := ob1_some hf
      refine q_rSi (As := [.int a3, .int 0, .int 1]) (rest := []) (r := x3) ⟨hx, hb, hml, hown, hts⟩ (c_X6_in l D cI cC cL cB a3 ((0 : Int32)) ((1 : Int32)) x3 hv_5) (va_cwS 3 hts gX6_likely_X6_in rfl rfl rfl (by decide +kernel) ⟨Nat.le_of_ble_eq_true rfl, Nat.le_of_ble_eq_true rfl⟩) hK hP [] rfl rfl hl.1 rfl (Nat.le_of_ble_eq_true rfl) dX6_likely_21 ⟨Nat.le_of_ble_eq_true rfl, Nat.le_of_ble_eq_true rfl⟩ ?_
      refine lv_if_ne (tgt := 29) hx hb dX6_likely_24 (by decide) (fun c_6 => ?_) (fun c_6 => ?_)
      · have hf := im c_6 hf
        refine lv_aload_n hx hb dX6_likely_29 rfl (lv_at hl 0 rfl) ?_
        obtain ⟨c4, hv_7, hf⟩ := ob1_some hf
        refine q_wVv (As := []) (rest := []) (w1 := [(h, .inr (6, [.int h_pieces, .ref h_piece, .int h_deeds, .ref h_deed, .int h_law, .ref h_st, .int h_acts, .ref h_was, .int h_keeps, .ref h_kept, .int h_seens, .ref h_seen, .ref h_text, .int h_texted, .int h_at, .ref h_told, .int h_readPieces, .ref h_readPiece, .ref h_readRoom, .int h_readDeeds, .ref h_readDeed, .int h_readCoins, .int h_readLaw, .ref h_now])), (h_st, .inl (cI, 18, .inl h_st_c)), (h_now, .inl (cI, 18, .inl c4))]) (wr := [(h_piece, .inl (cI, 16, .inl h_piece_c)), (h_deed, .inl (cI, 40, .inl h_deed_c))]) (w2 := [(h, .inr (6, [.int h_pieces, .ref h_piece, .int h_deeds, .ref h_deed, .int h_law, .ref h_st, .int h_acts, .ref h_was, .int h_keeps, .ref h_kept, .int h_seens, .ref h_seen, .ref h_text, .int h_texted, .int h_at, .ref h_told, .int h_readPieces, .ref h_readPiece, .ref h_readRoom, .int h_readDeeds, .ref h_readDeed, .int h_readCoins, .int h_readLaw, .ref h_now])), (h_st, .inl (cI, 18, .inl h_st_c)), (h_now, .inl (cI, 18, .inl c4)), (h_piece, .inl (cI, 16, .inl h_piece_c)), (h_deed, .inl (cI, 40, .inl h_deed_c))]) ⟨hx, hb, hml, hown, hts⟩ (c_X6_asItIs l D cI cC cL cB s.heap.size h h_piece h_deed h_st h_was h_kept h_seen h_text h_told h_readPiece h_readRoom h_readDeed h_now h_pieces h_deeds h_law h_acts h_keeps h_seens h_texted h_at h_readPieces h_readDeeds h_readCoins h_readLaw h_st_c h_now_c c4 hv_7) (cwV 0 hts gX6_likely_X6_asItIs rfl rfl rfl (by decide +kernel) ⟨Nat.le_of_ble_eq_true rfl, Nat.le_of_ble_eq_true rfl⟩) hK hP hD hS hA [0, 1, 2] rfl (by decide) [3, 4] rfl (by decide) (by decide) [2, 3, 4, 0, 1] rfl (by decide) (va_recv hK hP (ci := 6) (q0 := 0) rfl rfl) rfl hl.1 rfl (Nat.le_of_ble_eq_true rfl) dX6_likely_30 ⟨Nat.le_of_ble_eq_true rfl, Nat.le_of_ble_eq_true rfl⟩ (fun H locs hP hD hS => ?_)
        have hP : va_P D vwCl [(h, .inr (6, [.int h_pieces, .ref h_piece, .int h_deeds, .ref h_deed, .int h_law, .ref h_st, .int h_acts, .ref h_was, .int h_keeps, .ref h_kept, .int h_seens, .ref h_seen, .ref h_text, .int h_texted, .int h_at, .ref h_told, .int h_readPieces, .ref h_readPiece, .ref h_readRoom, .int h_readDeeds, .ref h_readDeed, .int h_readCoins, .int h_readLaw, .ref h_now])), (h_st, .inl (cI, 18, .inl h_st_c)), (h_now, .inl (cI, 18, .inl c4)), (h_piece, .inl (cI, 16, .inl h_piece_c)), (h_deed, .inl (cI, 40, .inl h_deed_c))] H := hP
        have hD : va_D A [(h, .inr (6, [.int h_pieces, .ref h_piece, .int h_deeds, .ref h_deed, .int h_law, .ref h_st, .int h_acts, .ref h_was, .int h_keeps, .ref h_kept, .int h_seens, .ref h_seen, .ref h_text, .int h_texted, .int h_at, .ref h_told, .int h_readPieces, .ref h_readPiece, .ref h_readRoom, .int h_readDeeds, .ref h_readDeed, .int h_readCoins, .int h_readLaw, .ref h_now])), (h_st, .inl (cI, 18, .inl h_st_c)), (h_now, .inl (cI, 18, .inl c4)), (h_piece, .inl (cI, 16, .inl h_piece_c)), (h_deed, .inl (cI, 40, .inl h_deed_c))] := hD
        refine lv_iconst (v := 1) hx hb dX6_likely_33 (by decide) ?_
        refine lv_istore (lv' := [(4, .int 1), (0, .ref h), (1, .int a1), (2, .int a2), (3, .int a3)]) hx hb dX6_likely_34 hl (by decide) rfl (fun ls hl => ?_)
        refine lv_iconst (v := 1) hx hb dX6_likely_36 (by decide) ?_
        refine lv_istore (lv' := [(5, .int 1), (4, .int 1), (0, .ref h), (1, .int a1), (2, .int a2), (3, .int a3)]) hx hb dX6_likely_37 hl (by decide) rfl (fun ls hl => ?_)
        refine lv_aload_n hx hb dX6_likely_39 rfl (lv_at hl 2 rfl) ?_
        refine va_get (D := D) (ci := 6) (v := .ref h_st) (C := RX6) (T := TX6) (N := 24) hx hb hts uX6_likely_X6 hown hK hP 0 rfl rfl 5 (by decide) (hts (.fieldLink RX6 16 "SpeaksForTheChairModel" "st" "[I") (List.mem_of_getElem? (i := 1) rfl)) (fun _ h9 => h9) rfl dX6_likely_40 ?_
        refine lv_iconst (v := 1) hx hb dX6_likely_43 (by decide) ?_
        refine va_iald hx hb hK hP 1 0 rfl rfl (okI_in (by decide)) dX6_likely_44 ?_
        refine lv_iload_n hx hb dX6_likely_45 rfl (lv_at hl 3 rfl) ?_
        obtain ⟨x5, hv_8, hf⟩ := ob1_some hf
        refine q_rSi (As := [.int (h_st_c (1 : Int32).toNatClampNeg), .int a1]) (rest := []) (r := x5) ⟨hx, hb, hml, hown, hts⟩ (c_X6_has l D cI cC cL cB ((h_st_c (1 : Int32).toNatClampNeg)) a1 x5 hv_8) (va_cwS 2 hts gX6_likely_X6_has rfl rfl rfl (by decide +kernel) ⟨Nat.le_of_ble_eq_true rfl, Nat.le_of_ble_eq_true rfl⟩) hK hP [] rfl rfl hl.1 rfl (Nat.le_of_ble_eq_true rfl) dX6_likely_46 ⟨Nat.le_of_ble_eq_true rfl, Nat.le_of_ble_eq_true rfl⟩ ?_
        obtain ⟨x6, hr61, hf⟩ := ob1_some hf
        refine q_jn (pcJ := 61) (nL := 11) (vs := [(0, .ref h), (1, .int a1), (2, .int a2), (3, .int a3), (4, .int 1), (5, .int 1)]) (st := [.int x6]) (fun ls hl => ?_) (fun J61 => ?_)
        · clear hr61
          refine lv_istore (lv' := [(6, .int x6), (0, .ref h), (1, .int a1), (2, .int a2), (3, .int a3), (4, .int 1), (5, .int 1)]) hx hb dX6_likely_61 hl (by decide) rfl (fun ls hl => ?_)
          refine lv_iconst (v := 0) hx hb dX6_likely_63 (by decide) ?_
          refine lv_istore (lv' := [(7, .int 0), (6, .int x6), (0, .ref h), (1, .int a1), (2, .int a2), (3, .int a3), (4, .int 1), (5, .int 1)]) hx hb dX6_likely_64 hl (by decide) rfl (fun ls hl => ?_)
          have loop66 : ∀ (n : Nat) (x7 : Int32) (x8 : Int32) (x9 : Int32), ∀ (ls : Array Slot), lv_has ls 11 [(0, .ref h), (1, .int a1), (2, .int a2), (3, .int a3), (4, .int x7), (5, .int x8), (6, .int x6), (7, .int x9)] → ∀ (x10 : Int32) (x11 : Int32), L_X6_likely_66 x6 a2 n x7 x8 x9 = some (x10, x11) → (∀ (ls : Array Slot), lv_has ls 11 [(0, .ref h), (1, .int a1), (3, .int a3), (4, .int x10), (5, .int x11)] → W p l e (headSpec wsX6_likely ({ frames := 4, cells := 0, slots := 0, locals := 92 })).room s m ([.ref h, .int a1, .int a2, .int a3] : List Value).toArray below meth c H locs 0 0 (MQ below (va_Qi (fun r' _ => r' = r) (q_E D vwCl (tyL cI cC cL cB) A [(h, .inr (6, [.int h_pieces, .ref h_piece, .int h_deeds, .ref h_deed, .int h_law, .ref h_st, .int h_acts, .ref h_was, .int h_keeps, .ref h_kept, .int h_seens, .ref h_seen, .ref h_text, .int h_texted, .int h_at, .ref h_told, .int h_readPieces, .ref h_readPiece, .ref h_readRoom, .int h_readDeeds, .ref h_readDeed, .int h_readCoins, .int h_readLaw, .ref h_now])), (h_st, .inl (cI, 18, .inl h_st_c)), (h_now, .inl (cI, 18, .inl o0)), (h_piece, .inl (cI, 16, .inl h_piece_c)), (h_deed, .inl (cI, 40, .inl h_deed_c))]) A) ([.ref h, .int a1, .int a2, .int a3] : List Value).toArray s 0 0 A) (F0 m 98 ls [])) → W p l e (headSpec wsX6_likely ({ frames := 4, cells := 0, slots := 0, locals := 92 })).room s m ([.ref h, .int a1, .int a2, .int a3] : List Value).toArray below meth c H locs 0 0 (MQ below (va_Qi (fun r' _ => r' = r) (q_E D vwCl (tyL cI cC cL cB) A [(h, .inr (6, [.int h_pieces, .ref h_piece, .int h_deeds, .ref h_deed, .int h_law, .ref h_st, .int h_acts, .ref h_was, .int h_keeps, .ref h_kept, .int h_seens, .ref h_seen, .ref h_text, .int h_texted, .int h_at, .ref h_told, .int h_readPieces, .ref h_readPiece, .ref h_readRoom, .int h_readDeeds, .ref h_readDeed, .int h_readCoins, .int h_readLaw, .ref h_now])), (h_st, .inl (cI, 18, .inl h_st_c)), (h_now, .inl (cI, 18, .inl o0)), (h_piece, .inl (cI, 16, .inl h_piece_c)), (h_deed, .inl (cI, 40, .inl h_deed_c))]) A) ([.ref h, .int a1, .int a2, .int a3] : List Value).toArray s 0 0 A) (F0 m 66 ls []) := by
            intro n
            induction n with
            | zero =>
              intro x7 x8 x9 ls hl x10 x11 hf KX
              rw [L_X6_likely_66] at hf
              cases hf
            | succ n ih =>
              intro x7 x8 x9 ls hl x10 x11 hf KX
              rw [L_X6_likely_66] at hf
              refine lv_iload hx hb dX6_likely_66 (lv_at hl 7 rfl) ?_
              refine lv_iload hx hb dX6_likely_68 (lv_at hl 6 rfl) ?_
              obtain ⟨x12, hv_15, hf⟩ := ob1_some hf
              refine q_rSi (As := [.int x6]) (rest := [.int x9]) (r := x12) ⟨hx, hb, hml, hown, hts⟩ (c_X6_bits l D cI cC cL cB x6 x12 hv_15) (va_cwS 1 hts gX6_likely_X6_bits rfl rfl rfl (by decide +kernel) ⟨Nat.le_of_ble_eq_true rfl, Nat.le_of_ble_eq_true rfl⟩) hK hP [] rfl rfl hl.1 rfl (Nat.le_of_ble_eq_true rfl) dX6_likely_70 ⟨Nat.le_of_ble_eq_true rfl, Nat.le_of_ble_eq_true rfl⟩ ?_
              refine lv_icmp_ge (tgt := 98) hx hb dX6_likely_73 (by decide) (fun c_16 => ?_) (fun c_16 => ?_)
              · have hf := ip c_16 hf
                cases hf
                exact KX ls (lv_sub hl [0, 1, 3, 4, 5] rfl)
              · have hf := im c_16 hf
                refine lv_iload hx hb dX6_likely_76 (lv_at hl 4 rfl) ?_
                refine lv_bipush (v := 10) hx hb dX6_likely_78 (by decide) ?_
                refine lv_imul hx hb dX6_likely_80 ?_
                refine lv_topi (fun x13 ex13 => ?_)
                have hf := pv_eq ex13 hf
                refine lv_istore (lv' := [(4, .int x13), (0, .ref h), (1, .int a1), (2, .int a2), (3, .int a3), (5, .int x8), (6, .int x6), (7, .int x9)]) hx hb dX6_likely_81 hl (by decide) rfl (fun ls hl => ?_)
                refine lv_iload hx hb dX6_likely_83 (lv_at hl 5 rfl) ?_
                refine lv_bipush (v := 10) hx hb dX6_likely_85 (by decide) ?_
                refine lv_iload_n hx hb dX6_likely_87 rfl (lv_at hl 3 rfl) ?_
                refine lv_isub hx hb dX6_likely_88 ?_
                refine lv_imul hx hb dX6_likely_89 ?_
                refine lv_topi (fun x14 ex14 => ?_)
                have hf := pv_eq ex14 hf
                refine lv_istore (lv' := [(5, .int x14), (4, .int x13), (0, .ref h), (1, .int a1), (2, .int a2), (3, .int a3), (6, .int x6), (7, .int x9)]) hx hb dX6_likely_90 hl (by decide) rfl (fun ls hl => ?_)
                obtain ⟨x15, ex15⟩ : ∃ y : Int32, y = (x9 + 1) := ⟨_, rfl⟩
                have hf := pv_eq ex15 hf
                refine lv_iinc (v := x15) (lv' := [(7, .int x15), (5, .int x14), (4, .int x13), (0, .ref h), (1, .int a1), (2, .int a2), (3, .int a3), (6, .int x6)]) hx hb dX6_likely_92 hl (k := 7) rfl (by rw [ex15]; rfl) (by decide) rfl (fun ls hl => ?_)
                refine lv_goto (tgt := 66) hx hb dX6_likely_95 (by decide) ?_
                exact ih _ _ _ ls (lv_sub hl [3, 4, 5, 6, 2, 1, 7, 0] rfl) _ _ hf KX
          obtain ⟨x10, x11, hr66, hf⟩ := ob2_some hf
          refine loop66 300 _ _ _ ls (lv_sub hl [2, 3, 4, 5, 6, 7, 1, 0] rfl) _ _ hr66 (fun ls hl => ?_)
          refine lv_aload_n hx hb dX6_likely_98 rfl (lv_at hl 0 rfl) ?_
          refine va_get (D := D) (ci := 6) (v := .ref h_st) (C := RX6) (T := TX6) (N := 24) hx hb hts uX6_likely_X6 hown hK hP 0 rfl rfl 5 (by decide) (hts (.fieldLink RX6 16 "SpeaksForTheChairModel" "st" "[I") (List.mem_of_getElem? (i := 1) rfl)) (fun _ h9 => h9) rfl dX6_likely_99 ?_
          refine lv_iconst (v := 1) hx hb dX6_likely_102 (by decide) ?_
          refine va_iald hx hb hK hP 1 0 rfl rfl (okI_in (by decide)) dX6_likely_103 ?_
          refine lv_iload_n hx hb dX6_likely_104 rfl (lv_at hl 1 rfl) ?_
          obtain ⟨x16, hv_17, hf⟩ := ob1_some hf
          refine q_rSi (As := [.int (h_st_c (1 : Int32).toNatClampNeg), .int a1]) (rest := []) (r := x16) ⟨hx, hb, hml, hown, hts⟩ (c_X6_has l D cI cC cL cB ((h_st_c (1 : Int32).toNatClampNeg)) a1 x16 hv_17) (va_cwS 2 hts gX6_likely_X6_has rfl rfl rfl (by decide +kernel) ⟨Nat.le_of_ble_eq_true rfl, Nat.le_of_ble_eq_true rfl⟩) hK hP [] rfl rfl hl.1 rfl (Nat.le_of_ble_eq_true rfl) dX6_likely_105 ⟨Nat.le_of_ble_eq_true rfl, Nat.le_of_ble_eq_true rfl⟩ ?_
          obtain ⟨x17, hr120, hf⟩ := ob1_some hf
          refine q_jn (pcJ := 120) (nL := 11) (vs := [(3, .int a3), (4, .int x10)]) (st := [.int x17]) (fun ls hl => ?_) (fun J120 => ?_)
          · clear hr120
            refine lv_istore (lv' := [(7, .int x17), (3, .int a3), (4, .int x10)]) hx hb dX6_likely_120 hl (by decide) rfl (fun ls hl => ?_)
            refine lv_iload hx hb dX6_likely_122 (lv_at hl 0 rfl) ?_
            refine lv_istore (lv' := [(8, .int x17), (7, .int x17), (3, .int a3), (4, .int x10)]) hx hb dX6_likely_124 hl (by decide) rfl (fun ls hl => ?_)
            refine lv_iload hx hb dX6_likely_126 (lv_at hl 3 rfl) ?_
            refine lv_istore (lv' := [(9, .int x10), (8, .int x17), (7, .int x17), (3, .int a3), (4, .int x10)]) hx hb dX6_likely_128 hl (by decide) rfl (fun ls hl => ?_)
            have loop130 : ∀ (n : Nat) (x18 : Int32) (x19 : Int32), ∀ (ls : Array Slot), lv_has ls 11 [(3, .int a3), (4, .int x10), (7, .int x17), (8, .int x18), (9, .int x19)] → ∀ (x20 : Int32), L_X6_likely_130 n x18 x19 = some x20 → (∀ (ls : Array Slot), lv_has ls 11 [(3, .int a3), (4, .int x10), (7, .int x17), (8, .int x20)] → W p l e (headSpec wsX6_likely ({ frames := 4, cells := 0, slots := 0, locals := 92 })).room s m ([.ref h, .int a1, .int a2, .int a3] : List Value).toArray below meth c H locs 0 0 (MQ below (va_Qi (fun r' _ => r' = r) (q_E D vwCl (tyL cI cC cL cB) A [(h, .inr (6, [.int h_pieces, .ref h_piece, .int h_deeds, .ref h_deed, .int h_law, .ref h_st, .int h_acts, .ref h_was, .int h_keeps, .ref h_kept, .int h_seens, .ref h_seen, .ref h_text, .int h_texted, .int h_at, .ref h_told, .int h_readPieces, .ref h_readPiece, .ref h_readRoom, .int h_readDeeds, .ref h_readDeed, .int h_readCoins, .int h_readLaw, .ref h_now])), (h_st, .inl (cI, 18, .inl h_st_c)), (h_now, .inl (cI, 18, .inl o0)), (h_piece, .inl (cI, 16, .inl h_piece_c)), (h_deed, .inl (cI, 40, .inl h_deed_c))]) A) ([.ref h, .int a1, .int a2, .int a3] : List Value).toArray s 0 0 A) (F0 m 153 ls [])) → W p l e (headSpec wsX6_likely ({ frames := 4, cells := 0, slots := 0, locals := 92 })).room s m ([.ref h, .int a1, .int a2, .int a3] : List Value).toArray below meth c H locs 0 0 (MQ below (va_Qi (fun r' _ => r' = r) (q_E D vwCl (tyL cI cC cL cB) A [(h, .inr (6, [.int h_pieces, .ref h_piece, .int h_deeds, .ref h_deed, .int h_law, .ref h_st, .int h_acts, .ref h_was, .int h_keeps, .ref h_kept, .int h_seens, .ref h_seen, .ref h_text, .int h_texted, .int h_at, .ref h_told, .int h_readPieces, .ref h_readPiece, .ref h_readRoom, .int h_readDeeds, .ref h_readDeed, .int h_readCoins, .int h_readLaw, .ref h_now])), (h_st, .inl (cI, 18, .inl h_st_c)), (h_now, .inl (cI, 18, .inl o0)), (h_piece, .inl (cI, 16, .inl h_piece_c)), (h_deed, .inl (cI, 40, .inl h_deed_c))]) A) ([.ref h, .int a1, .int a2, .int a3] : List Value).toArray s 0 0 A) (F0 m 130 ls []) := by
              intro n
              induction n with
              | zero =>
                intro x18 x19 ls hl x20 hf KX
                rw [L_X6_likely_130] at hf
                cases hf
              | succ n ih =>
                intro x18 x19 ls hl x20 hf KX
                rw [L_X6_likely_130] at hf
                refine lv_iload hx hb dX6_likely_130 (lv_at hl 4 rfl) ?_
                refine lv_if_le (tgt := 153) hx hb dX6_likely_132 (by decide) (fun c_23 => ?_) (fun c_23 => ?_)
                · have hf := ip c_23 hf
                  cases hf
                  exact KX ls (lv_sub hl [0, 1, 2, 3] rfl)
                · have hf := im c_23 hf
                  refine lv_iload hx hb dX6_likely_135 (lv_at hl 3 rfl) ?_
                  refine lv_iload hx hb dX6_likely_137 (lv_at hl 4 rfl) ?_
                  obtain ⟨g_24, hf⟩ := gu_ne hf
                  refine lv_irem hx hb dX6_likely_139 g_24 ?_
                  refine lv_topi (fun x21 ex21 => ?_)
                  have hf := pv_eq ex21 hf
                  refine lv_istore (lv' := [(10, .int x21), (3, .int a3), (4, .int x10), (7, .int x17), (8, .int x18), (9, .int x19)]) hx hb dX6_likely_140 hl (by decide) rfl (fun ls hl => ?_)
                  refine lv_iload hx hb dX6_likely_142 (lv_at hl 5 rfl) ?_
                  refine lv_istore (lv' := [(8, .int x19), (10, .int x21), (3, .int a3), (4, .int x10), (7, .int x17), (9, .int x19)]) hx hb dX6_likely_144 hl (by decide) rfl (fun ls hl => ?_)
                  refine lv_iload hx hb dX6_likely_146 (lv_at hl 1 rfl) ?_
                  refine lv_istore (lv' := [(9, .int x21), (8, .int x19), (10, .int x21), (3, .int a3), (4, .int x10), (7, .int x17)]) hx hb dX6_likely_148 hl (by decide) rfl (fun ls hl => ?_)
                  refine lv_goto (tgt := 130) hx hb dX6_likely_150 (by decide) ?_
                  exact ih _ _ ls (lv_sub hl [3, 4, 5, 1, 0] rfl) _ hf KX
            obtain ⟨x20, hr130, hf⟩ := ob1_some hf
            refine loop130 300 _ _ ls (lv_sub hl [3, 4, 2, 1, 0] rfl) _ hr130 (fun ls hl => ?_)
            refine lv_iload_n hx hb dX6_likely_153 rfl (lv_at hl 0 rfl) ?_
            refine lv_if_ne (tgt := 162) hx hb dX6_likely_154 (by decide) (fun c_25 => ?_) (fun c_25 => ?_)
            · have hf := im c_25 hf
              refine lv_iload hx hb dX6_likely_162 (lv_at hl 1 rfl) ?_
              refine lv_iload hx hb dX6_likely_164 (lv_at hl 3 rfl) ?_
              obtain ⟨g_26, hf⟩ := gu_ne hf
              refine lv_idiv hx hb dX6_likely_166 g_26 ?_
              cases hf
              exact W.iret hx hb hr (fun t ht hW => ⟨⟨_, (), rfl, rfl, by rw [ht]; exact hP, va_K.moved hW.alike hK, hD⟩, hS.F ht⟩) hS.2.2 dX6_likely_167
            · have hf := ip c_25 hf
              refine lv_iload hx hb dX6_likely_157 (lv_at hl 2 rfl) ?_
              refine lv_goto (tgt := 164) hx hb dX6_likely_159 (by decide) ?_
              refine lv_iload hx hb dX6_likely_164 (lv_at hl 3 rfl) ?_
              obtain ⟨g_27, hf⟩ := gu_ne hf
              refine lv_idiv hx hb dX6_likely_166 g_27 ?_
              cases hf
              exact W.iret hx hb hr (fun t ht hW => ⟨⟨_, (), rfl, rfl, by rw [ht]; exact hP, va_K.moved hW.alike hK, hD⟩, hS.F ht⟩) hS.2.2 dX6_likely_167
          · replace hf := hr120
            refine lv_if_eq (tgt := 115) hx hb dX6_likely_108 (by decide) (fun c_18 => ?_) (fun c_18 => ?_)
            · have hf := ip c_18 hf
              refine lv_iload hx hb dX6_likely_115 (lv_at hl 3 rfl) ?_
              refine lv_iload hx hb dX6_likely_117 (lv_at hl 4 rfl) ?_
              refine lv_isub hx hb dX6_likely_119 ?_
              cases hf
              exact J120 ls (lv_sub hl [2, 3] rfl)
            · have hf := im c_18 hf
              refine lv_iconst (v := 1) hx hb dX6_likely_111 (by decide) ?_
              refine lv_goto (tgt := 120) hx hb dX6_likely_112 (by decide) ?_
              cases hf
              exact J120 ls (lv_sub hl [2, 3] rfl)
        · replace hf := hr61
          refine lv_if_eq (tgt := 56) hx hb dX6_likely_49 (by decide) (fun c_9 => ?_) (fun c_9 => ?_)
          · have hf := ip c_9 hf
            refine lv_aload_n hx hb dX6_likely_56 rfl (lv_at hl 2 rfl) ?_
            refine lv_iload_n hx hb dX6_likely_57 rfl (lv_at hl 3 rfl) ?_
            obtain ⟨x22, hv_28, hf⟩ := ob1_some hf
            refine q_rVi (As := [.int a1]) (rest := []) (r := x22) ⟨hx, hb, hml, hown, hts⟩ (c_X6_tellers l D cI cC cL cB h h_piece h_deed h_st h_was h_kept h_seen h_text h_told h_readPiece h_readRoom h_readDeed h_now a1 h_pieces h_deeds h_law h_acts h_keeps h_seens h_texted h_at h_readPieces h_readDeeds h_readCoins h_readLaw c4 h_piece_c h_deed_c x22 hv_28) (cwV 1 hts gX6_likely_X6_tellers rfl rfl rfl (by decide +kernel) ⟨Nat.le_of_ble_eq_true rfl, Nat.le_of_ble_eq_true rfl⟩) hK hP [0, 2, 3, 4] rfl (va_recv hK hP (ci := 6) (q0 := 0) rfl rfl) rfl hl.1 rfl (Nat.le_of_ble_eq_true rfl) dX6_likely_58 ⟨Nat.le_of_ble_eq_true rfl, Nat.le_of_ble_eq_true rfl⟩ ?_
            cases hf
            exact J61 ls (lv_sub hl [2, 3, 4, 5, 1, 0] rfl)
          · have hf := im c_9 hf
            refine lv_iconst (v := 0) hx hb dX6_likely_52 (by decide) ?_
            refine lv_goto (tgt := 61) hx hb dX6_likely_53 (by decide) ?_
            cases hf
            exact J61 ls (lv_sub hl [2, 3, 4, 5, 1, 0] rfl)
      · have hf := ip c_6 hf
        refine lv_iconst (v := (-1)) hx hb dX6_likely_27 (by decide) ?_
        cases hf
        exact W.iret hx hb hr (fun t ht hW => ⟨⟨_, (), rfl, rfl, by rw [ht]; exact hP, va_K.moved hW.alike hK, hD⟩, hS.F ht⟩) hS.2.2 dX6_likely_28
theorem uX6_sale_X6 : ∀ w ∈ wsX60, w ∈ wsX6_sale := fun w h => List.mem_cons_of_mem _ (List.mem_append_right _ h)
set_option maxHeartbeats 4000000 in
set_option maxRecDepth 100000 in
theorem c_X6_sale (l : Launch) (D : va_G) (cI cC cL cB : ClassId) (sz : Nat) (h : Nat) (h_piece : Nat) (h_deed : Nat) (h_st : Nat) (h_was : Nat) (h_kept : Nat) (h_seen : Nat) (h_text : Nat) (h_told : Nat) (h_readPiece : Nat) (h_readRoom : Nat) (h_readDeed : Nat) (h_now : Nat) (a1 : Int32) (a2 : Int32) (a3 : Int32) (h_pieces : Int32) (h_deeds : Int32) (h_law : Int32) (h_acts : Int32) (h_keeps : Int32) (h_seens : Int32) (h_texted : Int32) (h_at : Int32) (h_readPieces : Int32) (h_readDeeds : Int32) (h_readCoins : Int32) (h_readLaw : Int32) (h_st_c : Nat → Int32) (h_now_c : Nat → Int32) (h_piece_c : Nat → Int32) (h_deed_c : Nat → Int32) (r : Int32) (o0 : Nat → Int32) (hf : m_X6_sale a1 a2 a3 h_pieces h_deeds h_law h_st_c h_now_c h_piece_c h_deed_c = some (r, o0)) : Met l yX6_sale wsX6_sale ({ frames := 4, cells := 0, slots := 0, locals := 92 }) (va_Pc [.ref h, .int a1, .int a2, .int a3] (q_W D vwCl (tyL cI cC cL cB) [(h, .inr (6, [.int h_pieces, .ref h_piece, .int h_deeds, .ref h_deed, .int h_law, .ref h_st, .int h_acts, .ref h_was, .int h_keeps, .ref h_kept, .int h_seens, .ref h_seen, .ref h_text, .int h_texted, .int h_at, .ref h_told, .int h_readPieces, .ref h_readPiece, .ref h_readRoom, .int h_readDeeds, .ref h_readDeed, .int h_readCoins, .int h_readLaw, .ref h_now])), (h_st, .inl (cI, 18, .inl h_st_c)), (h_now, .inl (cI, 18, .inl h_now_c)), (h_piece, .inl (cI, 16, .inl h_piece_c)), (h_deed, .inl (cI, 40, .inl h_deed_c))] sz)) (va_Qi (fun r' _ => r' = r) (q_E D vwCl (tyL cI cC cL cB) (va_A [(h, .inr (6, [.int h_pieces, .ref h_piece, .int h_deeds, .ref h_deed, .int h_law, .ref h_st, .int h_acts, .ref h_was, .int h_keeps, .ref h_kept, .int h_seens, .ref h_seen, .ref h_text, .int h_texted, .int h_at, .ref h_told, .int h_readPieces, .ref h_readPiece, .ref h_readRoom, .int h_readDeeds, .ref h_readDeed, .int h_readCoins, .int h_readLaw, .ref h_now])), (h_st, .inl (cI, 18, .inl h_st_c)), (h_now, .inl (cI, 18, .inl h_now_c)), (h_piece, .inl (cI, 16, .inl h_piece_c)), (h_deed, .inl (cI, 40, .inl h_deed_c))] sz) [(h, .inr (6, [.int h_pieces, .ref h_piece, .int h_deeds, .ref h_deed, .int h_law, .ref h_st, .int h_acts, .ref h_was, .int h_keeps, .ref h_kept, .int h_seens, .ref h_seen, .ref h_text, .int h_texted, .int h_at, .ref h_told, .int h_readPieces, .ref h_readPiece, .ref h_readRoom, .int h_readDeeds, .ref h_readDeed, .int h_readCoins, .int h_readLaw, .ref h_now])), (h_st, .inl (cI, 18, .inl h_st_c)), (h_now, .inl (cI, 18, .inl o0)), (h_piece, .inl (cI, 16, .inl h_piece_c)), (h_deed, .inl (cI, 40, .inl h_deed_c))]) (va_A [(h, .inr (6, [.int h_pieces, .ref h_piece, .int h_deeds, .ref h_deed, .int h_law, .ref h_st, .int h_acts, .ref h_was, .int h_keeps, .ref h_kept, .int h_seens, .ref h_seen, .ref h_text, .int h_texted, .int h_at, .ref h_told, .int h_readPieces, .ref h_readPiece, .ref h_readRoom, .int h_readDeeds, .ref h_readDeed, .int h_readCoins, .int h_readLaw, .ref h_now])), (h_st, .inl (cI, 18, .inl h_st_c)), (h_now, .inl (cI, 18, .inl h_now_c)), (h_piece, .inl (cI, 16, .inl h_piece_c)), (h_deed, .inl (cI, 40, .inl h_deed_c))] sz)) 0 0 (va_A [(h, .inr (6, [.int h_pieces, .ref h_piece, .int h_deeds, .ref h_deed, .int h_law, .ref h_st, .int h_acts, .ref h_was, .int h_keeps, .ref h_kept, .int h_seens, .ref h_seen, .ref h_text, .int h_texted, .int h_at, .ref h_told, .int h_readPieces, .ref h_readPiece, .ref h_readRoom, .int h_readDeeds, .ref h_readDeed, .int h_readCoins, .int h_readLaw, .ref h_now])), (h_st, .inl (cI, 18, .inl h_st_c)), (h_now, .inl (cI, 18, .inl h_now_c)), (h_piece, .inl (cI, 16, .inl h_piece_c)), (h_deed, .inl (cI, 40, .inl h_deed_c))] sz) := by
  refine Met.ofW (cc := cX6_sale) (maxL := 10) (ret := (some .int)) (by decide) rfl ?_
  intro p e s m args below meth c s₁ B hml hv
  obtain ⟨rfl, hsz, hP, hK, hD0⟩ := hv
  have hx := B.exec
  have hb := B.bytes
  have hr := B.returns
  have hts := atoms_spec (ws := wsX6_sale) B.pre
  have hown : s.vm.findClass RX6 = some m.cls := findClass_of_methodNamed B.named
  have hlocks := B.notSynchronized
  subst hsz
  have hD := hD0.self (sz := s.heap.size)
  generalize hAe : va_A [(h, .inr (6, [.int h_pieces, .ref h_piece, .int h_deeds, .ref h_deed, .int h_law, .ref h_st, .int h_acts, .ref h_was, .int h_keeps, .ref h_kept, .int h_seens, .ref h_seen, .ref h_text, .int h_texted, .int h_at, .ref h_told, .int h_readPieces, .ref h_readPiece, .ref h_readRoom, .int h_readDeeds, .ref h_readDeed, .int h_readCoins, .int h_readLaw, .ref h_now])), (h_st, .inl (cI, 18, .inl h_st_c)), (h_now, .inl (cI, 18, .inl h_now_c)), (h_piece, .inl (cI, 16, .inl h_piece_c)), (h_deed, .inl (cI, 40, .inl h_deed_c))] s.heap.size = A at hD ⊢
  have hA : ∀ q : Nat, s.heap.size ≤ q → A q := fun q h => by rw [← hAe]; exact Or.inr h
  have hS : va_S A s.heap s.heap [] := va_S.rf
  have hP : va_P D vwCl [(h, .inr (6, [.int h_pieces, .ref h_piece, .int h_deeds, .ref h_deed, .int h_law, .ref h_st, .int h_acts, .ref h_was, .int h_keeps, .ref h_kept, .int h_seens, .ref h_seen, .ref h_text, .int h_texted, .int h_at, .ref h_told, .int h_readPieces, .ref h_readPiece, .ref h_readRoom, .int h_readDeeds, .ref h_readDeed, .int h_readCoins, .int h_readLaw, .ref h_now])), (h_st, .inl (cI, 18, .inl h_st_c)), (h_now, .inl (cI, 18, .inl h_now_c)), (h_piece, .inl (cI, 16, .inl h_piece_c)), (h_deed, .inl (cI, 40, .inl h_deed_c))] s.heap := hP
  have hl := lv_entry ([.ref h, .int a1, .int a2, .int a3]) (n := 10) (Nat.le_of_ble_eq_true rfl)
  rw [lg_entry_eq]
  generalize (lg_sl ([.ref h, .int a1, .int a2, .int a3]) ++ List.replicate (10 - (lg_sl ([.ref h, .int a1, .int a2, .int a3])).length) Slot.unset).toArray = ls at hl ⊢
  have hl : lv_has ls 10 [(0, .ref h), (1, .int a1), (2, .int a2), (3, .int a3)] := hl
  unfold m_X6_sale at hf
  refine lv_iload_n hx hb dX6_sale_0 rfl (lv_at hl 1 rfl) ?_
  refine lv_iconst (v := 0) hx hb dX6_sale_1 (by decide) ?_
  refine lv_sipush (v := 9999) hx hb dX6_sale_2 (by decide) ?_
  obtain ⟨x1, hv_1, hf⟩ := ob1_some hf
  refine q_rSi (As := [.int a1, .int 0, .int 9999]) (rest := []) (r := x1) ⟨hx, hb, hml, hown, hts⟩ (c_X6_in l D cI cC cL cB a1 ((0 : Int32)) ((9999 : Int32)) x1 hv_1) (va_cwS 3 hts gX6_sale_X6_in rfl rfl rfl (by decide +kernel) ⟨Nat.le_of_ble_eq_true rfl, Nat.le_of_ble_eq_true rfl⟩) hK hP [] rfl rfl hl.1 rfl (Nat.le_of_ble_eq_true rfl) dX6_sale_5 ⟨Nat.le_of_ble_eq_true rfl, Nat.le_of_ble_eq_true rfl⟩ ?_
  refine lv_if_eq (tgt := 30) hx hb dX6_sale_8 (by decide) (fun c_2 => ?_) (fun c_2 => ?_)
  · have hf := ip c_2 hf
    refine lv_iconst (v := (-1)) hx hb dX6_sale_30 (by decide) ?_
    cases hf
    exact W.iret hx hb hr (fun t ht hW => ⟨⟨_, (), rfl, rfl, by rw [ht]; exact hP, va_K.moved hW.alike hK, hD⟩, hS.F ht⟩) hS.2.2 dX6_sale_31
  · have hf := im c_2 hf
    refine lv_iload_n hx hb dX6_sale_11 rfl (lv_at hl 2 rfl) ?_
    refine lv_iconst (v := 1) hx hb dX6_sale_12 (by decide) ?_
    refine lv_bipush (v := 40) hx hb dX6_sale_13 (by decide) ?_
    obtain ⟨x2, hv_3, hf⟩ := ob1_some hf
    refine q_rSi (As := [.int a2, .int 1, .int 40]) (rest := []) (r := x2) ⟨hx, hb, hml, hown, hts⟩ (c_X6_in l D cI cC cL cB a2 ((1 : Int32)) ((40 : Int32)) x2 hv_3) (va_cwS 3 hts gX6_sale_X6_in rfl rfl rfl (by decide +kernel) ⟨Nat.le_of_ble_eq_true rfl, Nat.le_of_ble_eq_true rfl⟩) hK hP [] rfl rfl hl.1 rfl (Nat.le_of_ble_eq_true rfl) dX6_sale_15 ⟨Nat.le_of_ble_eq_true rfl, Nat.le_of_ble_eq_true rfl⟩ ?_
    refine lv_if_eq (tgt := 30) hx hb dX6_sale_18 (by decide) (fun c_4 => ?_) (fun c_4 => ?_)
    · have hf := ip c_4 hf
      refine lv_iconst (v := (-1)) hx hb dX6_sale_30 (by decide) ?_
      cases hf
      exact W.iret hx hb hr (fun t ht hW => ⟨⟨_, (), rfl, rfl, by rw [ht]; exact hP, va_K.moved hW.alike hK, hD⟩, hS.F ht⟩) hS.2.2 dX6_sale_31
    · have hf := im c_4 hf
      refine lv_iload_n hx hb dX6_sale_21 rfl (lv_at hl 3 rfl) ?_
      refine lv_iconst (v := 0) hx hb dX6_sale_22 (by decide) ?_
      refine lv_iconst (v := 1) hx hb dX6_sale_23 (by decide) ?_
      obtain ⟨x3, hv_5, hf⟩ := ob1_some hf
      refine q_rSi (As := [.int a3, .int 0, .int 1]) (rest := []) (r := x3) ⟨hx, hb, hml, hown, hts⟩ (c_X6_in l D cI cC cL cB a3 ((0 : Int32)) ((1 : Int32)) x3 hv_5) (va_cwS 3 hts gX6_sale_X6_in rfl rfl rfl (by decide +kernel) ⟨Nat.le_of_ble_eq_true rfl, Nat.le_of_ble_eq_true rfl⟩) hK hP [] rfl rfl hl.1 rfl (Nat.le_of_ble_eq_true rfl) dX6_sale_24 ⟨Nat.le_of_ble_eq_true rfl, Nat.le_of_ble_eq_true rfl⟩ ?_
      refine lv_if_ne (tgt := 32) hx hb dX6_sale_27 (by decide) (fun c_6 => ?_) (fun c_6 => ?_)
      · have hf := im c_6 hf
        refine lv_aload_n hx hb dX6_sale_32 rfl (lv_at hl 0 rfl) ?_
        obtain ⟨c4, hv_7, hf⟩ := ob1_some hf
        refine q_wVv (As := []) (rest := []) (w1 := [(h, .inr (6, [.int h_pieces, .ref h_piece, .int h_deeds, .ref h_deed, .int h_law, .ref h_st, .int h_acts, .ref h_was, .int h_keeps, .ref h_kept, .int h_seens, .ref h_seen, .ref h_text, .int h_texted, .int h_at, .ref h_told, .int h_readPieces, .ref h_readPiece, .ref h_readRoom, .int h_readDeeds, .ref h_readDeed, .int h_readCoins, .int h_readLaw, .ref h_now])), (h_st, .inl (cI, 18, .inl h_st_c)), (h_now, .inl (cI, 18, .inl c4))]) (wr := [(h_piece, .inl (cI, 16, .inl h_piece_c)), (h_deed, .inl (cI, 40, .inl h_deed_c))]) (w2 := [(h, .inr (6, [.int h_pieces, .ref h_piece, .int h_deeds, .ref h_deed, .int h_law, .ref h_st, .int h_acts, .ref h_was, .int h_keeps, .ref h_kept, .int h_seens, .ref h_seen, .ref h_text, .int h_texted, .int h_at, .ref h_told, .int h_readPieces, .ref h_readPiece, .ref h_readRoom, .int h_readDeeds, .ref h_readDeed, .int h_readCoins, .int h_readLaw, .ref h_now])), (h_st, .inl (cI, 18, .inl h_st_c)), (h_now, .inl (cI, 18, .inl c4)), (h_piece, .inl (cI, 16, .inl h_piece_c)), (h_deed, .inl (cI, 40, .inl h_deed_c))]) ⟨hx, hb, hml, hown, hts⟩ (c_X6_asItIs l D cI cC cL cB s.heap.size h h_piece h_deed h_st h_was h_kept h_seen h_text h_told h_readPiece h_readRoom h_readDeed h_now h_pieces h_deeds h_law h_acts h_keeps h_seens h_texted h_at h_readPieces h_readDeeds h_readCoins h_readLaw h_st_c h_now_c c4 hv_7) (cwV 0 hts gX6_sale_X6_asItIs rfl rfl rfl (by decide +kernel) ⟨Nat.le_of_ble_eq_true rfl, Nat.le_of_ble_eq_true rfl⟩) hK hP hD hS hA [0, 1, 2] rfl (by decide) [3, 4] rfl (by decide) (by decide) [2, 3, 4, 0, 1] rfl (by decide) (va_recv hK hP (ci := 6) (q0 := 0) rfl rfl) rfl hl.1 rfl (Nat.le_of_ble_eq_true rfl) dX6_sale_33 ⟨Nat.le_of_ble_eq_true rfl, Nat.le_of_ble_eq_true rfl⟩ (fun H locs hP hD hS => ?_)
        have hP : va_P D vwCl [(h, .inr (6, [.int h_pieces, .ref h_piece, .int h_deeds, .ref h_deed, .int h_law, .ref h_st, .int h_acts, .ref h_was, .int h_keeps, .ref h_kept, .int h_seens, .ref h_seen, .ref h_text, .int h_texted, .int h_at, .ref h_told, .int h_readPieces, .ref h_readPiece, .ref h_readRoom, .int h_readDeeds, .ref h_readDeed, .int h_readCoins, .int h_readLaw, .ref h_now])), (h_st, .inl (cI, 18, .inl h_st_c)), (h_now, .inl (cI, 18, .inl c4)), (h_piece, .inl (cI, 16, .inl h_piece_c)), (h_deed, .inl (cI, 40, .inl h_deed_c))] H := hP
        have hD : va_D A [(h, .inr (6, [.int h_pieces, .ref h_piece, .int h_deeds, .ref h_deed, .int h_law, .ref h_st, .int h_acts, .ref h_was, .int h_keeps, .ref h_kept, .int h_seens, .ref h_seen, .ref h_text, .int h_texted, .int h_at, .ref h_told, .int h_readPieces, .ref h_readPiece, .ref h_readRoom, .int h_readDeeds, .ref h_readDeed, .int h_readCoins, .int h_readLaw, .ref h_now])), (h_st, .inl (cI, 18, .inl h_st_c)), (h_now, .inl (cI, 18, .inl c4)), (h_piece, .inl (cI, 16, .inl h_piece_c)), (h_deed, .inl (cI, 40, .inl h_deed_c))] := hD
        refine lv_iconst (v := 0) hx hb dX6_sale_36 (by decide) ?_
        refine lv_istore (lv' := [(4, .int 0), (0, .ref h), (1, .int a1), (2, .int a2), (3, .int a3)]) hx hb dX6_sale_37 hl (by decide) rfl (fun ls hl => ?_)
        have loop39 : ∀ (n : Nat) (c5 : Nat → Int32) (x6 : Int32), ∀ (H : Heap) (locs : List Loc), va_P D vwCl [(h, .inr (6, [.int h_pieces, .ref h_piece, .int h_deeds, .ref h_deed, .int h_law, .ref h_st, .int h_acts, .ref h_was, .int h_keeps, .ref h_kept, .int h_seens, .ref h_seen, .ref h_text, .int h_texted, .int h_at, .ref h_told, .int h_readPieces, .ref h_readPiece, .ref h_readRoom, .int h_readDeeds, .ref h_readDeed, .int h_readCoins, .int h_readLaw, .ref h_now])), (h_st, .inl (cI, 18, .inl h_st_c)), (h_now, .inl (cI, 18, .inl c5)), (h_piece, .inl (cI, 16, .inl h_piece_c)), (h_deed, .inl (cI, 40, .inl h_deed_c))] H → va_D A [(h, .inr (6, [.int h_pieces, .ref h_piece, .int h_deeds, .ref h_deed, .int h_law, .ref h_st, .int h_acts, .ref h_was, .int h_keeps, .ref h_kept, .int h_seens, .ref h_seen, .ref h_text, .int h_texted, .int h_at, .ref h_told, .int h_readPieces, .ref h_readPiece, .ref h_readRoom, .int h_readDeeds, .ref h_readDeed, .int h_readCoins, .int h_readLaw, .ref h_now])), (h_st, .inl (cI, 18, .inl h_st_c)), (h_now, .inl (cI, 18, .inl c5)), (h_piece, .inl (cI, 16, .inl h_piece_c)), (h_deed, .inl (cI, 40, .inl h_deed_c))] → va_S A s.heap H locs → ∀ (ls : Array Slot), lv_has ls 10 [(0, .ref h), (1, .int a1), (2, .int a2), (3, .int a3), (4, .int x6)] → ∀ (c7 : Nat → Int32), L_X6_sale_39 a2 a1 h_pieces h_law h_piece_c h_deeds h_deed_c n c5 x6 = some c7 → (∀ (H : Heap) (locs : List Loc), va_P D vwCl [(h, .inr (6, [.int h_pieces, .ref h_piece, .int h_deeds, .ref h_deed, .int h_law, .ref h_st, .int h_acts, .ref h_was, .int h_keeps, .ref h_kept, .int h_seens, .ref h_seen, .ref h_text, .int h_texted, .int h_at, .ref h_told, .int h_readPieces, .ref h_readPiece, .ref h_readRoom, .int h_readDeeds, .ref h_readDeed, .int h_readCoins, .int h_readLaw, .ref h_now])), (h_st, .inl (cI, 18, .inl h_st_c)), (h_now, .inl (cI, 18, .inl c7)), (h_piece, .inl (cI, 16, .inl h_piece_c)), (h_deed, .inl (cI, 40, .inl h_deed_c))] H → va_D A [(h, .inr (6, [.int h_pieces, .ref h_piece, .int h_deeds, .ref h_deed, .int h_law, .ref h_st, .int h_acts, .ref h_was, .int h_keeps, .ref h_kept, .int h_seens, .ref h_seen, .ref h_text, .int h_texted, .int h_at, .ref h_told, .int h_readPieces, .ref h_readPiece, .ref h_readRoom, .int h_readDeeds, .ref h_readDeed, .int h_readCoins, .int h_readLaw, .ref h_now])), (h_st, .inl (cI, 18, .inl h_st_c)), (h_now, .inl (cI, 18, .inl c7)), (h_piece, .inl (cI, 16, .inl h_piece_c)), (h_deed, .inl (cI, 40, .inl h_deed_c))] → va_S A s.heap H locs → ∀ (ls : Array Slot), lv_has ls 10 [(0, .ref h), (3, .int a3)] → W p l e (headSpec wsX6_sale ({ frames := 4, cells := 0, slots := 0, locals := 92 })).room s m ([.ref h, .int a1, .int a2, .int a3] : List Value).toArray below meth c H locs 0 0 (MQ below (va_Qi (fun r' _ => r' = r) (q_E D vwCl (tyL cI cC cL cB) A [(h, .inr (6, [.int h_pieces, .ref h_piece, .int h_deeds, .ref h_deed, .int h_law, .ref h_st, .int h_acts, .ref h_was, .int h_keeps, .ref h_kept, .int h_seens, .ref h_seen, .ref h_text, .int h_texted, .int h_at, .ref h_told, .int h_readPieces, .ref h_readPiece, .ref h_readRoom, .int h_readDeeds, .ref h_readDeed, .int h_readCoins, .int h_readLaw, .ref h_now])), (h_st, .inl (cI, 18, .inl h_st_c)), (h_now, .inl (cI, 18, .inl o0)), (h_piece, .inl (cI, 16, .inl h_piece_c)), (h_deed, .inl (cI, 40, .inl h_deed_c))]) A) ([.ref h, .int a1, .int a2, .int a3] : List Value).toArray s 0 0 A) (F0 m 255 ls [])) → W p l e (headSpec wsX6_sale ({ frames := 4, cells := 0, slots := 0, locals := 92 })).room s m ([.ref h, .int a1, .int a2, .int a3] : List Value).toArray below meth c H locs 0 0 (MQ below (va_Qi (fun r' _ => r' = r) (q_E D vwCl (tyL cI cC cL cB) A [(h, .inr (6, [.int h_pieces, .ref h_piece, .int h_deeds, .ref h_deed, .int h_law, .ref h_st, .int h_acts, .ref h_was, .int h_keeps, .ref h_kept, .int h_seens, .ref h_seen, .ref h_text, .int h_texted, .int h_at, .ref h_told, .int h_readPieces, .ref h_readPiece, .ref h_readRoom, .int h_readDeeds, .ref h_readDeed, .int h_readCoins, .int h_readLaw, .ref h_now])), (h_st, .inl (cI, 18, .inl h_st_c)), (h_now, .inl (cI, 18, .inl o0)), (h_piece, .inl (cI, 16, .inl h_piece_c)), (h_deed, .inl (cI, 40, .inl h_deed_c))]) A) ([.ref h, .int a1, .int a2, .int a3] : List Value).toArray s 0 0 A) (F0 m 39 ls []) := by
          intro n
          induction n with
          | zero =>
            intro c5 x6 H locs hP hD hS ls hl c7 hf KX
            rw [L_X6_sale_39] at hf
            cases hf
          | succ n ih =>
            intro c5 x6 H locs hP hD hS ls hl c7 hf KX
            rw [L_X6_sale_39] at hf
            refine lv_iload hx hb dX6_sale_39 (lv_at hl 4 rfl) ?_
            refine lv_iload_n hx hb dX6_sale_41 rfl (lv_at hl 2 rfl) ?_
            refine lv_icmp_ge (tgt := 255) hx hb dX6_sale_42 (by decide) (fun c_98 => ?_) (fun c_98 => ?_)
            · have hf := ip c_98 hf
              cases hf
              exact KX _ _ hP hD hS ls (lv_sub hl [0, 3] rfl)
            · have hf := im c_98 hf
              refine lv_ldc2 (v := 7919) hx hb hown (hts (.constantLong RX6 201 (7919)) (List.mem_of_getElem? (i := 1) rfl)) dX6_sale_45 ?_
              refine lv_iload_n hx hb dX6_sale_48 rfl (lv_at hl 1 rfl) ?_
              refine lv_i2l hx hb dX6_sale_49 rfl ?_
              refine lv_lmul hx hb dX6_sale_50 ?_
              refine lv_ldc2 (v := 6151) hx hb hown (hts (.constantLong RX6 203 (6151)) (List.mem_of_getElem? (i := 2) rfl)) dX6_sale_51 ?_
              refine lv_iload hx hb dX6_sale_54 (lv_at hl 4 rfl) ?_
              refine lv_i2l hx hb dX6_sale_56 rfl ?_
              refine lv_lmul hx hb dX6_sale_57 ?_
              refine lv_ladd hx hb dX6_sale_58 ?_
              refine lv_lconst (v := 1) hx hb dX6_sale_59 (by decide) ?_
              refine lv_ladd hx hb dX6_sale_60 ?_
              refine lv_topl (fun x8 ex8 => ?_)
              have hf := pv_eq ex8 hf
              refine lv_lstore (lv' := [(5, .long x8), (0, .ref h), (1, .int a1), (2, .int a2), (3, .int a3), (4, .int x6)]) hx hb dX6_sale_61 hl (by decide) rfl (fun ls hl => ?_)
              refine lv_lload hx hb dX6_sale_63 (lv_at hl 0 rfl) ?_
              refine lv_lload hx hb dX6_sale_65 (lv_at hl 0 rfl) ?_
              refine lv_lmul hx hb dX6_sale_67 ?_
              refine lv_ldc2 (v := 65521) hx hb hown (hts (.constantLong RX6 205 (65521)) (List.mem_of_getElem? (i := 3) rfl)) dX6_sale_68 ?_
              refine lv_lrem hx hb dX6_sale_71 (by decide) ?_
              refine lv_ldc2 (v := 2) hx hb hown (hts (.constantLong RX6 207 (2)) (List.mem_of_getElem? (i := 4) rfl)) dX6_sale_72 ?_
              refine lv_ldiv hx hb dX6_sale_75 (by decide) ?_
              refine lv_l2i hx hb dX6_sale_76 rfl ?_
              refine lv_topi (fun x9 ex9 => ?_)
              have hf := pv_eq ex9 hf
              refine lv_istore (lv' := [(7, .int x9), (5, .long x8), (0, .ref h), (1, .int a1), (2, .int a2), (3, .int a3), (4, .int x6)]) hx hb dX6_sale_77 hl (by decide) rfl (fun ls hl => ?_)
              refine lv_iload hx hb dX6_sale_79 (lv_at hl 0 rfl) ?_
              refine lv_aload_n hx hb dX6_sale_81 rfl (lv_at hl 2 rfl) ?_
              refine va_get (D := D) (ci := 6) (v := .int h_pieces) (C := RX6) (T := TX6) (N := 24) hx hb hts uX6_sale_X6 hown hK hP 0 rfl rfl 0 (by decide) (hts (.fieldLink RX6 73 "SpeaksForTheChairModel" "pieces" "I") (List.mem_of_getElem? (i := 5) rfl)) (fun _ h9 => h9) rfl dX6_sale_82 ?_
              obtain ⟨g_99, hf⟩ := gu_ne hf
              refine lv_irem hx hb dX6_sale_85 g_99 ?_
              refine lv_topi (fun x10 ex10 => ?_)
              have hf := pv_eq ex10 hf
              refine lv_istore (lv' := [(8, .int x10), (7, .int x9), (5, .long x8), (0, .ref h), (1, .int a1), (2, .int a2), (3, .int a3), (4, .int x6)]) hx hb dX6_sale_86 hl (by decide) rfl (fun ls hl => ?_)
              refine lv_iload hx hb dX6_sale_88 (lv_at hl 1 rfl) ?_
              refine lv_bipush (v := 8) hx hb dX6_sale_90 (by decide) ?_
              refine lv_idiv hx hb dX6_sale_92 (by decide) ?_
              refine lv_iconst (v := 3) hx hb dX6_sale_93 (by decide) ?_
              refine lv_irem hx hb dX6_sale_94 (by decide) ?_
              refine lv_topi (fun x11 ex11 => ?_)
              have hf := pv_eq ex11 hf
              refine lv_istore (lv' := [(9, .int x11), (8, .int x10), (7, .int x9), (5, .long x8), (0, .ref h), (1, .int a1), (2, .int a2), (3, .int a3), (4, .int x6)]) hx hb dX6_sale_95 hl (by decide) rfl (fun ls hl => ?_)
              refine lv_iload hx hb dX6_sale_97 (lv_at hl 0 rfl) ?_
              refine lv_if_ne (tgt := 140) hx hb dX6_sale_99 (by decide) (fun c_100 => ?_) (fun c_100 => ?_)
              · have hf := im c_100 hf
                refine lv_iload hx hb dX6_sale_140 (lv_at hl 0 rfl) ?_
                refine lv_iconst (v := 1) hx hb dX6_sale_142 (by decide) ?_
                refine lv_icmp_ne (tgt := 213) hx hb dX6_sale_143 (by decide) (fun c_101 => ?_) (fun c_101 => ?_)
                · have hf := im c_101 hf
                  refine lv_iload hx hb dX6_sale_213 (lv_at hl 0 rfl) ?_
                  refine lv_iconst (v := 2) hx hb dX6_sale_215 (by decide) ?_
                  refine lv_icmp_ne (tgt := 249) hx hb dX6_sale_216 (by decide) (fun c_102 => ?_) (fun c_102 => ?_)
                  · have hf := im c_102 hf
                    obtain ⟨x12, ex12⟩ : ∃ y : Int32, y = (x6 + 1) := ⟨_, rfl⟩
                    have hf := pv_eq ex12 hf
                    refine lv_iinc (v := x12) (lv' := [(4, .int x12), (9, .int x11), (8, .int x10), (7, .int x9), (5, .long x8), (0, .ref h), (1, .int a1), (2, .int a2), (3, .int a3)]) hx hb dX6_sale_249 hl (k := 8) rfl (by rw [ex12]; rfl) (by decide) rfl (fun ls hl => ?_)
                    refine lv_goto (tgt := 39) hx hb dX6_sale_252 (by decide) ?_
                    exact ih _ _ _ _ hP hD hS ls (lv_sub hl [5, 6, 7, 8, 0] rfl) _ hf KX
                  · have hf := ip c_102 hf
                    refine lv_aload_n hx hb dX6_sale_219 rfl (lv_at hl 4 rfl) ?_
                    refine va_get (D := D) (ci := 6) (v := .ref h_now) (C := RX6) (T := TX6) (N := 24) hx hb hts uX6_sale_X6 hown hK hP 0 rfl rfl 23 (by decide) (hts (.fieldLink RX6 43 "SpeaksForTheChairModel" "now" "[I") (List.mem_of_getElem? (i := 6) rfl)) (fun _ h9 => h9) rfl dX6_sale_220 ?_
                    refine lv_bipush (v := 10) hx hb dX6_sale_223 (by decide) ?_
                    refine lv_iload hx hb dX6_sale_225 (lv_at hl 1 rfl) ?_
                    refine lv_iadd hx hb dX6_sale_227 ?_
                    obtain ⟨g_103, hf⟩ := gu_in hf
                    refine va_iald hx hb hK hP 2 0 rfl rfl g_103 dX6_sale_228 ?_
                    refine lv_iconst (v := 2) hx hb dX6_sale_229 (by decide) ?_
                    refine lv_icmp_eq (tgt := 249) hx hb dX6_sale_230 (by decide) (fun c_104 => ?_) (fun c_104 => ?_)
                    · have hf := ip c_104 hf
                      obtain ⟨x13, ex13⟩ : ∃ y : Int32, y = (x6 + 1) := ⟨_, rfl⟩
                      have hf := pv_eq ex13 hf
                      refine lv_iinc (v := x13) (lv' := [(4, .int x13), (9, .int x11), (8, .int x10), (7, .int x9), (5, .long x8), (0, .ref h), (1, .int a1), (2, .int a2), (3, .int a3)]) hx hb dX6_sale_249 hl (k := 8) rfl (by rw [ex13]; rfl) (by decide) rfl (fun ls hl => ?_)
                      refine lv_goto (tgt := 39) hx hb dX6_sale_252 (by decide) ?_
                      exact ih _ _ _ _ hP hD hS ls (lv_sub hl [5, 6, 7, 8, 0] rfl) _ hf KX
                    · have hf := im c_104 hf
                      refine lv_aload_n hx hb dX6_sale_233 rfl (lv_at hl 4 rfl) ?_
                      refine va_get (D := D) (ci := 6) (v := .ref h_now) (C := RX6) (T := TX6) (N := 24) hx hb hts uX6_sale_X6 hown hK hP 0 rfl rfl 23 (by decide) (hts (.fieldLink RX6 43 "SpeaksForTheChairModel" "now" "[I") (List.mem_of_getElem? (i := 6) rfl)) (fun _ h9 => h9) rfl dX6_sale_234 ?_
                      refine lv_iconst (v := 2) hx hb dX6_sale_237 (by decide) ?_
                      refine lv_iload hx hb dX6_sale_238 (lv_at hl 1 rfl) ?_
                      refine lv_iadd hx hb dX6_sale_240 ?_
                      refine lv_iload hx hb dX6_sale_241 (lv_at hl 2 rfl) ?_
                      refine lv_bipush (v := 32) hx hb dX6_sale_243 (by decide) ?_
                      refine lv_idiv hx hb dX6_sale_245 (by decide) ?_
                      refine lv_iconst (v := 4) hx hb dX6_sale_246 (by decide) ?_
                      refine lv_irem hx hb dX6_sale_247 (by decide) ?_
                      obtain ⟨g_105, hf⟩ := gu_in hf
                      refine va_iast hx hb hK hP hD hS 2 0 rfl rfl g_105 dX6_sale_248 (fun H locs hP hD hS => ?_)
                      obtain ⟨c14, ec14⟩ : ∃ y : Nat → Int32, y = (upd c5 ((2 + x10) : Int32).toNatClampNeg ((x9 / 32) - (x9 / 32) / 4 * 4)) := ⟨_, rfl⟩
                      have hf := pv_eq ec14 hf
                      rw [← ec14] at hP hD
                      have hP : va_P D vwCl [(h, .inr (6, [.int h_pieces, .ref h_piece, .int h_deeds, .ref h_deed, .int h_law, .ref h_st, .int h_acts, .ref h_was, .int h_keeps, .ref h_kept, .int h_seens, .ref h_seen, .ref h_text, .int h_texted, .int h_at, .ref h_told, .int h_readPieces, .ref h_readPiece, .ref h_readRoom, .int h_readDeeds, .ref h_readDeed, .int h_readCoins, .int h_readLaw, .ref h_now])), (h_st, .inl (cI, 18, .inl h_st_c)), (h_now, .inl (cI, 18, .inl c14)), (h_piece, .inl (cI, 16, .inl h_piece_c)), (h_deed, .inl (cI, 40, .inl h_deed_c))] H := hP
                      have hD : va_D A [(h, .inr (6, [.int h_pieces, .ref h_piece, .int h_deeds, .ref h_deed, .int h_law, .ref h_st, .int h_acts, .ref h_was, .int h_keeps, .ref h_kept, .int h_seens, .ref h_seen, .ref h_text, .int h_texted, .int h_at, .ref h_told, .int h_readPieces, .ref h_readPiece, .ref h_readRoom, .int h_readDeeds, .ref h_readDeed, .int h_readCoins, .int h_readLaw, .ref h_now])), (h_st, .inl (cI, 18, .inl h_st_c)), (h_now, .inl (cI, 18, .inl c14)), (h_piece, .inl (cI, 16, .inl h_piece_c)), (h_deed, .inl (cI, 40, .inl h_deed_c))] := hD
                      obtain ⟨x15, ex15⟩ : ∃ y : Int32, y = (x6 + 1) := ⟨_, rfl⟩
                      have hf := pv_eq ex15 hf
                      refine lv_iinc (v := x15) (lv' := [(4, .int x15), (9, .int x11), (8, .int x10), (7, .int x9), (5, .long x8), (0, .ref h), (1, .int a1), (2, .int a2), (3, .int a3)]) hx hb dX6_sale_249 hl (k := 8) rfl (by rw [ex15]; rfl) (by decide) rfl (fun ls hl => ?_)
                      refine lv_goto (tgt := 39) hx hb dX6_sale_252 (by decide) ?_
                      exact ih _ _ _ _ hP hD hS ls (lv_sub hl [5, 6, 7, 8, 0] rfl) _ hf KX
                · have hf := ip c_101 hf
                  refine lv_aload_n hx hb dX6_sale_146 rfl (lv_at hl 4 rfl) ?_
                  refine va_get (D := D) (ci := 6) (v := .ref h_now) (C := RX6) (T := TX6) (N := 24) hx hb hts uX6_sale_X6 hown hK hP 0 rfl rfl 23 (by decide) (hts (.fieldLink RX6 43 "SpeaksForTheChairModel" "now" "[I") (List.mem_of_getElem? (i := 6) rfl)) (fun _ h9 => h9) rfl dX6_sale_147 ?_
                  refine lv_bipush (v := 10) hx hb dX6_sale_150 (by decide) ?_
                  refine lv_iload hx hb dX6_sale_152 (lv_at hl 1 rfl) ?_
                  refine lv_iadd hx hb dX6_sale_154 ?_
                  obtain ⟨g_106, hf⟩ := gu_in hf
                  refine va_iald hx hb hK hP 2 0 rfl rfl g_106 dX6_sale_155 ?_
                  refine lv_if_ne (tgt := 213) hx hb dX6_sale_156 (by decide) (fun c_107 => ?_) (fun c_107 => ?_)
                  · have hf := im c_107 hf
                    refine lv_iload hx hb dX6_sale_213 (lv_at hl 0 rfl) ?_
                    refine lv_iconst (v := 2) hx hb dX6_sale_215 (by decide) ?_
                    refine lv_icmp_ne (tgt := 249) hx hb dX6_sale_216 (by decide) (fun c_108 => ?_) (fun c_108 => ?_)
                    · have hf := im c_108 hf
                      obtain ⟨x16, ex16⟩ : ∃ y : Int32, y = (x6 + 1) := ⟨_, rfl⟩
                      have hf := pv_eq ex16 hf
                      refine lv_iinc (v := x16) (lv' := [(4, .int x16), (9, .int x11), (8, .int x10), (7, .int x9), (5, .long x8), (0, .ref h), (1, .int a1), (2, .int a2), (3, .int a3)]) hx hb dX6_sale_249 hl (k := 8) rfl (by rw [ex16]; rfl) (by decide) rfl (fun ls hl => ?_)
                      refine lv_goto (tgt := 39) hx hb dX6_sale_252 (by decide) ?_
                      exact ih _ _ _ _ hP hD hS ls (lv_sub hl [5, 6, 7, 8, 0] rfl) _ hf KX
                    · have hf := ip c_108 hf
                      refine lv_aload_n hx hb dX6_sale_219 rfl (lv_at hl 4 rfl) ?_
                      refine va_get (D := D) (ci := 6) (v := .ref h_now) (C := RX6) (T := TX6) (N := 24) hx hb hts uX6_sale_X6 hown hK hP 0 rfl rfl 23 (by decide) (hts (.fieldLink RX6 43 "SpeaksForTheChairModel" "now" "[I") (List.mem_of_getElem? (i := 6) rfl)) (fun _ h9 => h9) rfl dX6_sale_220 ?_
                      refine lv_bipush (v := 10) hx hb dX6_sale_223 (by decide) ?_
                      refine lv_iload hx hb dX6_sale_225 (lv_at hl 1 rfl) ?_
                      refine lv_iadd hx hb dX6_sale_227 ?_
                      obtain ⟨g_109, hf⟩ := gu_in hf
                      refine va_iald hx hb hK hP 2 0 rfl rfl g_109 dX6_sale_228 ?_
                      refine lv_iconst (v := 2) hx hb dX6_sale_229 (by decide) ?_
                      refine lv_icmp_eq (tgt := 249) hx hb dX6_sale_230 (by decide) (fun c_110 => ?_) (fun c_110 => ?_)
                      · have hf := ip c_110 hf
                        obtain ⟨x17, ex17⟩ : ∃ y : Int32, y = (x6 + 1) := ⟨_, rfl⟩
                        have hf := pv_eq ex17 hf
                        refine lv_iinc (v := x17) (lv' := [(4, .int x17), (9, .int x11), (8, .int x10), (7, .int x9), (5, .long x8), (0, .ref h), (1, .int a1), (2, .int a2), (3, .int a3)]) hx hb dX6_sale_249 hl (k := 8) rfl (by rw [ex17]; rfl) (by decide) rfl (fun ls hl => ?_)
                        refine lv_goto (tgt := 39) hx hb dX6_sale_252 (by decide) ?_
                        exact ih _ _ _ _ hP hD hS ls (lv_sub hl [5, 6, 7, 8, 0] rfl) _ hf KX
                      · have hf := im c_110 hf
                        refine lv_aload_n hx hb dX6_sale_233 rfl (lv_at hl 4 rfl) ?_
                        refine va_get (D := D) (ci := 6) (v := .ref h_now) (C := RX6) (T := TX6) (N := 24) hx hb hts uX6_sale_X6 hown hK hP 0 rfl rfl 23 (by decide) (hts (.fieldLink RX6 43 "SpeaksForTheChairModel" "now" "[I") (List.mem_of_getElem? (i := 6) rfl)) (fun _ h9 => h9) rfl dX6_sale_234 ?_
                        refine lv_iconst (v := 2) hx hb dX6_sale_237 (by decide) ?_
                        refine lv_iload hx hb dX6_sale_238 (lv_at hl 1 rfl) ?_
                        refine lv_iadd hx hb dX6_sale_240 ?_
                        refine lv_iload hx hb dX6_sale_241 (lv_at hl 2 rfl) ?_
                        refine lv_bipush (v := 32) hx hb dX6_sale_243 (by decide) ?_
                        refine lv_idiv hx hb dX6_sale_245 (by decide) ?_
                        refine lv_iconst (v := 4) hx hb dX6_sale_246 (by decide) ?_
                        refine lv_irem hx hb dX6_sale_247 (by decide) ?_
                        obtain ⟨g_111, hf⟩ := gu_in hf
                        refine va_iast hx hb hK hP hD hS 2 0 rfl rfl g_111 dX6_sale_248 (fun H locs hP hD hS => ?_)
                        obtain ⟨c18, ec18⟩ : ∃ y : Nat → Int32, y = (upd c5 ((2 + x10) : Int32).toNatClampNeg ((x9 / 32) - (x9 / 32) / 4 * 4)) := ⟨_, rfl⟩
                        have hf := pv_eq ec18 hf
                        rw [← ec18] at hP hD
                        have hP : va_P D vwCl [(h, .inr (6, [.int h_pieces, .ref h_piece, .int h_deeds, .ref h_deed, .int h_law, .ref h_st, .int h_acts, .ref h_was, .int h_keeps, .ref h_kept, .int h_seens, .ref h_seen, .ref h_text, .int h_texted, .int h_at, .ref h_told, .int h_readPieces, .ref h_readPiece, .ref h_readRoom, .int h_readDeeds, .ref h_readDeed, .int h_readCoins, .int h_readLaw, .ref h_now])), (h_st, .inl (cI, 18, .inl h_st_c)), (h_now, .inl (cI, 18, .inl c18)), (h_piece, .inl (cI, 16, .inl h_piece_c)), (h_deed, .inl (cI, 40, .inl h_deed_c))] H := hP
                        have hD : va_D A [(h, .inr (6, [.int h_pieces, .ref h_piece, .int h_deeds, .ref h_deed, .int h_law, .ref h_st, .int h_acts, .ref h_was, .int h_keeps, .ref h_kept, .int h_seens, .ref h_seen, .ref h_text, .int h_texted, .int h_at, .ref h_told, .int h_readPieces, .ref h_readPiece, .ref h_readRoom, .int h_readDeeds, .ref h_readDeed, .int h_readCoins, .int h_readLaw, .ref h_now])), (h_st, .inl (cI, 18, .inl h_st_c)), (h_now, .inl (cI, 18, .inl c18)), (h_piece, .inl (cI, 16, .inl h_piece_c)), (h_deed, .inl (cI, 40, .inl h_deed_c))] := hD
                        obtain ⟨x19, ex19⟩ : ∃ y : Int32, y = (x6 + 1) := ⟨_, rfl⟩
                        have hf := pv_eq ex19 hf
                        refine lv_iinc (v := x19) (lv' := [(4, .int x19), (9, .int x11), (8, .int x10), (7, .int x9), (5, .long x8), (0, .ref h), (1, .int a1), (2, .int a2), (3, .int a3)]) hx hb dX6_sale_249 hl (k := 8) rfl (by rw [ex19]; rfl) (by decide) rfl (fun ls hl => ?_)
                        refine lv_goto (tgt := 39) hx hb dX6_sale_252 (by decide) ?_
                        exact ih _ _ _ _ hP hD hS ls (lv_sub hl [5, 6, 7, 8, 0] rfl) _ hf KX
                  · have hf := ip c_107 hf
                    refine lv_aload_n hx hb dX6_sale_159 rfl (lv_at hl 4 rfl) ?_
                    refine va_get (D := D) (ci := 6) (v := .ref h_now) (C := RX6) (T := TX6) (N := 24) hx hb hts uX6_sale_X6 hown hK hP 0 rfl rfl 23 (by decide) (hts (.fieldLink RX6 43 "SpeaksForTheChairModel" "now" "[I") (List.mem_of_getElem? (i := 6) rfl)) (fun _ h9 => h9) rfl dX6_sale_160 ?_
                    refine lv_iconst (v := 0) hx hb dX6_sale_163 (by decide) ?_
                    refine va_iald hx hb hK hP 2 0 rfl rfl (okI_in (by decide)) dX6_sale_164 ?_
                    refine lv_aload_n hx hb dX6_sale_165 rfl (lv_at hl 4 rfl) ?_
                    refine va_get (D := D) (ci := 6) (v := .ref h_piece) (C := RX6) (T := TX6) (N := 24) hx hb hts uX6_sale_X6 hown hK hP 0 rfl rfl 1 (by decide) (hts (.fieldLink RX6 7 "SpeaksForTheChairModel" "piece" "[I") (List.mem_of_getElem? (i := 7) rfl)) (fun _ h9 => h9) rfl dX6_sale_166 ?_
                    refine lv_iconst (v := 2) hx hb dX6_sale_169 (by decide) ?_
                    refine lv_iload hx hb dX6_sale_170 (lv_at hl 1 rfl) ?_
                    refine lv_imul hx hb dX6_sale_172 ?_
                    refine lv_iconst (v := 1) hx hb dX6_sale_173 (by decide) ?_
                    refine lv_iadd hx hb dX6_sale_174 ?_
                    obtain ⟨g_112, hf⟩ := gu_in hf
                    refine va_iald hx hb hK hP 3 0 rfl rfl g_112 dX6_sale_175 ?_
                    refine lv_icmp_lt (tgt := 213) hx hb dX6_sale_176 (by decide) (fun c_113 => ?_) (fun c_113 => ?_)
                    · have hf := ip c_113 hf
                      refine lv_iload hx hb dX6_sale_213 (lv_at hl 0 rfl) ?_
                      refine lv_iconst (v := 2) hx hb dX6_sale_215 (by decide) ?_
                      refine lv_icmp_ne (tgt := 249) hx hb dX6_sale_216 (by decide) (fun c_114 => ?_) (fun c_114 => ?_)
                      · have hf := im c_114 hf
                        obtain ⟨x20, ex20⟩ : ∃ y : Int32, y = (x6 + 1) := ⟨_, rfl⟩
                        have hf := pv_eq ex20 hf
                        refine lv_iinc (v := x20) (lv' := [(4, .int x20), (9, .int x11), (8, .int x10), (7, .int x9), (5, .long x8), (0, .ref h), (1, .int a1), (2, .int a2), (3, .int a3)]) hx hb dX6_sale_249 hl (k := 8) rfl (by rw [ex20]; rfl) (by decide) rfl (fun ls hl => ?_)
                        refine lv_goto (tgt := 39) hx hb dX6_sale_252 (by decide) ?_
                        exact ih _ _ _ _ hP hD hS ls (lv_sub hl [5, 6, 7, 8, 0] rfl) _ hf KX
                      · have hf := ip c_114 hf
                        refine lv_aload_n hx hb dX6_sale_219 rfl (lv_at hl 4 rfl) ?_
                        refine va_get (D := D) (ci := 6) (v := .ref h_now) (C := RX6) (T := TX6) (N := 24) hx hb hts uX6_sale_X6 hown hK hP 0 rfl rfl 23 (by decide) (hts (.fieldLink RX6 43 "SpeaksForTheChairModel" "now" "[I") (List.mem_of_getElem? (i := 6) rfl)) (fun _ h9 => h9) rfl dX6_sale_220 ?_
                        refine lv_bipush (v := 10) hx hb dX6_sale_223 (by decide) ?_
                        refine lv_iload hx hb dX6_sale_225 (lv_at hl 1 rfl) ?_
                        refine lv_iadd hx hb dX6_sale_227 ?_
                        obtain ⟨g_115, hf⟩ := gu_in hf
                        refine va_iald hx hb hK hP 2 0 rfl rfl g_115 dX6_sale_228 ?_
                        refine lv_iconst (v := 2) hx hb dX6_sale_229 (by decide) ?_
                        refine lv_icmp_eq (tgt := 249) hx hb dX6_sale_230 (by decide) (fun c_116 => ?_) (fun c_116 => ?_)
                        · have hf := ip c_116 hf
                          obtain ⟨x21, ex21⟩ : ∃ y : Int32, y = (x6 + 1) := ⟨_, rfl⟩
                          have hf := pv_eq ex21 hf
                          refine lv_iinc (v := x21) (lv' := [(4, .int x21), (9, .int x11), (8, .int x10), (7, .int x9), (5, .long x8), (0, .ref h), (1, .int a1), (2, .int a2), (3, .int a3)]) hx hb dX6_sale_249 hl (k := 8) rfl (by rw [ex21]; rfl) (by decide) rfl (fun ls hl => ?_)
                          refine lv_goto (tgt := 39) hx hb dX6_sale_252 (by decide) ?_
                          exact ih _ _ _ _ hP hD hS ls (lv_sub hl [5, 6, 7, 8, 0] rfl) _ hf KX
                        · have hf := im c_116 hf
                          refine lv_aload_n hx hb dX6_sale_233 rfl (lv_at hl 4 rfl) ?_
                          refine va_get (D := D) (ci := 6) (v := .ref h_now) (C := RX6) (T := TX6) (N := 24) hx hb hts uX6_sale_X6 hown hK hP 0 rfl rfl 23 (by decide) (hts (.fieldLink RX6 43 "SpeaksForTheChairModel" "now" "[I") (List.mem_of_getElem? (i := 6) rfl)) (fun _ h9 => h9) rfl dX6_sale_234 ?_
                          refine lv_iconst (v := 2) hx hb dX6_sale_237 (by decide) ?_
                          refine lv_iload hx hb dX6_sale_238 (lv_at hl 1 rfl) ?_
                          refine lv_iadd hx hb dX6_sale_240 ?_
                          refine lv_iload hx hb dX6_sale_241 (lv_at hl 2 rfl) ?_
                          refine lv_bipush (v := 32) hx hb dX6_sale_243 (by decide) ?_
                          refine lv_idiv hx hb dX6_sale_245 (by decide) ?_
                          refine lv_iconst (v := 4) hx hb dX6_sale_246 (by decide) ?_
                          refine lv_irem hx hb dX6_sale_247 (by decide) ?_
                          obtain ⟨g_117, hf⟩ := gu_in hf
                          refine va_iast hx hb hK hP hD hS 2 0 rfl rfl g_117 dX6_sale_248 (fun H locs hP hD hS => ?_)
                          obtain ⟨c22, ec22⟩ : ∃ y : Nat → Int32, y = (upd c5 ((2 + x10) : Int32).toNatClampNeg ((x9 / 32) - (x9 / 32) / 4 * 4)) := ⟨_, rfl⟩
                          have hf := pv_eq ec22 hf
                          rw [← ec22] at hP hD
                          have hP : va_P D vwCl [(h, .inr (6, [.int h_pieces, .ref h_piece, .int h_deeds, .ref h_deed, .int h_law, .ref h_st, .int h_acts, .ref h_was, .int h_keeps, .ref h_kept, .int h_seens, .ref h_seen, .ref h_text, .int h_texted, .int h_at, .ref h_told, .int h_readPieces, .ref h_readPiece, .ref h_readRoom, .int h_readDeeds, .ref h_readDeed, .int h_readCoins, .int h_readLaw, .ref h_now])), (h_st, .inl (cI, 18, .inl h_st_c)), (h_now, .inl (cI, 18, .inl c22)), (h_piece, .inl (cI, 16, .inl h_piece_c)), (h_deed, .inl (cI, 40, .inl h_deed_c))] H := hP
                          have hD : va_D A [(h, .inr (6, [.int h_pieces, .ref h_piece, .int h_deeds, .ref h_deed, .int h_law, .ref h_st, .int h_acts, .ref h_was, .int h_keeps, .ref h_kept, .int h_seens, .ref h_seen, .ref h_text, .int h_texted, .int h_at, .ref h_told, .int h_readPieces, .ref h_readPiece, .ref h_readRoom, .int h_readDeeds, .ref h_readDeed, .int h_readCoins, .int h_readLaw, .ref h_now])), (h_st, .inl (cI, 18, .inl h_st_c)), (h_now, .inl (cI, 18, .inl c22)), (h_piece, .inl (cI, 16, .inl h_piece_c)), (h_deed, .inl (cI, 40, .inl h_deed_c))] := hD
                          obtain ⟨x23, ex23⟩ : ∃ y : Int32, y = (x6 + 1) := ⟨_, rfl⟩
                          have hf := pv_eq ex23 hf
                          refine lv_iinc (v := x23) (lv' := [(4, .int x23), (9, .int x11), (8, .int x10), (7, .int x9), (5, .long x8), (0, .ref h), (1, .int a1), (2, .int a2), (3, .int a3)]) hx hb dX6_sale_249 hl (k := 8) rfl (by rw [ex23]; rfl) (by decide) rfl (fun ls hl => ?_)
                          refine lv_goto (tgt := 39) hx hb dX6_sale_252 (by decide) ?_
                          exact ih _ _ _ _ hP hD hS ls (lv_sub hl [5, 6, 7, 8, 0] rfl) _ hf KX
                    · have hf := im c_113 hf
                      refine lv_aload_n hx hb dX6_sale_179 rfl (lv_at hl 4 rfl) ?_
                      refine va_get (D := D) (ci := 6) (v := .ref h_now) (C := RX6) (T := TX6) (N := 24) hx hb hts uX6_sale_X6 hown hK hP 0 rfl rfl 23 (by decide) (hts (.fieldLink RX6 43 "SpeaksForTheChairModel" "now" "[I") (List.mem_of_getElem? (i := 6) rfl)) (fun _ h9 => h9) rfl dX6_sale_180 ?_
                      refine lv_bipush (v := 10) hx hb dX6_sale_183 (by decide) ?_
                      refine lv_iload hx hb dX6_sale_185 (lv_at hl 1 rfl) ?_
                      refine lv_iadd hx hb dX6_sale_187 ?_
                      refine lv_iconst (v := 1) hx hb dX6_sale_188 (by decide) ?_
                      obtain ⟨g_118, hf⟩ := gu_in hf
                      refine va_iast hx hb hK hP hD hS 2 0 rfl rfl g_118 dX6_sale_189 (fun H locs hP hD hS => ?_)
                      obtain ⟨c24, ec24⟩ : ∃ y : Nat → Int32, y = (upd c5 ((10 + x10) : Int32).toNatClampNeg 1) := ⟨_, rfl⟩
                      have hf := pv_eq ec24 hf
                      rw [← ec24] at hP hD
                      have hP : va_P D vwCl [(h, .inr (6, [.int h_pieces, .ref h_piece, .int h_deeds, .ref h_deed, .int h_law, .ref h_st, .int h_acts, .ref h_was, .int h_keeps, .ref h_kept, .int h_seens, .ref h_seen, .ref h_text, .int h_texted, .int h_at, .ref h_told, .int h_readPieces, .ref h_readPiece, .ref h_readRoom, .int h_readDeeds, .ref h_readDeed, .int h_readCoins, .int h_readLaw, .ref h_now])), (h_st, .inl (cI, 18, .inl h_st_c)), (h_now, .inl (cI, 18, .inl c24)), (h_piece, .inl (cI, 16, .inl h_piece_c)), (h_deed, .inl (cI, 40, .inl h_deed_c))] H := hP
                      have hD : va_D A [(h, .inr (6, [.int h_pieces, .ref h_piece, .int h_deeds, .ref h_deed, .int h_law, .ref h_st, .int h_acts, .ref h_was, .int h_keeps, .ref h_kept, .int h_seens, .ref h_seen, .ref h_text, .int h_texted, .int h_at, .ref h_told, .int h_readPieces, .ref h_readPiece, .ref h_readRoom, .int h_readDeeds, .ref h_readDeed, .int h_readCoins, .int h_readLaw, .ref h_now])), (h_st, .inl (cI, 18, .inl h_st_c)), (h_now, .inl (cI, 18, .inl c24)), (h_piece, .inl (cI, 16, .inl h_piece_c)), (h_deed, .inl (cI, 40, .inl h_deed_c))] := hD
                      refine lv_aload_n hx hb dX6_sale_190 rfl (lv_at hl 4 rfl) ?_
                      refine va_get (D := D) (ci := 6) (v := .ref h_now) (C := RX6) (T := TX6) (N := 24) hx hb hts uX6_sale_X6 hown hK hP 0 rfl rfl 23 (by decide) (hts (.fieldLink RX6 43 "SpeaksForTheChairModel" "now" "[I") (List.mem_of_getElem? (i := 6) rfl)) (fun _ h9 => h9) rfl dX6_sale_191 ?_
                      refine lv_iconst (v := 0) hx hb dX6_sale_194 (by decide) ?_
                      refine lv_dup2_11 hx hb dX6_sale_195 rfl rfl ?_
                      refine va_iald hx hb hK hP 2 0 rfl rfl (okI_in (by decide)) dX6_sale_196 ?_
                      refine lv_aload_n hx hb dX6_sale_197 rfl (lv_at hl 4 rfl) ?_
                      refine va_get (D := D) (ci := 6) (v := .ref h_piece) (C := RX6) (T := TX6) (N := 24) hx hb hts uX6_sale_X6 hown hK hP 0 rfl rfl 1 (by decide) (hts (.fieldLink RX6 7 "SpeaksForTheChairModel" "piece" "[I") (List.mem_of_getElem? (i := 7) rfl)) (fun _ h9 => h9) rfl dX6_sale_198 ?_
                      refine lv_iconst (v := 2) hx hb dX6_sale_201 (by decide) ?_
                      refine lv_iload hx hb dX6_sale_202 (lv_at hl 1 rfl) ?_
                      refine lv_imul hx hb dX6_sale_204 ?_
                      refine lv_iconst (v := 1) hx hb dX6_sale_205 (by decide) ?_
                      refine lv_iadd hx hb dX6_sale_206 ?_
                      obtain ⟨g_119, hf⟩ := gu_in hf
                      refine va_iald hx hb hK hP 3 0 rfl rfl g_119 dX6_sale_207 ?_
                      refine lv_isub hx hb dX6_sale_208 ?_
                      refine va_iast hx hb hK hP hD hS 2 0 rfl rfl (okI_in (by decide)) dX6_sale_209 (fun H locs hP hD hS => ?_)
                      obtain ⟨c25, ec25⟩ : ∃ y : Nat → Int32, y = (upd c24 (0 : Int32).toNatClampNeg ((c24 (0 : Int32).toNatClampNeg) - (h_piece_c (((2 * x10) + 1) : Int32).toNatClampNeg))) := ⟨_, rfl⟩
                      have hf := pv_eq ec25 hf
                      rw [← ec25] at hP hD
                      have hP : va_P D vwCl [(h, .inr (6, [.int h_pieces, .ref h_piece, .int h_deeds, .ref h_deed, .int h_law, .ref h_st, .int h_acts, .ref h_was, .int h_keeps, .ref h_kept, .int h_seens, .ref h_seen, .ref h_text, .int h_texted, .int h_at, .ref h_told, .int h_readPieces, .ref h_readPiece, .ref h_readRoom, .int h_readDeeds, .ref h_readDeed, .int h_readCoins, .int h_readLaw, .ref h_now])), (h_st, .inl (cI, 18, .inl h_st_c)), (h_now, .inl (cI, 18, .inl c25)), (h_piece, .inl (cI, 16, .inl h_piece_c)), (h_deed, .inl (cI, 40, .inl h_deed_c))] H := hP
                      have hD : va_D A [(h, .inr (6, [.int h_pieces, .ref h_piece, .int h_deeds, .ref h_deed, .int h_law, .ref h_st, .int h_acts, .ref h_was, .int h_keeps, .ref h_kept, .int h_seens, .ref h_seen, .ref h_text, .int h_texted, .int h_at, .ref h_told, .int h_readPieces, .ref h_readPiece, .ref h_readRoom, .int h_readDeeds, .ref h_readDeed, .int h_readCoins, .int h_readLaw, .ref h_now])), (h_st, .inl (cI, 18, .inl h_st_c)), (h_now, .inl (cI, 18, .inl c25)), (h_piece, .inl (cI, 16, .inl h_piece_c)), (h_deed, .inl (cI, 40, .inl h_deed_c))] := hD
                      refine lv_goto (tgt := 249) hx hb dX6_sale_210 (by decide) ?_
                      obtain ⟨x26, ex26⟩ : ∃ y : Int32, y = (x6 + 1) := ⟨_, rfl⟩
                      have hf := pv_eq ex26 hf
                      refine lv_iinc (v := x26) (lv' := [(4, .int x26), (9, .int x11), (8, .int x10), (7, .int x9), (5, .long x8), (0, .ref h), (1, .int a1), (2, .int a2), (3, .int a3)]) hx hb dX6_sale_249 hl (k := 8) rfl (by rw [ex26]; rfl) (by decide) rfl (fun ls hl => ?_)
                      refine lv_goto (tgt := 39) hx hb dX6_sale_252 (by decide) ?_
                      exact ih _ _ _ _ hP hD hS ls (lv_sub hl [5, 6, 7, 8, 0] rfl) _ hf KX
              · have hf := ip c_100 hf
                refine lv_aload_n hx hb dX6_sale_102 rfl (lv_at hl 4 rfl) ?_
                refine lv_iload hx hb dX6_sale_103 (lv_at hl 1 rfl) ?_
                obtain ⟨x27, hv_120, hf⟩ := ob1_some hf
                refine q_rVi (As := [.int x10]) (rest := []) (r := x27) ⟨hx, hb, hml, hown, hts⟩ (c_X6_isLoose l D cI cC cL cB h h_piece h_deed h_st h_was h_kept h_seen h_text h_told h_readPiece h_readRoom h_readDeed h_now x10 h_pieces h_deeds h_law h_acts h_keeps h_seens h_texted h_at h_readPieces h_readDeeds h_readCoins h_readLaw c5 h_piece_c x27 hv_120) (cwV 1 hts gX6_sale_X6_isLoose rfl rfl rfl (by decide +kernel) ⟨Nat.le_of_ble_eq_true rfl, Nat.le_of_ble_eq_true rfl⟩) hK hP [0, 2, 3] rfl (va_recv hK hP (ci := 6) (q0 := 0) rfl rfl) rfl hl.1 rfl (Nat.le_of_ble_eq_true rfl) dX6_sale_105 ⟨Nat.le_of_ble_eq_true rfl, Nat.le_of_ble_eq_true rfl⟩ ?_
                refine lv_if_eq (tgt := 140) hx hb dX6_sale_108 (by decide) (fun c_121 => ?_) (fun c_121 => ?_)
                · have hf := ip c_121 hf
                  refine lv_iload hx hb dX6_sale_140 (lv_at hl 0 rfl) ?_
                  refine lv_iconst (v := 1) hx hb dX6_sale_142 (by decide) ?_
                  refine lv_icmp_ne (tgt := 213) hx hb dX6_sale_143 (by decide) (fun c_122 => ?_) (fun c_122 => ?_)
                  · have hf := im c_122 hf
                    refine lv_iload hx hb dX6_sale_213 (lv_at hl 0 rfl) ?_
                    refine lv_iconst (v := 2) hx hb dX6_sale_215 (by decide) ?_
                    refine lv_icmp_ne (tgt := 249) hx hb dX6_sale_216 (by decide) (fun c_123 => ?_) (fun c_123 => ?_)
                    · have hf := im c_123 hf
                      obtain ⟨x28, ex28⟩ : ∃ y : Int32, y = (x6 + 1) := ⟨_, rfl⟩
                      have hf := pv_eq ex28 hf
                      refine lv_iinc (v := x28) (lv' := [(4, .int x28), (9, .int x11), (8, .int x10), (7, .int x9), (5, .long x8), (0, .ref h), (1, .int a1), (2, .int a2), (3, .int a3)]) hx hb dX6_sale_249 hl (k := 8) rfl (by rw [ex28]; rfl) (by decide) rfl (fun ls hl => ?_)
                      refine lv_goto (tgt := 39) hx hb dX6_sale_252 (by decide) ?_
                      exact ih _ _ _ _ hP hD hS ls (lv_sub hl [5, 6, 7, 8, 0] rfl) _ hf KX
                    · have hf := ip c_123 hf
                      refine lv_aload_n hx hb dX6_sale_219 rfl (lv_at hl 4 rfl) ?_
                      refine va_get (D := D) (ci := 6) (v := .ref h_now) (C := RX6) (T := TX6) (N := 24) hx hb hts uX6_sale_X6 hown hK hP 0 rfl rfl 23 (by decide) (hts (.fieldLink RX6 43 "SpeaksForTheChairModel" "now" "[I") (List.mem_of_getElem? (i := 6) rfl)) (fun _ h9 => h9) rfl dX6_sale_220 ?_
                      refine lv_bipush (v := 10) hx hb dX6_sale_223 (by decide) ?_
                      refine lv_iload hx hb dX6_sale_225 (lv_at hl 1 rfl) ?_
                      refine lv_iadd hx hb dX6_sale_227 ?_
                      obtain ⟨g_124, hf⟩ := gu_in hf
                      refine va_iald hx hb hK hP 2 0 rfl rfl g_124 dX6_sale_228 ?_
                      refine lv_iconst (v := 2) hx hb dX6_sale_229 (by decide) ?_
                      refine lv_icmp_eq (tgt := 249) hx hb dX6_sale_230 (by decide) (fun c_125 => ?_) (fun c_125 => ?_)
                      · have hf := ip c_125 hf
                        obtain ⟨x29, ex29⟩ : ∃ y : Int32, y = (x6 + 1) := ⟨_, rfl⟩
                        have hf := pv_eq ex29 hf
                        refine lv_iinc (v := x29) (lv' := [(4, .int x29), (9, .int x11), (8, .int x10), (7, .int x9), (5, .long x8), (0, .ref h), (1, .int a1), (2, .int a2), (3, .int a3)]) hx hb dX6_sale_249 hl (k := 8) rfl (by rw [ex29]; rfl) (by decide) rfl (fun ls hl => ?_)
                        refine lv_goto (tgt := 39) hx hb dX6_sale_252 (by decide) ?_
                        exact ih _ _ _ _ hP hD hS ls (lv_sub hl [5, 6, 7, 8, 0] rfl) _ hf KX
                      · have hf := im c_125 hf
                        refine lv_aload_n hx hb dX6_sale_233 rfl (lv_at hl 4 rfl) ?_
                        refine va_get (D := D) (ci := 6) (v := .ref h_now) (C := RX6) (T := TX6) (N := 24) hx hb hts uX6_sale_X6 hown hK hP 0 rfl rfl 23 (by decide) (hts (.fieldLink RX6 43 "SpeaksForTheChairModel" "now" "[I") (List.mem_of_getElem? (i := 6) rfl)) (fun _ h9 => h9) rfl dX6_sale_234 ?_
                        refine lv_iconst (v := 2) hx hb dX6_sale_237 (by decide) ?_
                        refine lv_iload hx hb dX6_sale_238 (lv_at hl 1 rfl) ?_
                        refine lv_iadd hx hb dX6_sale_240 ?_
                        refine lv_iload hx hb dX6_sale_241 (lv_at hl 2 rfl) ?_
                        refine lv_bipush (v := 32) hx hb dX6_sale_243 (by decide) ?_
                        refine lv_idiv hx hb dX6_sale_245 (by decide) ?_
                        refine lv_iconst (v := 4) hx hb dX6_sale_246 (by decide) ?_
                        refine lv_irem hx hb dX6_sale_247 (by decide) ?_
                        obtain ⟨g_126, hf⟩ := gu_in hf
                        refine va_iast hx hb hK hP hD hS 2 0 rfl rfl g_126 dX6_sale_248 (fun H locs hP hD hS => ?_)
                        obtain ⟨c30, ec30⟩ : ∃ y : Nat → Int32, y = (upd c5 ((2 + x10) : Int32).toNatClampNeg ((x9 / 32) - (x9 / 32) / 4 * 4)) := ⟨_, rfl⟩
                        have hf := pv_eq ec30 hf
                        rw [← ec30] at hP hD
                        have hP : va_P D vwCl [(h, .inr (6, [.int h_pieces, .ref h_piece, .int h_deeds, .ref h_deed, .int h_law, .ref h_st, .int h_acts, .ref h_was, .int h_keeps, .ref h_kept, .int h_seens, .ref h_seen, .ref h_text, .int h_texted, .int h_at, .ref h_told, .int h_readPieces, .ref h_readPiece, .ref h_readRoom, .int h_readDeeds, .ref h_readDeed, .int h_readCoins, .int h_readLaw, .ref h_now])), (h_st, .inl (cI, 18, .inl h_st_c)), (h_now, .inl (cI, 18, .inl c30)), (h_piece, .inl (cI, 16, .inl h_piece_c)), (h_deed, .inl (cI, 40, .inl h_deed_c))] H := hP
                        have hD : va_D A [(h, .inr (6, [.int h_pieces, .ref h_piece, .int h_deeds, .ref h_deed, .int h_law, .ref h_st, .int h_acts, .ref h_was, .int h_keeps, .ref h_kept, .int h_seens, .ref h_seen, .ref h_text, .int h_texted, .int h_at, .ref h_told, .int h_readPieces, .ref h_readPiece, .ref h_readRoom, .int h_readDeeds, .ref h_readDeed, .int h_readCoins, .int h_readLaw, .ref h_now])), (h_st, .inl (cI, 18, .inl h_st_c)), (h_now, .inl (cI, 18, .inl c30)), (h_piece, .inl (cI, 16, .inl h_piece_c)), (h_deed, .inl (cI, 40, .inl h_deed_c))] := hD
                        obtain ⟨x31, ex31⟩ : ∃ y : Int32, y = (x6 + 1) := ⟨_, rfl⟩
                        have hf := pv_eq ex31 hf
                        refine lv_iinc (v := x31) (lv' := [(4, .int x31), (9, .int x11), (8, .int x10), (7, .int x9), (5, .long x8), (0, .ref h), (1, .int a1), (2, .int a2), (3, .int a3)]) hx hb dX6_sale_249 hl (k := 8) rfl (by rw [ex31]; rfl) (by decide) rfl (fun ls hl => ?_)
                        refine lv_goto (tgt := 39) hx hb dX6_sale_252 (by decide) ?_
                        exact ih _ _ _ _ hP hD hS ls (lv_sub hl [5, 6, 7, 8, 0] rfl) _ hf KX
                  · have hf := ip c_122 hf
                    refine lv_aload_n hx hb dX6_sale_146 rfl (lv_at hl 4 rfl) ?_
                    refine va_get (D := D) (ci := 6) (v := .ref h_now) (C := RX6) (T := TX6) (N := 24) hx hb hts uX6_sale_X6 hown hK hP 0 rfl rfl 23 (by decide) (hts (.fieldLink RX6 43 "SpeaksForTheChairModel" "now" "[I") (List.mem_of_getElem? (i := 6) rfl)) (fun _ h9 => h9) rfl dX6_sale_147 ?_
                    refine lv_bipush (v := 10) hx hb dX6_sale_150 (by decide) ?_
                    refine lv_iload hx hb dX6_sale_152 (lv_at hl 1 rfl) ?_
                    refine lv_iadd hx hb dX6_sale_154 ?_
                    obtain ⟨g_127, hf⟩ := gu_in hf
                    refine va_iald hx hb hK hP 2 0 rfl rfl g_127 dX6_sale_155 ?_
                    refine lv_if_ne (tgt := 213) hx hb dX6_sale_156 (by decide) (fun c_128 => ?_) (fun c_128 => ?_)
                    · have hf := im c_128 hf
                      refine lv_iload hx hb dX6_sale_213 (lv_at hl 0 rfl) ?_
                      refine lv_iconst (v := 2) hx hb dX6_sale_215 (by decide) ?_
                      refine lv_icmp_ne (tgt := 249) hx hb dX6_sale_216 (by decide) (fun c_129 => ?_) (fun c_129 => ?_)
                      · have hf := im c_129 hf
                        obtain ⟨x32, ex32⟩ : ∃ y : Int32, y = (x6 + 1) := ⟨_, rfl⟩
                        have hf := pv_eq ex32 hf
                        refine lv_iinc (v := x32) (lv' := [(4, .int x32), (9, .int x11), (8, .int x10), (7, .int x9), (5, .long x8), (0, .ref h), (1, .int a1), (2, .int a2), (3, .int a3)]) hx hb dX6_sale_249 hl (k := 8) rfl (by rw [ex32]; rfl) (by decide) rfl (fun ls hl => ?_)
                        refine lv_goto (tgt := 39) hx hb dX6_sale_252 (by decide) ?_
                        exact ih _ _ _ _ hP hD hS ls (lv_sub hl [5, 6, 7, 8, 0] rfl) _ hf KX
                      · have hf := ip c_129 hf
                        refine lv_aload_n hx hb dX6_sale_219 rfl (lv_at hl 4 rfl) ?_
                        refine va_get (D := D) (ci := 6) (v := .ref h_now) (C := RX6) (T := TX6) (N := 24) hx hb hts uX6_sale_X6 hown hK hP 0 rfl rfl 23 (by decide) (hts (.fieldLink RX6 43 "SpeaksForTheChairModel" "now" "[I") (List.mem_of_getElem? (i := 6) rfl)) (fun _ h9 => h9) rfl dX6_sale_220 ?_
                        refine lv_bipush (v := 10) hx hb dX6_sale_223 (by decide) ?_
                        refine lv_iload hx hb dX6_sale_225 (lv_at hl 1 rfl) ?_
                        refine lv_iadd hx hb dX6_sale_227 ?_
                        obtain ⟨g_130, hf⟩ := gu_in hf
                        refine va_iald hx hb hK hP 2 0 rfl rfl g_130 dX6_sale_228 ?_
                        refine lv_iconst (v := 2) hx hb dX6_sale_229 (by decide) ?_
                        refine lv_icmp_eq (tgt := 249) hx hb dX6_sale_230 (by decide) (fun c_131 => ?_) (fun c_131 => ?_)
                        · have hf := ip c_131 hf
                          obtain ⟨x33, ex33⟩ : ∃ y : Int32, y = (x6 + 1) := ⟨_, rfl⟩
                          have hf := pv_eq ex33 hf
                          refine lv_iinc (v := x33) (lv' := [(4, .int x33), (9, .int x11), (8, .int x10), (7, .int x9), (5, .long x8), (0, .ref h), (1, .int a1), (2, .int a2), (3, .int a3)]) hx hb dX6_sale_249 hl (k := 8) rfl (by rw [ex33]; rfl) (by decide) rfl (fun ls hl => ?_)
                          refine lv_goto (tgt := 39) hx hb dX6_sale_252 (by decide) ?_
                          exact ih _ _ _ _ hP hD hS ls (lv_sub hl [5, 6, 7, 8, 0] rfl) _ hf KX
                        · have hf := im c_131 hf
                          refine lv_aload_n hx hb dX6_sale_233 rfl (lv_at hl 4 rfl) ?_
                          refine va_get (D := D) (ci := 6) (v := .ref h_now) (C := RX6) (T := TX6) (N := 24) hx hb hts uX6_sale_X6 hown hK hP 0 rfl rfl 23 (by decide) (hts (.fieldLink RX6 43 "SpeaksForTheChairModel" "now" "[I") (List.mem_of_getElem? (i := 6) rfl)) (fun _ h9 => h9) rfl dX6_sale_234 ?_
                          refine lv_iconst (v := 2) hx hb dX6_sale_237 (by decide) ?_
                          refine lv_iload hx hb dX6_sale_238 (lv_at hl 1 rfl) ?_
                          refine lv_iadd hx hb dX6_sale_240 ?_
                          refine lv_iload hx hb dX6_sale_241 (lv_at hl 2 rfl) ?_
                          refine lv_bipush (v := 32) hx hb dX6_sale_243 (by decide) ?_
                          refine lv_idiv hx hb dX6_sale_245 (by decide) ?_
                          refine lv_iconst (v := 4) hx hb dX6_sale_246 (by decide) ?_
                          refine lv_irem hx hb dX6_sale_247 (by decide) ?_
                          obtain ⟨g_132, hf⟩ := gu_in hf
                          refine va_iast hx hb hK hP hD hS 2 0 rfl rfl g_132 dX6_sale_248 (fun H locs hP hD hS => ?_)
                          obtain ⟨c34, ec34⟩ : ∃ y : Nat → Int32, y = (upd c5 ((2 + x10) : Int32).toNatClampNeg ((x9 / 32) - (x9 / 32) / 4 * 4)) := ⟨_, rfl⟩
                          have hf := pv_eq ec34 hf
                          rw [← ec34] at hP hD
                          have hP : va_P D vwCl [(h, .inr (6, [.int h_pieces, .ref h_piece, .int h_deeds, .ref h_deed, .int h_law, .ref h_st, .int h_acts, .ref h_was, .int h_keeps, .ref h_kept, .int h_seens, .ref h_seen, .ref h_text, .int h_texted, .int h_at, .ref h_told, .int h_readPieces, .ref h_readPiece, .ref h_readRoom, .int h_readDeeds, .ref h_readDeed, .int h_readCoins, .int h_readLaw, .ref h_now])), (h_st, .inl (cI, 18, .inl h_st_c)), (h_now, .inl (cI, 18, .inl c34)), (h_piece, .inl (cI, 16, .inl h_piece_c)), (h_deed, .inl (cI, 40, .inl h_deed_c))] H := hP
                          have hD : va_D A [(h, .inr (6, [.int h_pieces, .ref h_piece, .int h_deeds, .ref h_deed, .int h_law, .ref h_st, .int h_acts, .ref h_was, .int h_keeps, .ref h_kept, .int h_seens, .ref h_seen, .ref h_text, .int h_texted, .int h_at, .ref h_told, .int h_readPieces, .ref h_readPiece, .ref h_readRoom, .int h_readDeeds, .ref h_readDeed, .int h_readCoins, .int h_readLaw, .ref h_now])), (h_st, .inl (cI, 18, .inl h_st_c)), (h_now, .inl (cI, 18, .inl c34)), (h_piece, .inl (cI, 16, .inl h_piece_c)), (h_deed, .inl (cI, 40, .inl h_deed_c))] := hD
                          obtain ⟨x35, ex35⟩ : ∃ y : Int32, y = (x6 + 1) := ⟨_, rfl⟩
                          have hf := pv_eq ex35 hf
                          refine lv_iinc (v := x35) (lv' := [(4, .int x35), (9, .int x11), (8, .int x10), (7, .int x9), (5, .long x8), (0, .ref h), (1, .int a1), (2, .int a2), (3, .int a3)]) hx hb dX6_sale_249 hl (k := 8) rfl (by rw [ex35]; rfl) (by decide) rfl (fun ls hl => ?_)
                          refine lv_goto (tgt := 39) hx hb dX6_sale_252 (by decide) ?_
                          exact ih _ _ _ _ hP hD hS ls (lv_sub hl [5, 6, 7, 8, 0] rfl) _ hf KX
                    · have hf := ip c_128 hf
                      refine lv_aload_n hx hb dX6_sale_159 rfl (lv_at hl 4 rfl) ?_
                      refine va_get (D := D) (ci := 6) (v := .ref h_now) (C := RX6) (T := TX6) (N := 24) hx hb hts uX6_sale_X6 hown hK hP 0 rfl rfl 23 (by decide) (hts (.fieldLink RX6 43 "SpeaksForTheChairModel" "now" "[I") (List.mem_of_getElem? (i := 6) rfl)) (fun _ h9 => h9) rfl dX6_sale_160 ?_
                      refine lv_iconst (v := 0) hx hb dX6_sale_163 (by decide) ?_
                      refine va_iald hx hb hK hP 2 0 rfl rfl (okI_in (by decide)) dX6_sale_164 ?_
                      refine lv_aload_n hx hb dX6_sale_165 rfl (lv_at hl 4 rfl) ?_
                      refine va_get (D := D) (ci := 6) (v := .ref h_piece) (C := RX6) (T := TX6) (N := 24) hx hb hts uX6_sale_X6 hown hK hP 0 rfl rfl 1 (by decide) (hts (.fieldLink RX6 7 "SpeaksForTheChairModel" "piece" "[I") (List.mem_of_getElem? (i := 7) rfl)) (fun _ h9 => h9) rfl dX6_sale_166 ?_
                      refine lv_iconst (v := 2) hx hb dX6_sale_169 (by decide) ?_
                      refine lv_iload hx hb dX6_sale_170 (lv_at hl 1 rfl) ?_
                      refine lv_imul hx hb dX6_sale_172 ?_
                      refine lv_iconst (v := 1) hx hb dX6_sale_173 (by decide) ?_
                      refine lv_iadd hx hb dX6_sale_174 ?_
                      obtain ⟨g_133, hf⟩ := gu_in hf
                      refine va_iald hx hb hK hP 3 0 rfl rfl g_133 dX6_sale_175 ?_
                      refine lv_icmp_lt (tgt := 213) hx hb dX6_sale_176 (by decide) (fun c_134 => ?_) (fun c_134 => ?_)
                      · have hf := ip c_134 hf
                        refine lv_iload hx hb dX6_sale_213 (lv_at hl 0 rfl) ?_
                        refine lv_iconst (v := 2) hx hb dX6_sale_215 (by decide) ?_
                        refine lv_icmp_ne (tgt := 249) hx hb dX6_sale_216 (by decide) (fun c_135 => ?_) (fun c_135 => ?_)
                        · have hf := im c_135 hf
                          obtain ⟨x36, ex36⟩ : ∃ y : Int32, y = (x6 + 1) := ⟨_, rfl⟩
                          have hf := pv_eq ex36 hf
                          refine lv_iinc (v := x36) (lv' := [(4, .int x36), (9, .int x11), (8, .int x10), (7, .int x9), (5, .long x8), (0, .ref h), (1, .int a1), (2, .int a2), (3, .int a3)]) hx hb dX6_sale_249 hl (k := 8) rfl (by rw [ex36]; rfl) (by decide) rfl (fun ls hl => ?_)
                          refine lv_goto (tgt := 39) hx hb dX6_sale_252 (by decide) ?_
                          exact ih _ _ _ _ hP hD hS ls (lv_sub hl [5, 6, 7, 8, 0] rfl) _ hf KX
                        · have hf := ip c_135 hf
                          refine lv_aload_n hx hb dX6_sale_219 rfl (lv_at hl 4 rfl) ?_
                          refine va_get (D := D) (ci := 6) (v := .ref h_now) (C := RX6) (T := TX6) (N := 24) hx hb hts uX6_sale_X6 hown hK hP 0 rfl rfl 23 (by decide) (hts (.fieldLink RX6 43 "SpeaksForTheChairModel" "now" "[I") (List.mem_of_getElem? (i := 6) rfl)) (fun _ h9 => h9) rfl dX6_sale_220 ?_
                          refine lv_bipush (v := 10) hx hb dX6_sale_223 (by decide) ?_
                          refine lv_iload hx hb dX6_sale_225 (lv_at hl 1 rfl) ?_
                          refine lv_iadd hx hb dX6_sale_227 ?_
                          obtain ⟨g_136, hf⟩ := gu_in hf
                          refine va_iald hx hb hK hP 2 0 rfl rfl g_136 dX6_sale_228 ?_
                          refine lv_iconst (v := 2) hx hb dX6_sale_229 (by decide) ?_
                          refine lv_icmp_eq (tgt := 249) hx hb dX6_sale_230 (by decide) (fun c_137 => ?_) (fun c_137 => ?_)
                          · have hf := ip c_137 hf
                            obtain ⟨x37, ex37⟩ : ∃ y : Int32, y = (x6 + 1) := ⟨_, rfl⟩
                            have hf := pv_eq ex37 hf
                            refine lv_iinc (v := x37) (lv' := [(4, .int x37), (9, .int x11), (8, .int x10), (7, .int x9), (5, .long x8), (0, .ref h), (1, .int a1), (2, .int a2), (3, .int a3)]) hx hb dX6_sale_249 hl (k := 8) rfl (by rw [ex37]; rfl) (by decide) rfl (fun ls hl => ?_)
                            refine lv_goto (tgt := 39) hx hb dX6_sale_252 (by decide) ?_
                            exact ih _ _ _ _ hP hD hS ls (lv_sub hl [5, 6, 7, 8, 0] rfl) _ hf KX
                          · have hf := im c_137 hf
                            refine lv_aload_n hx hb dX6_sale_233 rfl (lv_at hl 4 rfl) ?_
                            refine va_get (D := D) (ci := 6) (v := .ref h_now) (C := RX6) (T := TX6) (N := 24) hx hb hts uX6_sale_X6 hown hK hP 0 rfl rfl 23 (by decide) (hts (.fieldLink RX6 43 "SpeaksForTheChairModel" "now" "[I") (List.mem_of_getElem? (i := 6) rfl)) (fun _ h9 => h9) rfl dX6_sale_234 ?_
                            refine lv_iconst (v := 2) hx hb dX6_sale_237 (by decide) ?_
                            refine lv_iload hx hb dX6_sale_238 (lv_at hl 1 rfl) ?_
                            refine lv_iadd hx hb dX6_sale_240 ?_
                            refine lv_iload hx hb dX6_sale_241 (lv_at hl 2 rfl) ?_
                            refine lv_bipush (v := 32) hx hb dX6_sale_243 (by decide) ?_
                            refine lv_idiv hx hb dX6_sale_245 (by decide) ?_
                            refine lv_iconst (v := 4) hx hb dX6_sale_246 (by decide) ?_
                            refine lv_irem hx hb dX6_sale_247 (by decide) ?_
                            obtain ⟨g_138, hf⟩ := gu_in hf
                            refine va_iast hx hb hK hP hD hS 2 0 rfl rfl g_138 dX6_sale_248 (fun H locs hP hD hS => ?_)
                            obtain ⟨c38, ec38⟩ : ∃ y : Nat → Int32, y = (upd c5 ((2 + x10) : Int32).toNatClampNeg ((x9 / 32) - (x9 / 32) / 4 * 4)) := ⟨_, rfl⟩
                            have hf := pv_eq ec38 hf
                            rw [← ec38] at hP hD
                            have hP : va_P D vwCl [(h, .inr (6, [.int h_pieces, .ref h_piece, .int h_deeds, .ref h_deed, .int h_law, .ref h_st, .int h_acts, .ref h_was, .int h_keeps, .ref h_kept, .int h_seens, .ref h_seen, .ref h_text, .int h_texted, .int h_at, .ref h_told, .int h_readPieces, .ref h_readPiece, .ref h_readRoom, .int h_readDeeds, .ref h_readDeed, .int h_readCoins, .int h_readLaw, .ref h_now])), (h_st, .inl (cI, 18, .inl h_st_c)), (h_now, .inl (cI, 18, .inl c38)), (h_piece, .inl (cI, 16, .inl h_piece_c)), (h_deed, .inl (cI, 40, .inl h_deed_c))] H := hP
                            have hD : va_D A [(h, .inr (6, [.int h_pieces, .ref h_piece, .int h_deeds, .ref h_deed, .int h_law, .ref h_st, .int h_acts, .ref h_was, .int h_keeps, .ref h_kept, .int h_seens, .ref h_seen, .ref h_text, .int h_texted, .int h_at, .ref h_told, .int h_readPieces, .ref h_readPiece, .ref h_readRoom, .int h_readDeeds, .ref h_readDeed, .int h_readCoins, .int h_readLaw, .ref h_now])), (h_st, .inl (cI, 18, .inl h_st_c)), (h_now, .inl (cI, 18, .inl c38)), (h_piece, .inl (cI, 16, .inl h_piece_c)), (h_deed, .inl (cI, 40, .inl h_deed_c))] := hD
                            obtain ⟨x39, ex39⟩ : ∃ y : Int32, y = (x6 + 1) := ⟨_, rfl⟩
                            have hf := pv_eq ex39 hf
                            refine lv_iinc (v := x39) (lv' := [(4, .int x39), (9, .int x11), (8, .int x10), (7, .int x9), (5, .long x8), (0, .ref h), (1, .int a1), (2, .int a2), (3, .int a3)]) hx hb dX6_sale_249 hl (k := 8) rfl (by rw [ex39]; rfl) (by decide) rfl (fun ls hl => ?_)
                            refine lv_goto (tgt := 39) hx hb dX6_sale_252 (by decide) ?_
                            exact ih _ _ _ _ hP hD hS ls (lv_sub hl [5, 6, 7, 8, 0] rfl) _ hf KX
                      · have hf := im c_134 hf
                        refine lv_aload_n hx hb dX6_sale_179 rfl (lv_at hl 4 rfl) ?_
                        refine va_get (D := D) (ci := 6) (v := .ref h_now) (C := RX6) (T := TX6) (N := 24) hx hb hts uX6_sale_X6 hown hK hP 0 rfl rfl 23 (by decide) (hts (.fieldLink RX6 43 "SpeaksForTheChairModel" "now" "[I") (List.mem_of_getElem? (i := 6) rfl)) (fun _ h9 => h9) rfl dX6_sale_180 ?_
                        refine lv_bipush (v := 10) hx hb dX6_sale_183 (by decide) ?_
                        refine lv_iload hx hb dX6_sale_185 (lv_at hl 1 rfl) ?_
                        refine lv_iadd hx hb dX6_sale_187 ?_
                        refine lv_iconst (v := 1) hx hb dX6_sale_188 (by decide) ?_
                        obtain ⟨g_139, hf⟩ := gu_in hf
                        refine va_iast hx hb hK hP hD hS 2 0 rfl rfl g_139 dX6_sale_189 (fun H locs hP hD hS => ?_)
                        obtain ⟨c40, ec40⟩ : ∃ y : Nat → Int32, y = (upd c5 ((10 + x10) : Int32).toNatClampNeg 1) := ⟨_, rfl⟩
                        have hf := pv_eq ec40 hf
                        rw [← ec40] at hP hD
                        have hP : va_P D vwCl [(h, .inr (6, [.int h_pieces, .ref h_piece, .int h_deeds, .ref h_deed, .int h_law, .ref h_st, .int h_acts, .ref h_was, .int h_keeps, .ref h_kept, .int h_seens, .ref h_seen, .ref h_text, .int h_texted, .int h_at, .ref h_told, .int h_readPieces, .ref h_readPiece, .ref h_readRoom, .int h_readDeeds, .ref h_readDeed, .int h_readCoins, .int h_readLaw, .ref h_now])), (h_st, .inl (cI, 18, .inl h_st_c)), (h_now, .inl (cI, 18, .inl c40)), (h_piece, .inl (cI, 16, .inl h_piece_c)), (h_deed, .inl (cI, 40, .inl h_deed_c))] H := hP
                        have hD : va_D A [(h, .inr (6, [.int h_pieces, .ref h_piece, .int h_deeds, .ref h_deed, .int h_law, .ref h_st, .int h_acts, .ref h_was, .int h_keeps, .ref h_kept, .int h_seens, .ref h_seen, .ref h_text, .int h_texted, .int h_at, .ref h_told, .int h_readPieces, .ref h_readPiece, .ref h_readRoom, .int h_readDeeds, .ref h_readDeed, .int h_readCoins, .int h_readLaw, .ref h_now])), (h_st, .inl (cI, 18, .inl h_st_c)), (h_now, .inl (cI, 18, .inl c40)), (h_piece, .inl (cI, 16, .inl h_piece_c)), (h_deed, .inl (cI, 40, .inl h_deed_c))] := hD
                        refine lv_aload_n hx hb dX6_sale_190 rfl (lv_at hl 4 rfl) ?_
                        refine va_get (D := D) (ci := 6) (v := .ref h_now) (C := RX6) (T := TX6) (N := 24) hx hb hts uX6_sale_X6 hown hK hP 0 rfl rfl 23 (by decide) (hts (.fieldLink RX6 43 "SpeaksForTheChairModel" "now" "[I") (List.mem_of_getElem? (i := 6) rfl)) (fun _ h9 => h9) rfl dX6_sale_191 ?_
                        refine lv_iconst (v := 0) hx hb dX6_sale_194 (by decide) ?_
                        refine lv_dup2_11 hx hb dX6_sale_195 rfl rfl ?_
                        refine va_iald hx hb hK hP 2 0 rfl rfl (okI_in (by decide)) dX6_sale_196 ?_
                        refine lv_aload_n hx hb dX6_sale_197 rfl (lv_at hl 4 rfl) ?_
                        refine va_get (D := D) (ci := 6) (v := .ref h_piece) (C := RX6) (T := TX6) (N := 24) hx hb hts uX6_sale_X6 hown hK hP 0 rfl rfl 1 (by decide) (hts (.fieldLink RX6 7 "SpeaksForTheChairModel" "piece" "[I") (List.mem_of_getElem? (i := 7) rfl)) (fun _ h9 => h9) rfl dX6_sale_198 ?_
                        refine lv_iconst (v := 2) hx hb dX6_sale_201 (by decide) ?_
                        refine lv_iload hx hb dX6_sale_202 (lv_at hl 1 rfl) ?_
                        refine lv_imul hx hb dX6_sale_204 ?_
                        refine lv_iconst (v := 1) hx hb dX6_sale_205 (by decide) ?_
                        refine lv_iadd hx hb dX6_sale_206 ?_
                        obtain ⟨g_140, hf⟩ := gu_in hf
                        refine va_iald hx hb hK hP 3 0 rfl rfl g_140 dX6_sale_207 ?_
                        refine lv_isub hx hb dX6_sale_208 ?_
                        refine va_iast hx hb hK hP hD hS 2 0 rfl rfl (okI_in (by decide)) dX6_sale_209 (fun H locs hP hD hS => ?_)
                        obtain ⟨c41, ec41⟩ : ∃ y : Nat → Int32, y = (upd c40 (0 : Int32).toNatClampNeg ((c40 (0 : Int32).toNatClampNeg) - (h_piece_c (((2 * x10) + 1) : Int32).toNatClampNeg))) := ⟨_, rfl⟩
                        have hf := pv_eq ec41 hf
                        rw [← ec41] at hP hD
                        have hP : va_P D vwCl [(h, .inr (6, [.int h_pieces, .ref h_piece, .int h_deeds, .ref h_deed, .int h_law, .ref h_st, .int h_acts, .ref h_was, .int h_keeps, .ref h_kept, .int h_seens, .ref h_seen, .ref h_text, .int h_texted, .int h_at, .ref h_told, .int h_readPieces, .ref h_readPiece, .ref h_readRoom, .int h_readDeeds, .ref h_readDeed, .int h_readCoins, .int h_readLaw, .ref h_now])), (h_st, .inl (cI, 18, .inl h_st_c)), (h_now, .inl (cI, 18, .inl c41)), (h_piece, .inl (cI, 16, .inl h_piece_c)), (h_deed, .inl (cI, 40, .inl h_deed_c))] H := hP
                        have hD : va_D A [(h, .inr (6, [.int h_pieces, .ref h_piece, .int h_deeds, .ref h_deed, .int h_law, .ref h_st, .int h_acts, .ref h_was, .int h_keeps, .ref h_kept, .int h_seens, .ref h_seen, .ref h_text, .int h_texted, .int h_at, .ref h_told, .int h_readPieces, .ref h_readPiece, .ref h_readRoom, .int h_readDeeds, .ref h_readDeed, .int h_readCoins, .int h_readLaw, .ref h_now])), (h_st, .inl (cI, 18, .inl h_st_c)), (h_now, .inl (cI, 18, .inl c41)), (h_piece, .inl (cI, 16, .inl h_piece_c)), (h_deed, .inl (cI, 40, .inl h_deed_c))] := hD
                        refine lv_goto (tgt := 249) hx hb dX6_sale_210 (by decide) ?_
                        obtain ⟨x42, ex42⟩ : ∃ y : Int32, y = (x6 + 1) := ⟨_, rfl⟩
                        have hf := pv_eq ex42 hf
                        refine lv_iinc (v := x42) (lv' := [(4, .int x42), (9, .int x11), (8, .int x10), (7, .int x9), (5, .long x8), (0, .ref h), (1, .int a1), (2, .int a2), (3, .int a3)]) hx hb dX6_sale_249 hl (k := 8) rfl (by rw [ex42]; rfl) (by decide) rfl (fun ls hl => ?_)
                        refine lv_goto (tgt := 39) hx hb dX6_sale_252 (by decide) ?_
                        exact ih _ _ _ _ hP hD hS ls (lv_sub hl [5, 6, 7, 8, 0] rfl) _ hf KX
                · have hf := im c_121 hf
                  refine lv_aload_n hx hb dX6_sale_111 rfl (lv_at hl 4 rfl) ?_
                  refine va_get (D := D) (ci := 6) (v := .ref h_now) (C := RX6) (T := TX6) (N := 24) hx hb hts uX6_sale_X6 hown hK hP 0 rfl rfl 23 (by decide) (hts (.fieldLink RX6 43 "SpeaksForTheChairModel" "now" "[I") (List.mem_of_getElem? (i := 6) rfl)) (fun _ h9 => h9) rfl dX6_sale_112 ?_
                  refine lv_iconst (v := 1) hx hb dX6_sale_115 (by decide) ?_
                  refine lv_dup2_11 hx hb dX6_sale_116 rfl rfl ?_
                  refine va_iald hx hb hK hP 2 0 rfl rfl (okI_in (by decide)) dX6_sale_117 ?_
                  refine lv_aload_n hx hb dX6_sale_118 rfl (lv_at hl 4 rfl) ?_
                  refine lv_iload hx hb dX6_sale_119 (lv_at hl 1 rfl) ?_
                  obtain ⟨x43, hv_141, hf⟩ := ob1_some hf
                  refine q_rVi (As := [.int x10]) (rest := [.int (c5 (1 : Int32).toNatClampNeg), .int 1, .ref h_now]) (r := x43) ⟨hx, hb, hml, hown, hts⟩ (c_X6_toldBy l D cI cC cL cB h h_piece h_deed h_st h_was h_kept h_seen h_text h_told h_readPiece h_readRoom h_readDeed h_now x10 h_pieces h_deeds h_law h_acts h_keeps h_seens h_texted h_at h_readPieces h_readDeeds h_readCoins h_readLaw h_deed_c c5 h_piece_c x43 hv_141) (cwV 1 hts gX6_sale_X6_toldBy rfl rfl rfl (by decide +kernel) ⟨Nat.le_of_ble_eq_true rfl, Nat.le_of_ble_eq_true rfl⟩) hK hP [0, 4, 2, 3] rfl (va_recv hK hP (ci := 6) (q0 := 0) rfl rfl) rfl hl.1 rfl (Nat.le_of_ble_eq_true rfl) dX6_sale_121 ⟨Nat.le_of_ble_eq_true rfl, Nat.le_of_ble_eq_true rfl⟩ ?_
                  refine lv_ior hx hb dX6_sale_124 ?_
                  refine va_iast hx hb hK hP hD hS 2 0 rfl rfl (okI_in (by decide)) dX6_sale_125 (fun H locs hP hD hS => ?_)
                  obtain ⟨c44, ec44⟩ : ∃ y : Nat → Int32, y = (upd c5 (1 : Int32).toNatClampNeg ((c5 (1 : Int32).toNatClampNeg) ||| x43)) := ⟨_, rfl⟩
                  have hf := pv_eq ec44 hf
                  rw [← ec44] at hP hD
                  have hP : va_P D vwCl [(h, .inr (6, [.int h_pieces, .ref h_piece, .int h_deeds, .ref h_deed, .int h_law, .ref h_st, .int h_acts, .ref h_was, .int h_keeps, .ref h_kept, .int h_seens, .ref h_seen, .ref h_text, .int h_texted, .int h_at, .ref h_told, .int h_readPieces, .ref h_readPiece, .ref h_readRoom, .int h_readDeeds, .ref h_readDeed, .int h_readCoins, .int h_readLaw, .ref h_now])), (h_st, .inl (cI, 18, .inl h_st_c)), (h_now, .inl (cI, 18, .inl c44)), (h_piece, .inl (cI, 16, .inl h_piece_c)), (h_deed, .inl (cI, 40, .inl h_deed_c))] H := hP
                  have hD : va_D A [(h, .inr (6, [.int h_pieces, .ref h_piece, .int h_deeds, .ref h_deed, .int h_law, .ref h_st, .int h_acts, .ref h_was, .int h_keeps, .ref h_kept, .int h_seens, .ref h_seen, .ref h_text, .int h_texted, .int h_at, .ref h_told, .int h_readPieces, .ref h_readPiece, .ref h_readRoom, .int h_readDeeds, .ref h_readDeed, .int h_readCoins, .int h_readLaw, .ref h_now])), (h_st, .inl (cI, 18, .inl h_st_c)), (h_now, .inl (cI, 18, .inl c44)), (h_piece, .inl (cI, 16, .inl h_piece_c)), (h_deed, .inl (cI, 40, .inl h_deed_c))] := hD
                  refine lv_aload_n hx hb dX6_sale_126 rfl (lv_at hl 4 rfl) ?_
                  refine va_get (D := D) (ci := 6) (v := .ref h_now) (C := RX6) (T := TX6) (N := 24) hx hb hts uX6_sale_X6 hown hK hP 0 rfl rfl 23 (by decide) (hts (.fieldLink RX6 43 "SpeaksForTheChairModel" "now" "[I") (List.mem_of_getElem? (i := 6) rfl)) (fun _ h9 => h9) rfl dX6_sale_127 ?_
                  refine lv_bipush (v := 10) hx hb dX6_sale_130 (by decide) ?_
                  refine lv_iload hx hb dX6_sale_132 (lv_at hl 1 rfl) ?_
                  refine lv_iadd hx hb dX6_sale_134 ?_
                  refine lv_iconst (v := 2) hx hb dX6_sale_135 (by decide) ?_
                  obtain ⟨g_142, hf⟩ := gu_in hf
                  refine va_iast hx hb hK hP hD hS 2 0 rfl rfl g_142 dX6_sale_136 (fun H locs hP hD hS => ?_)
                  obtain ⟨c45, ec45⟩ : ∃ y : Nat → Int32, y = (upd c44 ((10 + x10) : Int32).toNatClampNeg 2) := ⟨_, rfl⟩
                  have hf := pv_eq ec45 hf
                  rw [← ec45] at hP hD
                  have hP : va_P D vwCl [(h, .inr (6, [.int h_pieces, .ref h_piece, .int h_deeds, .ref h_deed, .int h_law, .ref h_st, .int h_acts, .ref h_was, .int h_keeps, .ref h_kept, .int h_seens, .ref h_seen, .ref h_text, .int h_texted, .int h_at, .ref h_told, .int h_readPieces, .ref h_readPiece, .ref h_readRoom, .int h_readDeeds, .ref h_readDeed, .int h_readCoins, .int h_readLaw, .ref h_now])), (h_st, .inl (cI, 18, .inl h_st_c)), (h_now, .inl (cI, 18, .inl c45)), (h_piece, .inl (cI, 16, .inl h_piece_c)), (h_deed, .inl (cI, 40, .inl h_deed_c))] H := hP
                  have hD : va_D A [(h, .inr (6, [.int h_pieces, .ref h_piece, .int h_deeds, .ref h_deed, .int h_law, .ref h_st, .int h_acts, .ref h_was, .int h_keeps, .ref h_kept, .int h_seens, .ref h_seen, .ref h_text, .int h_texted, .int h_at, .ref h_told, .int h_readPieces, .ref h_readPiece, .ref h_readRoom, .int h_readDeeds, .ref h_readDeed, .int h_readCoins, .int h_readLaw, .ref h_now])), (h_st, .inl (cI, 18, .inl h_st_c)), (h_now, .inl (cI, 18, .inl c45)), (h_piece, .inl (cI, 16, .inl h_piece_c)), (h_deed, .inl (cI, 40, .inl h_deed_c))] := hD
                  refine lv_goto (tgt := 249) hx hb dX6_sale_137 (by decide) ?_
                  obtain ⟨x46, ex46⟩ : ∃ y : Int32, y = (x6 + 1) := ⟨_, rfl⟩
                  have hf := pv_eq ex46 hf
                  refine lv_iinc (v := x46) (lv' := [(4, .int x46), (9, .int x11), (8, .int x10), (7, .int x9), (5, .long x8), (0, .ref h), (1, .int a1), (2, .int a2), (3, .int a3)]) hx hb dX6_sale_249 hl (k := 8) rfl (by rw [ex46]; rfl) (by decide) rfl (fun ls hl => ?_)
                  refine lv_goto (tgt := 39) hx hb dX6_sale_252 (by decide) ?_
                  exact ih _ _ _ _ hP hD hS ls (lv_sub hl [5, 6, 7, 8, 0] rfl) _ hf KX
        obtain ⟨c7, hr39, hf⟩ := ob1_some hf
        refine loop39 300 _ _ _ _ hP hD hS ls (lv_sub hl [1, 2, 3, 4, 0] rfl) _ hr39 (fun H locs hP hD hS ls hl => ?_)
        refine lv_iload_n hx hb dX6_sale_255 rfl (lv_at hl 1 rfl) ?_
        refine lv_if_ne (tgt := 268) hx hb dX6_sale_256 (by decide) (fun c_143 => ?_) (fun c_143 => ?_)
        · have hf := im c_143 hf
          refine lv_aload_n hx hb dX6_sale_268 rfl (lv_at hl 0 rfl) ?_
          refine va_get (D := D) (ci := 6) (v := .ref h_now) (C := RX6) (T := TX6) (N := 24) hx hb hts uX6_sale_X6 hown hK hP 0 rfl rfl 23 (by decide) (hts (.fieldLink RX6 43 "SpeaksForTheChairModel" "now" "[I") (List.mem_of_getElem? (i := 6) rfl)) (fun _ h9 => h9) rfl dX6_sale_269 ?_
          refine lv_iconst (v := 0) hx hb dX6_sale_272 (by decide) ?_
          refine va_iald hx hb hK hP 2 0 rfl rfl (okI_in (by decide)) dX6_sale_273 ?_
          cases hf
          exact W.iret hx hb hr (fun t ht hW => ⟨⟨_, (), rfl, rfl, by rw [ht]; exact hP, va_K.moved hW.alike hK, hD⟩, hS.F ht⟩) hS.2.2 dX6_sale_274
        · have hf := ip c_143 hf
          refine lv_aload_n hx hb dX6_sale_259 rfl (lv_at hl 0 rfl) ?_
          refine va_get (D := D) (ci := 6) (v := .ref h_now) (C := RX6) (T := TX6) (N := 24) hx hb hts uX6_sale_X6 hown hK hP 0 rfl rfl 23 (by decide) (hts (.fieldLink RX6 43 "SpeaksForTheChairModel" "now" "[I") (List.mem_of_getElem? (i := 6) rfl)) (fun _ h9 => h9) rfl dX6_sale_260 ?_
          refine lv_iconst (v := 1) hx hb dX6_sale_263 (by decide) ?_
          refine va_iald hx hb hK hP 2 0 rfl rfl (okI_in (by decide)) dX6_sale_264 ?_
          refine lv_goto (tgt := 274) hx hb dX6_sale_265 (by decide) ?_
          cases hf
          exact W.iret hx hb hr (fun t ht hW => ⟨⟨_, (), rfl, rfl, by rw [ht]; exact hP, va_K.moved hW.alike hK, hD⟩, hS.F ht⟩) hS.2.2 dX6_sale_274
      · have hf := ip c_6 hf
        refine lv_iconst (v := (-1)) hx hb dX6_sale_30 (by decide) ?_
        cases hf
        exact W.iret hx hb hr (fun t ht hW => ⟨⟨_, (), rfl, rfl, by rw [ht]; exact hP, va_K.moved hW.alike hK, hD⟩, hS.F ht⟩) hS.2.2 dX6_sale_31
theorem uX6_keep_X6 : ∀ w ∈ wsX60, w ∈ wsX6_keep := fun w h => List.mem_cons_of_mem _ (List.mem_append_right _ h)
set_option maxHeartbeats 4000000 in
set_option maxRecDepth 100000 in
theorem c_X6_keep (l : Launch) (D : va_G) (cI cC cL cB : ClassId) (sz : Nat) (h : Nat) (h_piece : Nat) (h_deed : Nat) (h_st : Nat) (h_was : Nat) (h_kept : Nat) (h_seen : Nat) (h_text : Nat) (h_told : Nat) (h_readPiece : Nat) (h_readRoom : Nat) (h_readDeed : Nat) (h_now : Nat) (h_pieces : Int32) (h_deeds : Int32) (h_law : Int32) (h_acts : Int32) (h_keeps : Int32) (h_seens : Int32) (h_texted : Int32) (h_at : Int32) (h_readPieces : Int32) (h_readDeeds : Int32) (h_readCoins : Int32) (h_readLaw : Int32) (h_st_c : Nat → Int32) (h_kept_c : Nat → Int32) (r : Int32) (o0 : Int32) (o1 : Nat → Int32) (hf : m_X6_keep h_keeps h_st_c h_kept_c = some (r, o0, o1)) : Met l yX6_keep wsX6_keep ({ frames := 1, cells := 0, slots := 0, locals := 25 }) (va_Pc [.ref h] (q_W D vwCl (tyL cI cC cL cB) [(h, .inr (6, [.int h_pieces, .ref h_piece, .int h_deeds, .ref h_deed, .int h_law, .ref h_st, .int h_acts, .ref h_was, .int h_keeps, .ref h_kept, .int h_seens, .ref h_seen, .ref h_text, .int h_texted, .int h_at, .ref h_told, .int h_readPieces, .ref h_readPiece, .ref h_readRoom, .int h_readDeeds, .ref h_readDeed, .int h_readCoins, .int h_readLaw, .ref h_now])), (h_st, .inl (cI, 18, .inl h_st_c)), (h_kept, .inl (cI, 36, .inl h_kept_c))] sz)) (va_Qi (fun r' _ => r' = r) (q_E D vwCl (tyL cI cC cL cB) (va_A [(h, .inr (6, [.int h_pieces, .ref h_piece, .int h_deeds, .ref h_deed, .int h_law, .ref h_st, .int h_acts, .ref h_was, .int h_keeps, .ref h_kept, .int h_seens, .ref h_seen, .ref h_text, .int h_texted, .int h_at, .ref h_told, .int h_readPieces, .ref h_readPiece, .ref h_readRoom, .int h_readDeeds, .ref h_readDeed, .int h_readCoins, .int h_readLaw, .ref h_now])), (h_st, .inl (cI, 18, .inl h_st_c)), (h_kept, .inl (cI, 36, .inl h_kept_c))] sz) [(h, .inr (6, [.int h_pieces, .ref h_piece, .int h_deeds, .ref h_deed, .int h_law, .ref h_st, .int h_acts, .ref h_was, .int o0, .ref h_kept, .int h_seens, .ref h_seen, .ref h_text, .int h_texted, .int h_at, .ref h_told, .int h_readPieces, .ref h_readPiece, .ref h_readRoom, .int h_readDeeds, .ref h_readDeed, .int h_readCoins, .int h_readLaw, .ref h_now])), (h_st, .inl (cI, 18, .inl h_st_c)), (h_kept, .inl (cI, 36, .inl o1))]) (va_A [(h, .inr (6, [.int h_pieces, .ref h_piece, .int h_deeds, .ref h_deed, .int h_law, .ref h_st, .int h_acts, .ref h_was, .int h_keeps, .ref h_kept, .int h_seens, .ref h_seen, .ref h_text, .int h_texted, .int h_at, .ref h_told, .int h_readPieces, .ref h_readPiece, .ref h_readRoom, .int h_readDeeds, .ref h_readDeed, .int h_readCoins, .int h_readLaw, .ref h_now])), (h_st, .inl (cI, 18, .inl h_st_c)), (h_kept, .inl (cI, 36, .inl h_kept_c))] sz)) 0 0 (va_A [(h, .inr (6, [.int h_pieces, .ref h_piece, .int h_deeds, .ref h_deed, .int h_law, .ref h_st, .int h_acts, .ref h_was, .int h_keeps, .ref h_kept, .int h_seens, .ref h_seen, .ref h_text, .int h_texted, .int h_at, .ref h_told, .int h_readPieces, .ref h_readPiece, .ref h_readRoom, .int h_readDeeds, .ref h_readDeed, .int h_readCoins, .int h_readLaw, .ref h_now])), (h_st, .inl (cI, 18, .inl h_st_c)), (h_kept, .inl (cI, 36, .inl h_kept_c))] sz) := by
  refine Met.ofW (cc := cX6_keep) (maxL := 1) (ret := (some .int)) (by decide) rfl ?_
  intro p e s m args below meth c s₁ B hml hv
  obtain ⟨rfl, hsz, hP, hK, hD0⟩ := hv
  have hx := B.exec
  have hb := B.bytes
  have hr := B.returns
  have hts := atoms_spec (ws := wsX6_keep) B.pre
  have hown : s.vm.findClass RX6 = some m.cls := findClass_of_methodNamed B.named
  have hlocks := B.notSynchronized
  subst hsz
  have hD := hD0.self (sz := s.heap.size)
  generalize hAe : va_A [(h, .inr (6, [.int h_pieces, .ref h_piece, .int h_deeds, .ref h_deed, .int h_law, .ref h_st, .int h_acts, .ref h_was, .int h_keeps, .ref h_kept, .int h_seens, .ref h_seen, .ref h_text, .int h_texted, .int h_at, .ref h_told, .int h_readPieces, .ref h_readPiece, .ref h_readRoom, .int h_readDeeds, .ref h_readDeed, .int h_readCoins, .int h_readLaw, .ref h_now])), (h_st, .inl (cI, 18, .inl h_st_c)), (h_kept, .inl (cI, 36, .inl h_kept_c))] s.heap.size = A at hD ⊢
  have hA : ∀ q : Nat, s.heap.size ≤ q → A q := fun q h => by rw [← hAe]; exact Or.inr h
  have hS : va_S A s.heap s.heap [] := va_S.rf
  have hP : va_P D vwCl [(h, .inr (6, [.int h_pieces, .ref h_piece, .int h_deeds, .ref h_deed, .int h_law, .ref h_st, .int h_acts, .ref h_was, .int h_keeps, .ref h_kept, .int h_seens, .ref h_seen, .ref h_text, .int h_texted, .int h_at, .ref h_told, .int h_readPieces, .ref h_readPiece, .ref h_readRoom, .int h_readDeeds, .ref h_readDeed, .int h_readCoins, .int h_readLaw, .ref h_now])), (h_st, .inl (cI, 18, .inl h_st_c)), (h_kept, .inl (cI, 36, .inl h_kept_c))] s.heap := hP
  have hl := lv_entry ([.ref h]) (n := 1) (Nat.le_of_ble_eq_true rfl)
  rw [lg_entry_eq]
  generalize (lg_sl ([.ref h]) ++ List.replicate (1 - (lg_sl ([.ref h])).length) Slot.unset).toArray = ls at hl ⊢
  have hl : lv_has ls 1 [(0, .ref h)] := hl
  unfold m_X6_keep at hf
  refine lv_aload_n hx hb dX6_keep_0 rfl (lv_at hl 0 rfl) ?_
  refine va_get (D := D) (ci := 6) (v := .int h_keeps) (C := RX6) (T := TX6) (N := 24) hx hb hts uX6_keep_X6 hown hK hP 0 rfl rfl 8 (by decide) (hts (.fieldLink RX6 133 "SpeaksForTheChairModel" "keeps" "I") (List.mem_of_getElem? (i := 1) rfl)) (fun _ h9 => h9) rfl dX6_keep_1 ?_
  refine lv_iconst (v := 2) hx hb dX6_keep_4 (by decide) ?_
  refine lv_icmp_ne (tgt := 11) hx hb dX6_keep_5 (by decide) (fun c_1 => ?_) (fun c_1 => ?_)
  · have hf := im c_1 hf
    refine lv_aload_n hx hb dX6_keep_11 rfl (lv_at hl 0 rfl) ?_
    refine va_get (D := D) (ci := 6) (v := .ref h_kept) (C := RX6) (T := TX6) (N := 24) hx hb hts uX6_keep_X6 hown hK hP 0 rfl rfl 9 (by decide) (hts (.fieldLink RX6 22 "SpeaksForTheChairModel" "kept" "[I") (List.mem_of_getElem? (i := 2) rfl)) (fun _ h9 => h9) rfl dX6_keep_12 ?_
    refine lv_bipush (v := 18) hx hb dX6_keep_15 (by decide) ?_
    refine lv_aload_n hx hb dX6_keep_17 rfl (lv_at hl 0 rfl) ?_
    refine va_get (D := D) (ci := 6) (v := .int h_keeps) (C := RX6) (T := TX6) (N := 24) hx hb hts uX6_keep_X6 hown hK hP 0 rfl rfl 8 (by decide) (hts (.fieldLink RX6 133 "SpeaksForTheChairModel" "keeps" "I") (List.mem_of_getElem? (i := 1) rfl)) (fun _ h9 => h9) rfl dX6_keep_18 ?_
    refine lv_imul hx hb dX6_keep_21 ?_
    refine lv_aload_n hx hb dX6_keep_22 rfl (lv_at hl 0 rfl) ?_
    refine va_get (D := D) (ci := 6) (v := .ref h_st) (C := RX6) (T := TX6) (N := 24) hx hb hts uX6_keep_X6 hown hK hP 0 rfl rfl 5 (by decide) (hts (.fieldLink RX6 16 "SpeaksForTheChairModel" "st" "[I") (List.mem_of_getElem? (i := 3) rfl)) (fun _ h9 => h9) rfl dX6_keep_23 ?_
    refine lv_iconst (v := 0) hx hb dX6_keep_26 (by decide) ?_
    refine lv_bipush (v := 18) hx hb dX6_keep_27 (by decide) ?_
    obtain ⟨c1, hv_2, hf⟩ := ob1_some hf
    refine q_wSv (As := [.ref h_kept, .int (18 * h_keeps), .ref h_st, .int 0, .int 18]) (rest := []) (w1 := [(h_st, .inl (cI, 18, .inl h_st_c)), (h_kept, .inl (cI, 36, .inl c1))]) (wr := [(h, .inr (6, [.int h_pieces, .ref h_piece, .int h_deeds, .ref h_deed, .int h_law, .ref h_st, .int h_acts, .ref h_was, .int h_keeps, .ref h_kept, .int h_seens, .ref h_seen, .ref h_text, .int h_texted, .int h_at, .ref h_told, .int h_readPieces, .ref h_readPiece, .ref h_readRoom, .int h_readDeeds, .ref h_readDeed, .int h_readCoins, .int h_readLaw, .ref h_now]))]) (w2 := [(h, .inr (6, [.int h_pieces, .ref h_piece, .int h_deeds, .ref h_deed, .int h_law, .ref h_st, .int h_acts, .ref h_was, .int h_keeps, .ref h_kept, .int h_seens, .ref h_seen, .ref h_text, .int h_texted, .int h_at, .ref h_told, .int h_readPieces, .ref h_readPiece, .ref h_readRoom, .int h_readDeeds, .ref h_readDeed, .int h_readCoins, .int h_readLaw, .ref h_now])), (h_st, .inl (cI, 18, .inl h_st_c)), (h_kept, .inl (cI, 36, .inl c1))]) ⟨hx, hb, hml, hown, hts⟩ (c_X6_copies l D cI cC cL cB s.heap.size h_kept h_st ((18 * h_keeps)) ((0 : Int32)) ((18 : Int32)) ((18 : Nat)) h_st_c ((36 : Nat)) h_kept_c c1 hv_2) (va_cwS 5 hts gX6_keep_X6_copies rfl rfl rfl (by decide +kernel) ⟨Nat.le_of_ble_eq_true rfl, Nat.le_of_ble_eq_true rfl⟩) hK hP hD hS hA [1, 2] rfl (by decide) [0] rfl (by decide) (by decide) [0, 1, 2] rfl (by decide) rfl hl.1 rfl (Nat.le_of_ble_eq_true rfl) dX6_keep_29 ⟨Nat.le_of_ble_eq_true rfl, Nat.le_of_ble_eq_true rfl⟩ (fun H locs hP hD hS => ?_)
    have hP : va_P D vwCl [(h, .inr (6, [.int h_pieces, .ref h_piece, .int h_deeds, .ref h_deed, .int h_law, .ref h_st, .int h_acts, .ref h_was, .int h_keeps, .ref h_kept, .int h_seens, .ref h_seen, .ref h_text, .int h_texted, .int h_at, .ref h_told, .int h_readPieces, .ref h_readPiece, .ref h_readRoom, .int h_readDeeds, .ref h_readDeed, .int h_readCoins, .int h_readLaw, .ref h_now])), (h_st, .inl (cI, 18, .inl h_st_c)), (h_kept, .inl (cI, 36, .inl c1))] H := hP
    have hD : va_D A [(h, .inr (6, [.int h_pieces, .ref h_piece, .int h_deeds, .ref h_deed, .int h_law, .ref h_st, .int h_acts, .ref h_was, .int h_keeps, .ref h_kept, .int h_seens, .ref h_seen, .ref h_text, .int h_texted, .int h_at, .ref h_told, .int h_readPieces, .ref h_readPiece, .ref h_readRoom, .int h_readDeeds, .ref h_readDeed, .int h_readCoins, .int h_readLaw, .ref h_now])), (h_st, .inl (cI, 18, .inl h_st_c)), (h_kept, .inl (cI, 36, .inl c1))] := hD
    refine lv_aload_n hx hb dX6_keep_32 rfl (lv_at hl 0 rfl) ?_
    refine lv_dup hx hb dX6_keep_33 rfl ?_
    refine va_get (D := D) (ci := 6) (v := .int h_keeps) (C := RX6) (T := TX6) (N := 24) hx hb hts uX6_keep_X6 hown hK hP 0 rfl rfl 8 (by decide) (hts (.fieldLink RX6 133 "SpeaksForTheChairModel" "keeps" "I") (List.mem_of_getElem? (i := 1) rfl)) (fun _ h9 => h9) rfl dX6_keep_34 ?_
    refine lv_iconst (v := 1) hx hb dX6_keep_37 (by decide) ?_
    refine lv_iadd hx hb dX6_keep_38 ?_
    refine lv_topi (fun f2 ef2 => ?_)
    have hf := pv_eq ef2 hf
    refine va_put (D := D) (ci := 6) (v := .int f2) (ty := .int) (C := RX6) (T := TX6) (N := 24) hx hb hts uX6_keep_X6 tyX6 tyX6_ok nmX6 hown hK hP hD hS 0 rfl rfl 8 (by decide) (hts (.fieldLink RX6 133 "SpeaksForTheChairModel" "keeps" "I") (List.mem_of_getElem? (i := 1) rfl)) (fun _ h9 => h9) rfl (by decide +kernel) rfl rfl (Nat.le_of_ble_eq_true rfl) dX6_keep_39 (fun H locs hP hD hS => ?_)
    have hP : va_P D vwCl [(h, .inr (6, [.int h_pieces, .ref h_piece, .int h_deeds, .ref h_deed, .int h_law, .ref h_st, .int h_acts, .ref h_was, .int f2, .ref h_kept, .int h_seens, .ref h_seen, .ref h_text, .int h_texted, .int h_at, .ref h_told, .int h_readPieces, .ref h_readPiece, .ref h_readRoom, .int h_readDeeds, .ref h_readDeed, .int h_readCoins, .int h_readLaw, .ref h_now])), (h_st, .inl (cI, 18, .inl h_st_c)), (h_kept, .inl (cI, 36, .inl c1))] H := hP
    have hD : va_D A [(h, .inr (6, [.int h_pieces, .ref h_piece, .int h_deeds, .ref h_deed, .int h_law, .ref h_st, .int h_acts, .ref h_was, .int f2, .ref h_kept, .int h_seens, .ref h_seen, .ref h_text, .int h_texted, .int h_at, .ref h_told, .int h_readPieces, .ref h_readPiece, .ref h_readRoom, .int h_readDeeds, .ref h_readDeed, .int h_readCoins, .int h_readLaw, .ref h_now])), (h_st, .inl (cI, 18, .inl h_st_c)), (h_kept, .inl (cI, 36, .inl c1))] := hD
    refine lv_aload_n hx hb dX6_keep_42 rfl (lv_at hl 0 rfl) ?_
    refine va_get (D := D) (ci := 6) (v := .int f2) (C := RX6) (T := TX6) (N := 24) hx hb hts uX6_keep_X6 hown hK hP 0 rfl rfl 8 (by decide) (hts (.fieldLink RX6 133 "SpeaksForTheChairModel" "keeps" "I") (List.mem_of_getElem? (i := 1) rfl)) (fun _ h9 => h9) rfl dX6_keep_43 ?_
    cases hf
    exact W.iret hx hb hr (fun t ht hW => ⟨⟨_, (), rfl, rfl, by rw [ht]; exact hP, va_K.moved hW.alike hK, hD⟩, hS.F ht⟩) hS.2.2 dX6_keep_46
  · have hf := ip c_1 hf
    refine lv_bipush (v := (-3)) hx hb dX6_keep_8 (by decide) ?_
    cases hf
    exact W.iret hx hb hr (fun t ht hW => ⟨⟨_, (), rfl, rfl, by rw [ht]; exact hP, va_K.moved hW.alike hK, hD⟩, hS.F ht⟩) hS.2.2 dX6_keep_10
theorem uX6_back_X6 : ∀ w ∈ wsX60, w ∈ wsX6_back := fun w h => List.mem_cons_of_mem _ (List.mem_append_right _ h)
set_option maxHeartbeats 4000000 in
set_option maxRecDepth 100000 in
theorem c_X6_back (l : Launch) (D : va_G) (cI cC cL cB : ClassId) (sz : Nat) (h : Nat) (h_piece : Nat) (h_deed : Nat) (h_st : Nat) (h_was : Nat) (h_kept : Nat) (h_seen : Nat) (h_text : Nat) (h_told : Nat) (h_readPiece : Nat) (h_readRoom : Nat) (h_readDeed : Nat) (h_now : Nat) (h_pieces : Int32) (h_deeds : Int32) (h_law : Int32) (h_acts : Int32) (h_keeps : Int32) (h_seens : Int32) (h_texted : Int32) (h_at : Int32) (h_readPieces : Int32) (h_readDeeds : Int32) (h_readCoins : Int32) (h_readLaw : Int32) (h_kept_c : Nat → Int32) (h_st_c : Nat → Int32) (r : Int32) (o0 : Int32) (o1 : Int32) (o2 : Nat → Int32) (hf : m_X6_back h_acts h_keeps h_kept_c h_st_c = some (r, o0, o1, o2)) : Met l yX6_back wsX6_back ({ frames := 1, cells := 0, slots := 0, locals := 25 }) (va_Pc [.ref h] (q_W D vwCl (tyL cI cC cL cB) [(h, .inr (6, [.int h_pieces, .ref h_piece, .int h_deeds, .ref h_deed, .int h_law, .ref h_st, .int h_acts, .ref h_was, .int h_keeps, .ref h_kept, .int h_seens, .ref h_seen, .ref h_text, .int h_texted, .int h_at, .ref h_told, .int h_readPieces, .ref h_readPiece, .ref h_readRoom, .int h_readDeeds, .ref h_readDeed, .int h_readCoins, .int h_readLaw, .ref h_now])), (h_kept, .inl (cI, 36, .inl h_kept_c)), (h_st, .inl (cI, 18, .inl h_st_c))] sz)) (va_Qi (fun r' _ => r' = r) (q_E D vwCl (tyL cI cC cL cB) (va_A [(h, .inr (6, [.int h_pieces, .ref h_piece, .int h_deeds, .ref h_deed, .int h_law, .ref h_st, .int h_acts, .ref h_was, .int h_keeps, .ref h_kept, .int h_seens, .ref h_seen, .ref h_text, .int h_texted, .int h_at, .ref h_told, .int h_readPieces, .ref h_readPiece, .ref h_readRoom, .int h_readDeeds, .ref h_readDeed, .int h_readCoins, .int h_readLaw, .ref h_now])), (h_kept, .inl (cI, 36, .inl h_kept_c)), (h_st, .inl (cI, 18, .inl h_st_c))] sz) [(h, .inr (6, [.int h_pieces, .ref h_piece, .int h_deeds, .ref h_deed, .int h_law, .ref h_st, .int o0, .ref h_was, .int o1, .ref h_kept, .int h_seens, .ref h_seen, .ref h_text, .int h_texted, .int h_at, .ref h_told, .int h_readPieces, .ref h_readPiece, .ref h_readRoom, .int h_readDeeds, .ref h_readDeed, .int h_readCoins, .int h_readLaw, .ref h_now])), (h_kept, .inl (cI, 36, .inl h_kept_c)), (h_st, .inl (cI, 18, .inl o2))]) (va_A [(h, .inr (6, [.int h_pieces, .ref h_piece, .int h_deeds, .ref h_deed, .int h_law, .ref h_st, .int h_acts, .ref h_was, .int h_keeps, .ref h_kept, .int h_seens, .ref h_seen, .ref h_text, .int h_texted, .int h_at, .ref h_told, .int h_readPieces, .ref h_readPiece, .ref h_readRoom, .int h_readDeeds, .ref h_readDeed, .int h_readCoins, .int h_readLaw, .ref h_now])), (h_kept, .inl (cI, 36, .inl h_kept_c)), (h_st, .inl (cI, 18, .inl h_st_c))] sz)) 0 0 (va_A [(h, .inr (6, [.int h_pieces, .ref h_piece, .int h_deeds, .ref h_deed, .int h_law, .ref h_st, .int h_acts, .ref h_was, .int h_keeps, .ref h_kept, .int h_seens, .ref h_seen, .ref h_text, .int h_texted, .int h_at, .ref h_told, .int h_readPieces, .ref h_readPiece, .ref h_readRoom, .int h_readDeeds, .ref h_readDeed, .int h_readCoins, .int h_readLaw, .ref h_now])), (h_kept, .inl (cI, 36, .inl h_kept_c)), (h_st, .inl (cI, 18, .inl h_st_c))] sz) := by
  refine Met.ofW (cc := cX6_back) (maxL := 1) (ret := (some .int)) (by decide) rfl ?_
  intro p e s m args below meth c s₁ B hml hv
  obtain ⟨rfl, hsz, hP, hK, hD0⟩ := hv
  have hx := B.exec
  have hb := B.bytes
  have hr := B.returns
  have hts := atoms_spec (ws := wsX6_back) B.pre
  have hown : s.vm.findClass RX6 = some m.cls := findClass_of_methodNamed B.named
  have hlocks := B.notSynchronized
  subst hsz
  have hD := hD0.self (sz := s.heap.size)
  generalize hAe : va_A [(h, .inr (6, [.int h_pieces, .ref h_piece, .int h_deeds, .ref h_deed, .int h_law, .ref h_st, .int h_acts, .ref h_was, .int h_keeps, .ref h_kept, .int h_seens, .ref h_seen, .ref h_text, .int h_texted, .int h_at, .ref h_told, .int h_readPieces, .ref h_readPiece, .ref h_readRoom, .int h_readDeeds, .ref h_readDeed, .int h_readCoins, .int h_readLaw, .ref h_now])), (h_kept, .inl (cI, 36, .inl h_kept_c)), (h_st, .inl (cI, 18, .inl h_st_c))] s.heap.size = A at hD ⊢
  have hA : ∀ q : Nat, s.heap.size ≤ q → A q := fun q h => by rw [← hAe]; exact Or.inr h
  have hS : va_S A s.heap s.heap [] := va_S.rf
  have hP : va_P D vwCl [(h, .inr (6, [.int h_pieces, .ref h_piece, .int h_deeds, .ref h_deed, .int h_law, .ref h_st, .int h_acts, .ref h_was, .int h_keeps, .ref h_kept, .int h_seens, .ref h_seen, .ref h_text, .int h_texted, .int h_at, .ref h_told, .int h_readPieces, .ref h_readPiece, .ref h_readRoom, .int h_readDeeds, .ref h_readDeed, .int h_readCoins, .int h_readLaw, .ref h_now])), (h_kept, .inl (cI, 36, .inl h_kept_c)), (h_st, .inl (cI, 18, .inl h_st_c))] s.heap := hP
  have hl := lv_entry ([.ref h]) (n := 1) (Nat.le_of_ble_eq_true rfl)
  rw [lg_entry_eq]
  generalize (lg_sl ([.ref h]) ++ List.replicate (1 - (lg_sl ([.ref h])).length) Slot.unset).toArray = ls at hl ⊢
  have hl : lv_has ls 1 [(0, .ref h)] := hl
  unfold m_X6_back at hf
  refine lv_aload_n hx hb dX6_back_0 rfl (lv_at hl 0 rfl) ?_
  refine va_get (D := D) (ci := 6) (v := .int h_keeps) (C := RX6) (T := TX6) (N := 24) hx hb hts uX6_back_X6 hown hK hP 0 rfl rfl 8 (by decide) (hts (.fieldLink RX6 133 "SpeaksForTheChairModel" "keeps" "I") (List.mem_of_getElem? (i := 1) rfl)) (fun _ h9 => h9) rfl dX6_back_1 ?_
  refine lv_if_ne (tgt := 10) hx hb dX6_back_4 (by decide) (fun c_1 => ?_) (fun c_1 => ?_)
  · have hf := im c_1 hf
    refine lv_aload_n hx hb dX6_back_10 rfl (lv_at hl 0 rfl) ?_
    refine lv_dup hx hb dX6_back_11 rfl ?_
    refine va_get (D := D) (ci := 6) (v := .int h_keeps) (C := RX6) (T := TX6) (N := 24) hx hb hts uX6_back_X6 hown hK hP 0 rfl rfl 8 (by decide) (hts (.fieldLink RX6 133 "SpeaksForTheChairModel" "keeps" "I") (List.mem_of_getElem? (i := 1) rfl)) (fun _ h9 => h9) rfl dX6_back_12 ?_
    refine lv_iconst (v := 1) hx hb dX6_back_15 (by decide) ?_
    refine lv_isub hx hb dX6_back_16 ?_
    refine lv_topi (fun f1 ef1 => ?_)
    have hf := pv_eq ef1 hf
    refine va_put (D := D) (ci := 6) (v := .int f1) (ty := .int) (C := RX6) (T := TX6) (N := 24) hx hb hts uX6_back_X6 tyX6 tyX6_ok nmX6 hown hK hP hD hS 0 rfl rfl 8 (by decide) (hts (.fieldLink RX6 133 "SpeaksForTheChairModel" "keeps" "I") (List.mem_of_getElem? (i := 1) rfl)) (fun _ h9 => h9) rfl (by decide +kernel) rfl rfl (Nat.le_of_ble_eq_true rfl) dX6_back_17 (fun H locs hP hD hS => ?_)
    have hP : va_P D vwCl [(h, .inr (6, [.int h_pieces, .ref h_piece, .int h_deeds, .ref h_deed, .int h_law, .ref h_st, .int h_acts, .ref h_was, .int f1, .ref h_kept, .int h_seens, .ref h_seen, .ref h_text, .int h_texted, .int h_at, .ref h_told, .int h_readPieces, .ref h_readPiece, .ref h_readRoom, .int h_readDeeds, .ref h_readDeed, .int h_readCoins, .int h_readLaw, .ref h_now])), (h_kept, .inl (cI, 36, .inl h_kept_c)), (h_st, .inl (cI, 18, .inl h_st_c))] H := hP
    have hD : va_D A [(h, .inr (6, [.int h_pieces, .ref h_piece, .int h_deeds, .ref h_deed, .int h_law, .ref h_st, .int h_acts, .ref h_was, .int f1, .ref h_kept, .int h_seens, .ref h_seen, .ref h_text, .int h_texted, .int h_at, .ref h_told, .int h_readPieces, .ref h_readPiece, .ref h_readRoom, .int h_readDeeds, .ref h_readDeed, .int h_readCoins, .int h_readLaw, .ref h_now])), (h_kept, .inl (cI, 36, .inl h_kept_c)), (h_st, .inl (cI, 18, .inl h_st_c))] := hD
    refine lv_aload_n hx hb dX6_back_20 rfl (lv_at hl 0 rfl) ?_
    refine va_get (D := D) (ci := 6) (v := .ref h_st) (C := RX6) (T := TX6) (N := 24) hx hb hts uX6_back_X6 hown hK hP 0 rfl rfl 5 (by decide) (hts (.fieldLink RX6 16 "SpeaksForTheChairModel" "st" "[I") (List.mem_of_getElem? (i := 2) rfl)) (fun _ h9 => h9) rfl dX6_back_21 ?_
    refine lv_iconst (v := 0) hx hb dX6_back_24 (by decide) ?_
    refine lv_aload_n hx hb dX6_back_25 rfl (lv_at hl 0 rfl) ?_
    refine va_get (D := D) (ci := 6) (v := .ref h_kept) (C := RX6) (T := TX6) (N := 24) hx hb hts uX6_back_X6 hown hK hP 0 rfl rfl 9 (by decide) (hts (.fieldLink RX6 22 "SpeaksForTheChairModel" "kept" "[I") (List.mem_of_getElem? (i := 3) rfl)) (fun _ h9 => h9) rfl dX6_back_26 ?_
    refine lv_bipush (v := 18) hx hb dX6_back_29 (by decide) ?_
    refine lv_aload_n hx hb dX6_back_31 rfl (lv_at hl 0 rfl) ?_
    refine va_get (D := D) (ci := 6) (v := .int f1) (C := RX6) (T := TX6) (N := 24) hx hb hts uX6_back_X6 hown hK hP 0 rfl rfl 8 (by decide) (hts (.fieldLink RX6 133 "SpeaksForTheChairModel" "keeps" "I") (List.mem_of_getElem? (i := 1) rfl)) (fun _ h9 => h9) rfl dX6_back_32 ?_
    refine lv_imul hx hb dX6_back_35 ?_
    refine lv_bipush (v := 18) hx hb dX6_back_36 (by decide) ?_
    obtain ⟨c2, hv_2, hf⟩ := ob1_some hf
    refine q_wSv (As := [.ref h_st, .int 0, .ref h_kept, .int (18 * f1), .int 18]) (rest := []) (w1 := [(h_kept, .inl (cI, 36, .inl h_kept_c)), (h_st, .inl (cI, 18, .inl c2))]) (wr := [(h, .inr (6, [.int h_pieces, .ref h_piece, .int h_deeds, .ref h_deed, .int h_law, .ref h_st, .int h_acts, .ref h_was, .int f1, .ref h_kept, .int h_seens, .ref h_seen, .ref h_text, .int h_texted, .int h_at, .ref h_told, .int h_readPieces, .ref h_readPiece, .ref h_readRoom, .int h_readDeeds, .ref h_readDeed, .int h_readCoins, .int h_readLaw, .ref h_now]))]) (w2 := [(h, .inr (6, [.int h_pieces, .ref h_piece, .int h_deeds, .ref h_deed, .int h_law, .ref h_st, .int h_acts, .ref h_was, .int f1, .ref h_kept, .int h_seens, .ref h_seen, .ref h_text, .int h_texted, .int h_at, .ref h_told, .int h_readPieces, .ref h_readPiece, .ref h_readRoom, .int h_readDeeds, .ref h_readDeed, .int h_readCoins, .int h_readLaw, .ref h_now])), (h_kept, .inl (cI, 36, .inl h_kept_c)), (h_st, .inl (cI, 18, .inl c2))]) ⟨hx, hb, hml, hown, hts⟩ (c_X6_copies l D cI cC cL cB H.size h_st h_kept ((0 : Int32)) ((18 * f1)) ((18 : Int32)) ((36 : Nat)) h_kept_c ((18 : Nat)) h_st_c c2 hv_2) (va_cwS 5 hts gX6_back_X6_copies rfl rfl rfl (by decide +kernel) ⟨Nat.le_of_ble_eq_true rfl, Nat.le_of_ble_eq_true rfl⟩) hK hP hD hS hA [1, 2] rfl (by decide) [0] rfl (by decide) (by decide) [0, 1, 2] rfl (by decide) rfl hl.1 rfl (Nat.le_of_ble_eq_true rfl) dX6_back_38 ⟨Nat.le_of_ble_eq_true rfl, Nat.le_of_ble_eq_true rfl⟩ (fun H locs hP hD hS => ?_)
    have hP : va_P D vwCl [(h, .inr (6, [.int h_pieces, .ref h_piece, .int h_deeds, .ref h_deed, .int h_law, .ref h_st, .int h_acts, .ref h_was, .int f1, .ref h_kept, .int h_seens, .ref h_seen, .ref h_text, .int h_texted, .int h_at, .ref h_told, .int h_readPieces, .ref h_readPiece, .ref h_readRoom, .int h_readDeeds, .ref h_readDeed, .int h_readCoins, .int h_readLaw, .ref h_now])), (h_kept, .inl (cI, 36, .inl h_kept_c)), (h_st, .inl (cI, 18, .inl c2))] H := hP
    have hD : va_D A [(h, .inr (6, [.int h_pieces, .ref h_piece, .int h_deeds, .ref h_deed, .int h_law, .ref h_st, .int h_acts, .ref h_was, .int f1, .ref h_kept, .int h_seens, .ref h_seen, .ref h_text, .int h_texted, .int h_at, .ref h_told, .int h_readPieces, .ref h_readPiece, .ref h_readRoom, .int h_readDeeds, .ref h_readDeed, .int h_readCoins, .int h_readLaw, .ref h_now])), (h_kept, .inl (cI, 36, .inl h_kept_c)), (h_st, .inl (cI, 18, .inl c2))] := hD
    refine lv_aload_n hx hb dX6_back_41 rfl (lv_at hl 0 rfl) ?_
    refine lv_iconst (v := 0) hx hb dX6_back_42 (by decide) ?_
    refine va_put (D := D) (ci := 6) (v := .int 0) (ty := .int) (C := RX6) (T := TX6) (N := 24) hx hb hts uX6_back_X6 tyX6 tyX6_ok nmX6 hown hK hP hD hS 0 rfl rfl 6 (by decide) (hts (.fieldLink RX6 130 "SpeaksForTheChairModel" "acts" "I") (List.mem_of_getElem? (i := 4) rfl)) (fun _ h9 => h9) rfl (by decide +kernel) rfl rfl (Nat.le_of_ble_eq_true rfl) dX6_back_43 (fun H locs hP hD hS => ?_)
    have hP : va_P D vwCl [(h, .inr (6, [.int h_pieces, .ref h_piece, .int h_deeds, .ref h_deed, .int h_law, .ref h_st, .int 0, .ref h_was, .int f1, .ref h_kept, .int h_seens, .ref h_seen, .ref h_text, .int h_texted, .int h_at, .ref h_told, .int h_readPieces, .ref h_readPiece, .ref h_readRoom, .int h_readDeeds, .ref h_readDeed, .int h_readCoins, .int h_readLaw, .ref h_now])), (h_kept, .inl (cI, 36, .inl h_kept_c)), (h_st, .inl (cI, 18, .inl c2))] H := hP
    have hD : va_D A [(h, .inr (6, [.int h_pieces, .ref h_piece, .int h_deeds, .ref h_deed, .int h_law, .ref h_st, .int 0, .ref h_was, .int f1, .ref h_kept, .int h_seens, .ref h_seen, .ref h_text, .int h_texted, .int h_at, .ref h_told, .int h_readPieces, .ref h_readPiece, .ref h_readRoom, .int h_readDeeds, .ref h_readDeed, .int h_readCoins, .int h_readLaw, .ref h_now])), (h_kept, .inl (cI, 36, .inl h_kept_c)), (h_st, .inl (cI, 18, .inl c2))] := hD
    refine lv_aload_n hx hb dX6_back_46 rfl (lv_at hl 0 rfl) ?_
    refine va_get (D := D) (ci := 6) (v := .int f1) (C := RX6) (T := TX6) (N := 24) hx hb hts uX6_back_X6 hown hK hP 0 rfl rfl 8 (by decide) (hts (.fieldLink RX6 133 "SpeaksForTheChairModel" "keeps" "I") (List.mem_of_getElem? (i := 1) rfl)) (fun _ h9 => h9) rfl dX6_back_47 ?_
    cases hf
    exact W.iret hx hb hr (fun t ht hW => ⟨⟨_, (), rfl, rfl, by rw [ht]; exact hP, va_K.moved hW.alike hK, hD⟩, hS.F ht⟩) hS.2.2 dX6_back_50
  · have hf := ip c_1 hf
    refine lv_bipush (v := (-2)) hx hb dX6_back_7 (by decide) ?_
    cases hf
    exact W.iret hx hb hr (fun t ht hW => ⟨⟨_, (), rfl, rfl, by rw [ht]; exact hP, va_K.moved hW.alike hK, hD⟩, hS.F ht⟩) hS.2.2 dX6_back_9
theorem uX6_manyAre_X6 : ∀ w ∈ wsX60, w ∈ wsX6_manyAre := fun w h => List.mem_cons_of_mem _ (List.mem_append_right _ h)
set_option maxHeartbeats 4000000 in
set_option maxRecDepth 100000 in
theorem c_X6_manyAre (l : Launch) (D : va_G) (cI cC cL cB : ClassId) (h : Nat) (h_piece : Nat) (h_deed : Nat) (h_st : Nat) (h_was : Nat) (h_kept : Nat) (h_seen : Nat) (h_text : Nat) (h_told : Nat) (h_readPiece : Nat) (h_readRoom : Nat) (h_readDeed : Nat) (h_now : Nat) (a1 : Int32) (h_pieces : Int32) (h_deeds : Int32) (h_law : Int32) (h_acts : Int32) (h_keeps : Int32) (h_seens : Int32) (h_texted : Int32) (h_at : Int32) (h_readPieces : Int32) (h_readDeeds : Int32) (h_readCoins : Int32) (h_readLaw : Int32) (h_st_c : Nat → Int32) (r : Int32) (hf : m_X6_manyAre a1 h_pieces h_st_c = some r) : Met l yX6_manyAre wsX6_manyAre ({ frames := 0, cells := 0, slots := 0, locals := 0 }) (va_Pc [.ref h, .int a1] (q_R D vwCl (tyL cI cC cL cB) [(h, .inr (6, [.int h_pieces, .ref h_piece, .int h_deeds, .ref h_deed, .int h_law, .ref h_st, .int h_acts, .ref h_was, .int h_keeps, .ref h_kept, .int h_seens, .ref h_seen, .ref h_text, .int h_texted, .int h_at, .ref h_told, .int h_readPieces, .ref h_readPiece, .ref h_readRoom, .int h_readDeeds, .ref h_readDeed, .int h_readCoins, .int h_readLaw, .ref h_now])), (h_st, .inl (cI, 18, .inl h_st_c))])) (vp_Si (fun r' => r' = r)) 0 0 (fun _ => False) := by
  refine Met.ofW (cc := cX6_manyAre) (maxL := 4) (ret := (some .int)) (by decide) rfl ?_
  intro p e s m args below meth c s₁ B hml hv
  obtain ⟨rfl, hP, hK⟩ := hv
  have hx := B.exec
  have hb := B.bytes
  have hr := B.returns
  have hts := atoms_spec (ws := wsX6_manyAre) B.pre
  have hown : s.vm.findClass RX6 = some m.cls := findClass_of_methodNamed B.named
  have hlocks := B.notSynchronized
  have hl := lv_entry ([.ref h, .int a1]) (n := 4) (Nat.le_of_ble_eq_true rfl)
  rw [lg_entry_eq]
  generalize (lg_sl ([.ref h, .int a1]) ++ List.replicate (4 - (lg_sl ([.ref h, .int a1])).length) Slot.unset).toArray = ls at hl ⊢
  have hl : lv_has ls 4 [(0, .ref h), (1, .int a1)] := hl
  unfold m_X6_manyAre at hf
  refine lv_iconst (v := 0) hx hb dX6_manyAre_0 (by decide) ?_
  refine lv_istore_n (lv' := [(2, .int 0), (0, .ref h), (1, .int a1)]) hx hb dX6_manyAre_1 rfl hl (by decide) rfl (fun ls hl => ?_)
  refine lv_iconst (v := 0) hx hb dX6_manyAre_2 (by decide) ?_
  refine lv_istore_n (lv' := [(3, .int 0), (2, .int 0), (0, .ref h), (1, .int a1)]) hx hb dX6_manyAre_3 rfl hl (by decide) rfl (fun ls hl => ?_)
  have loop4 : ∀ (n : Nat) (x1 : Int32) (x2 : Int32), ∀ (ls : Array Slot), lv_has ls 4 [(0, .ref h), (1, .int a1), (2, .int x1), (3, .int x2)] → ∀ (x3 : Int32), L_X6_manyAre_4 h_pieces h_st_c a1 n x1 x2 = some x3 → (∀ (ls : Array Slot), lv_has ls 4 [(2, .int x3)] → W p l e (headSpec wsX6_manyAre ({ frames := 0, cells := 0, slots := 0, locals := 0 })).room s m ([.ref h, .int a1] : List Value).toArray below meth c s.heap [] 0 0 (MQ below (vp_Si (fun r' => r' = r)) ([.ref h, .int a1] : List Value).toArray s 0 0 (fun _ => False)) (F0 m 39 ls [])) → W p l e (headSpec wsX6_manyAre ({ frames := 0, cells := 0, slots := 0, locals := 0 })).room s m ([.ref h, .int a1] : List Value).toArray below meth c s.heap [] 0 0 (MQ below (vp_Si (fun r' => r' = r)) ([.ref h, .int a1] : List Value).toArray s 0 0 (fun _ => False)) (F0 m 4 ls []) := by
    intro n
    induction n with
    | zero =>
      intro x1 x2 ls hl x3 hf KX
      rw [L_X6_manyAre_4] at hf
      cases hf
    | succ n ih =>
      intro x1 x2 ls hl x3 hf KX
      rw [L_X6_manyAre_4] at hf
      refine lv_iload_n hx hb dX6_manyAre_4 rfl (lv_at hl 3 rfl) ?_
      refine lv_aload_n hx hb dX6_manyAre_5 rfl (lv_at hl 0 rfl) ?_
      refine va_get (D := D) (ci := 6) (v := .int h_pieces) (C := RX6) (T := TX6) (N := 24) hx hb hts uX6_manyAre_X6 hown hK hP 0 rfl rfl 0 (by decide) (hts (.fieldLink RX6 73 "SpeaksForTheChairModel" "pieces" "I") (List.mem_of_getElem? (i := 1) rfl)) (fun _ h9 => h9) rfl dX6_manyAre_6 ?_
      refine lv_icmp_ge (tgt := 39) hx hb dX6_manyAre_9 (by decide) (fun c_7 => ?_) (fun c_7 => ?_)
      · have hf := ip c_7 hf
        cases hf
        exact KX ls (lv_sub hl [2] rfl)
      · have hf := im c_7 hf
        refine lv_iload_n hx hb dX6_manyAre_12 rfl (lv_at hl 2 rfl) ?_
        refine lv_aload_n hx hb dX6_manyAre_13 rfl (lv_at hl 0 rfl) ?_
        refine va_get (D := D) (ci := 6) (v := .ref h_st) (C := RX6) (T := TX6) (N := 24) hx hb hts uX6_manyAre_X6 hown hK hP 0 rfl rfl 5 (by decide) (hts (.fieldLink RX6 16 "SpeaksForTheChairModel" "st" "[I") (List.mem_of_getElem? (i := 2) rfl)) (fun _ h9 => h9) rfl dX6_manyAre_14 ?_
        refine lv_bipush (v := 10) hx hb dX6_manyAre_17 (by decide) ?_
        refine lv_iload_n hx hb dX6_manyAre_19 rfl (lv_at hl 3 rfl) ?_
        refine lv_iadd hx hb dX6_manyAre_20 ?_
        obtain ⟨g_8, hf⟩ := gu_in hf
        refine va_iald hx hb hK hP 1 0 rfl rfl g_8 dX6_manyAre_21 ?_
        refine lv_iload_n hx hb dX6_manyAre_22 rfl (lv_at hl 1 rfl) ?_
        refine lv_icmp_ne (tgt := 30) hx hb dX6_manyAre_23 (by decide) (fun c_9 => ?_) (fun c_9 => ?_)
        · have hf := im c_9 hf
          refine lv_iconst (v := 0) hx hb dX6_manyAre_30 (by decide) ?_
          refine lv_iadd hx hb dX6_manyAre_31 ?_
          refine lv_topi (fun x4 ex4 => ?_)
          have hf := pv_eq ex4 hf
          refine lv_istore_n (lv' := [(2, .int x4), (0, .ref h), (1, .int a1), (3, .int x2)]) hx hb dX6_manyAre_32 rfl hl (by decide) rfl (fun ls hl => ?_)
          obtain ⟨x5, ex5⟩ : ∃ y : Int32, y = (x2 + 1) := ⟨_, rfl⟩
          have hf := pv_eq ex5 hf
          refine lv_iinc (v := x5) (lv' := [(3, .int x5), (2, .int x4), (0, .ref h), (1, .int a1)]) hx hb dX6_manyAre_33 hl (k := 3) rfl (by rw [ex5]; rfl) (by decide) rfl (fun ls hl => ?_)
          refine lv_goto (tgt := 4) hx hb dX6_manyAre_36 (by decide) ?_
          exact ih _ _ ls (lv_sub hl [2, 3, 1, 0] rfl) _ hf KX
        · have hf := ip c_9 hf
          refine lv_iconst (v := 1) hx hb dX6_manyAre_26 (by decide) ?_
          refine lv_goto (tgt := 31) hx hb dX6_manyAre_27 (by decide) ?_
          refine lv_iadd hx hb dX6_manyAre_31 ?_
          refine lv_topi (fun x6 ex6 => ?_)
          have hf := pv_eq ex6 hf
          refine lv_istore_n (lv' := [(2, .int x6), (0, .ref h), (1, .int a1), (3, .int x2)]) hx hb dX6_manyAre_32 rfl hl (by decide) rfl (fun ls hl => ?_)
          obtain ⟨x7, ex7⟩ : ∃ y : Int32, y = (x2 + 1) := ⟨_, rfl⟩
          have hf := pv_eq ex7 hf
          refine lv_iinc (v := x7) (lv' := [(3, .int x7), (2, .int x6), (0, .ref h), (1, .int a1)]) hx hb dX6_manyAre_33 hl (k := 3) rfl (by rw [ex7]; rfl) (by decide) rfl (fun ls hl => ?_)
          refine lv_goto (tgt := 4) hx hb dX6_manyAre_36 (by decide) ?_
          exact ih _ _ ls (lv_sub hl [2, 3, 1, 0] rfl) _ hf KX
  obtain ⟨x3, hr4, hf⟩ := ob1_some hf
  refine loop4 300 _ _ ls (lv_sub hl [2, 3, 1, 0] rfl) _ hr4 (fun ls hl => ?_)
  refine lv_iload_n hx hb dX6_manyAre_39 rfl (lv_at hl 0 rfl) ?_
  cases hf
  exact W.iret hx hb hr (fun t ht hW => ⟨_, rfl, rfl, ht⟩) (fun _ h => by cases h) dX6_manyAre_40
