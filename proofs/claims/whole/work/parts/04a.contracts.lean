/-! contracts: X5_isWithin, X1_add, X5_write, X1_clear, X5_wipe, X1_letterAt, X0_numbersBehind, X0_isFigure, X0_figuresAt, X0_numberAt, X0_takePiece, X0_takeDeed, X0_takeCoins, X0_takeLaw, X0_takeItem, X0_readItem, X0_readFrom -/
set_option maxHeartbeats 4000000 in
set_option maxRecDepth 100000 in
theorem c_X5_isWithin (l : Launch) (D : va_G) (cI cC cL cB : ClassId) (a1 : Int32) (a2 : Int32) (a3 : Int32) (r : Int32) (hf : m_X5_isWithin a1 a2 a3 = some r) : Met l yX5_isWithin wsX5_isWithin ({ frames := 0, cells := 0, slots := 0, locals := 0 }) (va_Pc [.int a1, .int a2, .int a3] (q_R D vwCl (tyL cI cC cL cB) [])) (vp_Si (fun r' => r' = r)) 0 0 (fun _ => False) := by
  refine Met.ofW (cc := cX5_isWithin) (maxL := 3) (ret := (some .boolean)) (by decide) rfl ?_
  intro p e s m args below meth c s₁ B hml hv
  obtain ⟨rfl, hP, hK⟩ := hv
  have hx := B.exec
  have hb := B.bytes
  have hr := B.returns
  have hts := atoms_spec (ws := wsX5_isWithin) B.pre
  have hown : s.vm.findClass RX5 = some m.cls := findClass_of_methodNamed B.named
  have hlocks := B.notSynchronized
  have hl := lv_entry ([.int a1, .int a2, .int a3]) (n := 3) (Nat.le_of_ble_eq_true rfl)
  rw [lg_entry_eq]
  generalize (lg_sl ([.int a1, .int a2, .int a3]) ++ List.replicate (3 - (lg_sl ([.int a1, .int a2, .int a3])).length) Slot.unset).toArray = ls at hl ⊢
  have hl : lv_has ls 3 [(0, .int a1), (1, .int a2), (2, .int a3)] := hl
  unfold m_X5_isWithin at hf
  refine lv_iload_n hx hb dX5_isWithin_0 rfl (lv_at hl 0 rfl) ?_
  refine lv_iload_n hx hb dX5_isWithin_1 rfl (lv_at hl 1 rfl) ?_
  refine lv_icmp_lt (tgt := 14) hx hb dX5_isWithin_2 (by decide) (fun c_1 => ?_) (fun c_1 => ?_)
  · have hf := ip c_1 hf
    refine lv_iconst (v := 0) hx hb dX5_isWithin_14 (by decide) ?_
    cases hf
    exact W.zret hx hb hr rfl (fun t ht hW => ⟨_, rfl, rfl, ht⟩) (fun _ h => by cases h) dX5_isWithin_15
  · have hf := im c_1 hf
    refine lv_iload_n hx hb dX5_isWithin_5 rfl (lv_at hl 0 rfl) ?_
    refine lv_iload_n hx hb dX5_isWithin_6 rfl (lv_at hl 2 rfl) ?_
    refine lv_icmp_gt (tgt := 14) hx hb dX5_isWithin_7 (by decide) (fun c_2 => ?_) (fun c_2 => ?_)
    · have hf := ip c_2 hf
      refine lv_iconst (v := 0) hx hb dX5_isWithin_14 (by decide) ?_
      cases hf
      exact W.zret hx hb hr rfl (fun t ht hW => ⟨_, rfl, rfl, ht⟩) (fun _ h => by cases h) dX5_isWithin_15
    · have hf := im c_2 hf
      refine lv_iconst (v := 1) hx hb dX5_isWithin_10 (by decide) ?_
      refine lv_goto (tgt := 15) hx hb dX5_isWithin_11 (by decide) ?_
      cases hf
      exact W.zret hx hb hr rfl (fun t ht hW => ⟨_, rfl, rfl, ht⟩) (fun _ h => by cases h) dX5_isWithin_15
theorem uX1_add_X1 : ∀ w ∈ wsX10, w ∈ wsX1_add := fun w h => List.mem_cons_of_mem _ (List.mem_append_right _ h)
set_option maxHeartbeats 4000000 in
set_option maxRecDepth 100000 in
theorem c_X1_add (l : Launch) (D : va_G) (cI cC cL cB : ClassId) (sz : Nat) (h : Nat) (h_letters : Nat) (a1 : Int32) (h_length : Int32) (h_letters_c : Nat → Int32) (r : Int32) (o0 : Int32) (o1 : Nat → Int32) (hf : m_X1_add a1 h_length h_letters_c = some (r, o0, o1)) : Met l yX1_add wsX1_add ({ frames := 0, cells := 0, slots := 0, locals := 0 }) (va_Pc [.ref h, .int a1] (q_W D vwCl (tyL cI cC cL cB) [(h, .inr (1, [.ref h_letters, .int h_length])), (h_letters, .inl (cC, 200, .inl h_letters_c))] sz)) (va_Qi (fun r' _ => r' = r) (q_E D vwCl (tyL cI cC cL cB) (va_A [(h, .inr (1, [.ref h_letters, .int h_length])), (h_letters, .inl (cC, 200, .inl h_letters_c))] sz) [(h, .inr (1, [.ref h_letters, .int o0])), (h_letters, .inl (cC, 200, .inl o1))]) (va_A [(h, .inr (1, [.ref h_letters, .int h_length])), (h_letters, .inl (cC, 200, .inl h_letters_c))] sz)) 0 0 (va_A [(h, .inr (1, [.ref h_letters, .int h_length])), (h_letters, .inl (cC, 200, .inl h_letters_c))] sz) := by
  refine Met.ofW (cc := cX1_add) (maxL := 2) (ret := (some .boolean)) (by decide) rfl ?_
  intro p e s m args below meth c s₁ B hml hv
  obtain ⟨rfl, hsz, hP, hK, hD0⟩ := hv
  have hx := B.exec
  have hb := B.bytes
  have hr := B.returns
  have hts := atoms_spec (ws := wsX1_add) B.pre
  have hown : s.vm.findClass RX1 = some m.cls := findClass_of_methodNamed B.named
  have hlocks := B.notSynchronized
  subst hsz
  have hD := hD0.self (sz := s.heap.size)
  generalize hAe : va_A [(h, .inr (1, [.ref h_letters, .int h_length])), (h_letters, .inl (cC, 200, .inl h_letters_c))] s.heap.size = A at hD ⊢
  have hA : ∀ q : Nat, s.heap.size ≤ q → A q := fun q h => by rw [← hAe]; exact Or.inr h
  have hS : va_S A s.heap s.heap [] := va_S.rf
  have hP : va_P D vwCl [(h, .inr (1, [.ref h_letters, .int h_length])), (h_letters, .inl (cC, 200, .inl h_letters_c))] s.heap := hP
  have hl := lv_entry ([.ref h, .int a1]) (n := 2) (Nat.le_of_ble_eq_true rfl)
  rw [lg_entry_eq]
  generalize (lg_sl ([.ref h, .int a1]) ++ List.replicate (2 - (lg_sl ([.ref h, .int a1])).length) Slot.unset).toArray = ls at hl ⊢
  have hl : lv_has ls 2 [(0, .ref h), (1, .int a1)] := hl
  unfold m_X1_add at hf
  refine lv_aload_n hx hb dX1_add_0 rfl (lv_at hl 0 rfl) ?_
  refine va_get (D := D) (ci := 1) (v := .int h_length) (C := RX1) (T := TX1) (N := 2) hx hb hts uX1_add_X1 hown hK hP 0 rfl rfl 1 (by decide) (hts (.fieldLink RX1 15 "SpeaksForTheChair$Page" "length" "I") (List.mem_of_getElem? (i := 1) rfl)) (fun _ h9 => h9) rfl dX1_add_1 ?_
  refine lv_aload_n hx hb dX1_add_4 rfl (lv_at hl 0 rfl) ?_
  refine va_get (D := D) (ci := 1) (v := .ref h_letters) (C := RX1) (T := TX1) (N := 2) hx hb hts uX1_add_X1 hown hK hP 0 rfl rfl 0 (by decide) (hts (.fieldLink RX1 9 "SpeaksForTheChair$Page" "letters" "[C") (List.mem_of_getElem? (i := 2) rfl)) (fun _ h9 => h9) rfl dX1_add_5 ?_
  refine va_alen (v := 200) hx hb hK hP 1 1 rfl rfl rfl dX1_add_8 ?_
  refine lv_icmp_lt (tgt := 14) hx hb dX1_add_9 (by decide) (fun c_1 => ?_) (fun c_1 => ?_)
  · have hf := ip c_1 hf
    refine lv_aload_n hx hb dX1_add_14 rfl (lv_at hl 0 rfl) ?_
    refine va_get (D := D) (ci := 1) (v := .ref h_letters) (C := RX1) (T := TX1) (N := 2) hx hb hts uX1_add_X1 hown hK hP 0 rfl rfl 0 (by decide) (hts (.fieldLink RX1 9 "SpeaksForTheChair$Page" "letters" "[C") (List.mem_of_getElem? (i := 2) rfl)) (fun _ h9 => h9) rfl dX1_add_15 ?_
    refine lv_aload_n hx hb dX1_add_18 rfl (lv_at hl 0 rfl) ?_
    refine va_get (D := D) (ci := 1) (v := .int h_length) (C := RX1) (T := TX1) (N := 2) hx hb hts uX1_add_X1 hown hK hP 0 rfl rfl 1 (by decide) (hts (.fieldLink RX1 15 "SpeaksForTheChair$Page" "length" "I") (List.mem_of_getElem? (i := 1) rfl)) (fun _ h9 => h9) rfl dX1_add_19 ?_
    refine lv_iload_n hx hb dX1_add_22 rfl (lv_at hl 1 rfl) ?_
    obtain ⟨g_2, hf⟩ := gu_in hf
    refine va_cast hx hb hK hP hD hS 1 1 rfl rfl g_2 dX1_add_23 (fun H locs hP hD hS => ?_)
    obtain ⟨c1, ec1⟩ : ∃ y : Nat → Int32, y = (upd h_letters_c h_length.toNatClampNeg (vp_nar .char a1)) := ⟨_, rfl⟩
    have hf := pv_eq ec1 hf
    rw [← ec1] at hP hD
    have hP : va_P D vwCl [(h, .inr (1, [.ref h_letters, .int h_length])), (h_letters, .inl (cC, 200, .inl c1))] H := hP
    have hD : va_D A [(h, .inr (1, [.ref h_letters, .int h_length])), (h_letters, .inl (cC, 200, .inl c1))] := hD
    refine lv_aload_n hx hb dX1_add_24 rfl (lv_at hl 0 rfl) ?_
    refine lv_dup hx hb dX1_add_25 rfl ?_
    refine va_get (D := D) (ci := 1) (v := .int h_length) (C := RX1) (T := TX1) (N := 2) hx hb hts uX1_add_X1 hown hK hP 0 rfl rfl 1 (by decide) (hts (.fieldLink RX1 15 "SpeaksForTheChair$Page" "length" "I") (List.mem_of_getElem? (i := 1) rfl)) (fun _ h9 => h9) rfl dX1_add_26 ?_
    refine lv_iconst (v := 1) hx hb dX1_add_29 (by decide) ?_
    refine lv_iadd hx hb dX1_add_30 ?_
    refine lv_topi (fun f2 ef2 => ?_)
    have hf := pv_eq ef2 hf
    refine va_put (D := D) (ci := 1) (v := .int f2) (ty := .int) (C := RX1) (T := TX1) (N := 2) hx hb hts uX1_add_X1 tyX1 tyX1_ok nmX1 hown hK hP hD hS 0 rfl rfl 1 (by decide) (hts (.fieldLink RX1 15 "SpeaksForTheChair$Page" "length" "I") (List.mem_of_getElem? (i := 1) rfl)) (fun _ h9 => h9) rfl (by decide +kernel) rfl rfl (Nat.le_of_ble_eq_true rfl) dX1_add_31 (fun H locs hP hD hS => ?_)
    have hP : va_P D vwCl [(h, .inr (1, [.ref h_letters, .int f2])), (h_letters, .inl (cC, 200, .inl c1))] H := hP
    have hD : va_D A [(h, .inr (1, [.ref h_letters, .int f2])), (h_letters, .inl (cC, 200, .inl c1))] := hD
    refine lv_iconst (v := 1) hx hb dX1_add_34 (by decide) ?_
    cases hf
    exact W.zret hx hb hr rfl (fun t ht hW => ⟨⟨_, (), rfl, rfl, by rw [ht]; exact hP, va_K.moved hW.alike hK, hD⟩, hS.F ht⟩) hS.2.2 dX1_add_35
  · have hf := im c_1 hf
    refine lv_iconst (v := 0) hx hb dX1_add_12 (by decide) ?_
    cases hf
    exact W.zret hx hb hr rfl (fun t ht hW => ⟨⟨_, (), rfl, rfl, by rw [ht]; exact hP, va_K.moved hW.alike hK, hD⟩, hS.F ht⟩) hS.2.2 dX1_add_13
theorem uX5_write_X1 : ∀ w ∈ wsX10, w ∈ wsX5_write := fun w h => List.mem_cons_of_mem _ (List.mem_append_right _ h)
theorem uX5_write_X5 : ∀ w ∈ wsX50, w ∈ wsX5_write := fun w h => List.mem_cons_of_mem _ (List.mem_append_left _ (List.mem_append_right _ h))
set_option maxHeartbeats 4000000 in
set_option maxRecDepth 100000 in
theorem c_X5_write (l : Launch) (D : va_G) (cI cC cL cB : ClassId) (sz : Nat) (h : Nat) (h_page : Nat) (h_laid : Nat) (h_draft : Nat) (h_now : Nat) (h_trial : Nat) (h_past : Nat) (h_sightings : Nat) (h_kept : Nat) (h_told : Nat) (h_page_letters : Nat) (a1 : Int32) (h_keptCount : Int32) (h_page_length : Int32) (h_page_letters_c : Nat → Int32) (r : Int32) (o0 : Int32) (o1 : Nat → Int32) (hf : m_X5_write a1 h_page_length h_page_letters_c = some (r, o0, o1)) : Met l yX5_write wsX5_write ({ frames := 1, cells := 0, slots := 0, locals := 22 }) (va_Pc [.ref h, .int a1] (q_W D vwCl (tyL cI cC cL cB) [(h, .inr (5, [.ref h_page, .ref h_laid, .ref h_draft, .ref h_now, .ref h_trial, .ref h_past, .ref h_sightings, .ref h_kept, .int h_keptCount, .ref h_told])), (h_page, .inr (1, [.ref h_page_letters, .int h_page_length])), (h_page_letters, .inl (cC, 200, .inl h_page_letters_c))] sz)) (va_Qi (fun r' _ => r' = r) (q_E D vwCl (tyL cI cC cL cB) (va_A [(h, .inr (5, [.ref h_page, .ref h_laid, .ref h_draft, .ref h_now, .ref h_trial, .ref h_past, .ref h_sightings, .ref h_kept, .int h_keptCount, .ref h_told])), (h_page, .inr (1, [.ref h_page_letters, .int h_page_length])), (h_page_letters, .inl (cC, 200, .inl h_page_letters_c))] sz) [(h, .inr (5, [.ref h_page, .ref h_laid, .ref h_draft, .ref h_now, .ref h_trial, .ref h_past, .ref h_sightings, .ref h_kept, .int h_keptCount, .ref h_told])), (h_page, .inr (1, [.ref h_page_letters, .int o0])), (h_page_letters, .inl (cC, 200, .inl o1))]) (va_A [(h, .inr (5, [.ref h_page, .ref h_laid, .ref h_draft, .ref h_now, .ref h_trial, .ref h_past, .ref h_sightings, .ref h_kept, .int h_keptCount, .ref h_told])), (h_page, .inr (1, [.ref h_page_letters, .int h_page_length])), (h_page_letters, .inl (cC, 200, .inl h_page_letters_c))] sz)) 0 0 (va_A [(h, .inr (5, [.ref h_page, .ref h_laid, .ref h_draft, .ref h_now, .ref h_trial, .ref h_past, .ref h_sightings, .ref h_kept, .int h_keptCount, .ref h_told])), (h_page, .inr (1, [.ref h_page_letters, .int h_page_length])), (h_page_letters, .inl (cC, 200, .inl h_page_letters_c))] sz) := by
  refine Met.ofW (cc := cX5_write) (maxL := 2) (ret := (some .int)) (by decide) rfl ?_
  intro p e s m args below meth c s₁ B hml hv
  obtain ⟨rfl, hsz, hP, hK, hD0⟩ := hv
  have hx := B.exec
  have hb := B.bytes
  have hr := B.returns
  have hts := atoms_spec (ws := wsX5_write) B.pre
  have hown : s.vm.findClass RX5 = some m.cls := findClass_of_methodNamed B.named
  have hlocks := B.notSynchronized
  subst hsz
  have hD := hD0.self (sz := s.heap.size)
  generalize hAe : va_A [(h, .inr (5, [.ref h_page, .ref h_laid, .ref h_draft, .ref h_now, .ref h_trial, .ref h_past, .ref h_sightings, .ref h_kept, .int h_keptCount, .ref h_told])), (h_page, .inr (1, [.ref h_page_letters, .int h_page_length])), (h_page_letters, .inl (cC, 200, .inl h_page_letters_c))] s.heap.size = A at hD ⊢
  have hA : ∀ q : Nat, s.heap.size ≤ q → A q := fun q h => by rw [← hAe]; exact Or.inr h
  have hS : va_S A s.heap s.heap [] := va_S.rf
  have hP : va_P D vwCl [(h, .inr (5, [.ref h_page, .ref h_laid, .ref h_draft, .ref h_now, .ref h_trial, .ref h_past, .ref h_sightings, .ref h_kept, .int h_keptCount, .ref h_told])), (h_page, .inr (1, [.ref h_page_letters, .int h_page_length])), (h_page_letters, .inl (cC, 200, .inl h_page_letters_c))] s.heap := hP
  have hl := lv_entry ([.ref h, .int a1]) (n := 2) (Nat.le_of_ble_eq_true rfl)
  rw [lg_entry_eq]
  generalize (lg_sl ([.ref h, .int a1]) ++ List.replicate (2 - (lg_sl ([.ref h, .int a1])).length) Slot.unset).toArray = ls at hl ⊢
  have hl : lv_has ls 2 [(0, .ref h), (1, .int a1)] := hl
  unfold m_X5_write at hf
  refine lv_iload_n hx hb dX5_write_0 rfl (lv_at hl 1 rfl) ?_
  refine lv_bipush (v := 32) hx hb dX5_write_1 (by decide) ?_
  refine lv_bipush (v := 126) hx hb dX5_write_3 (by decide) ?_
  obtain ⟨x1, hv_1, hf⟩ := ob1_some hf
  refine q_rSi (As := [.int a1, .int 32, .int 126]) (rest := []) (r := x1) ⟨hx, hb, hml, hown, hts⟩ (c_X5_isWithin l D cI cC cL cB a1 ((32 : Int32)) ((126 : Int32)) x1 hv_1) (va_cwS 3 hts gX5_write_X5_isWithin rfl rfl rfl (by decide +kernel) ⟨Nat.le_of_ble_eq_true rfl, Nat.le_of_ble_eq_true rfl⟩) hK hP [] rfl rfl hl.1 rfl (Nat.le_of_ble_eq_true rfl) dX5_write_5 ⟨Nat.le_of_ble_eq_true rfl, Nat.le_of_ble_eq_true rfl⟩ ?_
  refine lv_if_ne (tgt := 13) hx hb dX5_write_8 (by decide) (fun c_2 => ?_) (fun c_2 => ?_)
  · have hf := im c_2 hf
    refine lv_aload_n hx hb dX5_write_13 rfl (lv_at hl 0 rfl) ?_
    refine va_get (D := D) (ci := 5) (v := .ref h_page) (C := RX5) (T := TX5) (N := 10) hx hb hts uX5_write_X5 hown hK hP 0 rfl rfl 0 (by decide) (hts (.fieldLink RX5 10 "SpeaksForTheChair" "page" "LSpeaksForTheChair$Page;") (List.mem_of_getElem? (i := 1) rfl)) (fun _ h9 => h9) rfl dX5_write_14 ?_
    refine lv_iload_n hx hb dX5_write_17 rfl (lv_at hl 1 rfl) ?_
    refine lv_i2c hx hb dX5_write_18 rfl ?_
    obtain ⟨x2, f3, c4, hv_3, hf⟩ := ob3_some hf
    refine q_wVi (As := [.int ((a1 : Int32).toUInt32 % 65536).toInt32]) (rest := []) (r := x2) (w1 := [(h_page, .inr (1, [.ref h_page_letters, .int f3])), (h_page_letters, .inl (cC, 200, .inl c4))]) (wr := [(h, .inr (5, [.ref h_page, .ref h_laid, .ref h_draft, .ref h_now, .ref h_trial, .ref h_past, .ref h_sightings, .ref h_kept, .int h_keptCount, .ref h_told]))]) (w2 := [(h, .inr (5, [.ref h_page, .ref h_laid, .ref h_draft, .ref h_now, .ref h_trial, .ref h_past, .ref h_sightings, .ref h_kept, .int h_keptCount, .ref h_told])), (h_page, .inr (1, [.ref h_page_letters, .int f3])), (h_page_letters, .inl (cC, 200, .inl c4))]) ⟨hx, hb, hml, hown, hts⟩ (c_X1_add l D cI cC cL cB s.heap.size h_page h_page_letters (((a1 : Int32).toUInt32 % 65536).toInt32) h_page_length h_page_letters_c x2 f3 c4 hv_3) (cwV 1 hts gX5_write_X1_add rfl rfl rfl (by decide +kernel) ⟨Nat.le_of_ble_eq_true rfl, Nat.le_of_ble_eq_true rfl⟩) hK hP hD hS hA [1, 2] rfl (by decide) [0] rfl (by decide) (by decide) [0, 1, 2] rfl (by decide) (va_recv hK hP (ci := 1) (q0 := 1) rfl rfl) rfl hl.1 rfl (Nat.le_of_ble_eq_true rfl) dX5_write_19 ⟨Nat.le_of_ble_eq_true rfl, Nat.le_of_ble_eq_true rfl⟩ (fun H locs hP hD hS => ?_)
    have hP : va_P D vwCl [(h, .inr (5, [.ref h_page, .ref h_laid, .ref h_draft, .ref h_now, .ref h_trial, .ref h_past, .ref h_sightings, .ref h_kept, .int h_keptCount, .ref h_told])), (h_page, .inr (1, [.ref h_page_letters, .int f3])), (h_page_letters, .inl (cC, 200, .inl c4))] H := hP
    have hD : va_D A [(h, .inr (5, [.ref h_page, .ref h_laid, .ref h_draft, .ref h_now, .ref h_trial, .ref h_past, .ref h_sightings, .ref h_kept, .int h_keptCount, .ref h_told])), (h_page, .inr (1, [.ref h_page_letters, .int f3])), (h_page_letters, .inl (cC, 200, .inl c4))] := hD
    refine lv_if_eq (tgt := 35) hx hb dX5_write_22 (by decide) (fun c_4 => ?_) (fun c_4 => ?_)
    · have hf := ip c_4 hf
      refine lv_bipush (v := (-3)) hx hb dX5_write_35 (by decide) ?_
      cases hf
      exact W.iret hx hb hr (fun t ht hW => ⟨⟨_, (), rfl, rfl, by rw [ht]; exact hP, va_K.moved hW.alike hK, hD⟩, hS.F ht⟩) hS.2.2 dX5_write_37
    · have hf := im c_4 hf
      refine lv_aload_n hx hb dX5_write_25 rfl (lv_at hl 0 rfl) ?_
      refine va_get (D := D) (ci := 5) (v := .ref h_page) (C := RX5) (T := TX5) (N := 10) hx hb hts uX5_write_X5 hown hK hP 0 rfl rfl 0 (by decide) (hts (.fieldLink RX5 10 "SpeaksForTheChair" "page" "LSpeaksForTheChair$Page;") (List.mem_of_getElem? (i := 1) rfl)) (fun _ h9 => h9) rfl dX5_write_26 ?_
      refine va_get (D := D) (ci := 1) (v := .int f3) (C := RX1) (T := TX1) (N := 2) hx hb hts uX5_write_X1 hown hK hP 1 rfl rfl 1 (by decide) (hts (.fieldLink RX5 84 "SpeaksForTheChair$Page" "length" "I") (List.mem_of_getElem? (i := 2) rfl)) (fun _ h9 => h9) rfl dX5_write_29 ?_
      refine lv_goto (tgt := 37) hx hb dX5_write_32 (by decide) ?_
      cases hf
      exact W.iret hx hb hr (fun t ht hW => ⟨⟨_, (), rfl, rfl, by rw [ht]; exact hP, va_K.moved hW.alike hK, hD⟩, hS.F ht⟩) hS.2.2 dX5_write_37
  · have hf := ip c_2 hf
    refine lv_iconst (v := (-1)) hx hb dX5_write_11 (by decide) ?_
    cases hf
    exact W.iret hx hb hr (fun t ht hW => ⟨⟨_, (), rfl, rfl, by rw [ht]; exact hP, va_K.moved hW.alike hK, hD⟩, hS.F ht⟩) hS.2.2 dX5_write_12
theorem uX1_clear_X1 : ∀ w ∈ wsX10, w ∈ wsX1_clear := fun w h => List.mem_cons_of_mem _ (List.mem_append_right _ h)
set_option maxHeartbeats 4000000 in
set_option maxRecDepth 100000 in
theorem c_X1_clear (l : Launch) (D : va_G) (cI cC cL cB : ClassId) (sz : Nat) (h : Nat) (h_letters : Nat) (h_length : Int32) (o0 : Int32) (hf : m_X1_clear = some o0) : Met l yX1_clear wsX1_clear ({ frames := 0, cells := 0, slots := 0, locals := 0 }) (va_Pc [.ref h] (q_W D vwCl (tyL cI cC cL cB) [(h, .inr (1, [.ref h_letters, .int h_length]))] sz)) (va_Qv (fun _ : Unit => True) (q_E D vwCl (tyL cI cC cL cB) (va_A [(h, .inr (1, [.ref h_letters, .int h_length]))] sz) [(h, .inr (1, [.ref h_letters, .int o0]))]) (va_A [(h, .inr (1, [.ref h_letters, .int h_length]))] sz)) 0 0 (va_A [(h, .inr (1, [.ref h_letters, .int h_length]))] sz) := by
  refine Met.ofW (cc := cX1_clear) (maxL := 1) (ret := none) (by decide) rfl ?_
  intro p e s m args below meth c s₁ B hml hv
  obtain ⟨rfl, hsz, hP, hK, hD0⟩ := hv
  have hx := B.exec
  have hb := B.bytes
  have hr := B.returns
  have hts := atoms_spec (ws := wsX1_clear) B.pre
  have hown : s.vm.findClass RX1 = some m.cls := findClass_of_methodNamed B.named
  have hlocks := B.notSynchronized
  subst hsz
  have hD := hD0.self (sz := s.heap.size)
  generalize hAe : va_A [(h, .inr (1, [.ref h_letters, .int h_length]))] s.heap.size = A at hD ⊢
  have hA : ∀ q : Nat, s.heap.size ≤ q → A q := fun q h => by rw [← hAe]; exact Or.inr h
  have hS : va_S A s.heap s.heap [] := va_S.rf
  have hP : va_P D vwCl [(h, .inr (1, [.ref h_letters, .int h_length]))] s.heap := hP
  have hl := lv_entry ([.ref h]) (n := 1) (Nat.le_of_ble_eq_true rfl)
  rw [lg_entry_eq]
  generalize (lg_sl ([.ref h]) ++ List.replicate (1 - (lg_sl ([.ref h])).length) Slot.unset).toArray = ls at hl ⊢
  have hl : lv_has ls 1 [(0, .ref h)] := hl
  unfold m_X1_clear at hf
  refine lv_aload_n hx hb dX1_clear_0 rfl (lv_at hl 0 rfl) ?_
  refine lv_iconst (v := 0) hx hb dX1_clear_1 (by decide) ?_
  refine va_put (D := D) (ci := 1) (v := .int 0) (ty := .int) (C := RX1) (T := TX1) (N := 2) hx hb hts uX1_clear_X1 tyX1 tyX1_ok nmX1 hown hK hP hD hS 0 rfl rfl 1 (by decide) (hts (.fieldLink RX1 15 "SpeaksForTheChair$Page" "length" "I") (List.mem_of_getElem? (i := 1) rfl)) (fun _ h9 => h9) rfl (by decide +kernel) rfl rfl (Nat.le_of_ble_eq_true rfl) dX1_clear_2 (fun H locs hP hD hS => ?_)
  have hP : va_P D vwCl [(h, .inr (1, [.ref h_letters, .int 0]))] H := hP
  have hD : va_D A [(h, .inr (1, [.ref h_letters, .int 0]))] := hD
  cases hf
  exact W.vret hx hb hr (fun t ht hW => ⟨⟨(), rfl, trivial, by rw [ht]; exact hP, va_K.moved hW.alike hK, hD⟩, hS.F ht⟩) hS.2.2 dX1_clear_5
theorem uX5_wipe_X1 : ∀ w ∈ wsX10, w ∈ wsX5_wipe := fun w h => List.mem_cons_of_mem _ (List.mem_append_right _ h)
theorem uX5_wipe_X5 : ∀ w ∈ wsX50, w ∈ wsX5_wipe := fun w h => List.mem_cons_of_mem _ (List.mem_append_left _ (List.mem_append_right _ h))
set_option maxHeartbeats 4000000 in
set_option maxRecDepth 100000 in
theorem c_X5_wipe (l : Launch) (D : va_G) (cI cC cL cB : ClassId) (sz : Nat) (h : Nat) (h_page : Nat) (h_laid : Nat) (h_draft : Nat) (h_now : Nat) (h_trial : Nat) (h_past : Nat) (h_sightings : Nat) (h_kept : Nat) (h_told : Nat) (h_page_letters : Nat) (h_keptCount : Int32) (h_page_length : Int32) (r : Int32) (o0 : Int32) (hf : m_X5_wipe h_page_length = some (r, o0)) : Met l yX5_wipe wsX5_wipe ({ frames := 1, cells := 0, slots := 0, locals := 20 }) (va_Pc [.ref h] (q_W D vwCl (tyL cI cC cL cB) [(h, .inr (5, [.ref h_page, .ref h_laid, .ref h_draft, .ref h_now, .ref h_trial, .ref h_past, .ref h_sightings, .ref h_kept, .int h_keptCount, .ref h_told])), (h_page, .inr (1, [.ref h_page_letters, .int h_page_length]))] sz)) (va_Qi (fun r' _ => r' = r) (q_E D vwCl (tyL cI cC cL cB) (va_A [(h, .inr (5, [.ref h_page, .ref h_laid, .ref h_draft, .ref h_now, .ref h_trial, .ref h_past, .ref h_sightings, .ref h_kept, .int h_keptCount, .ref h_told])), (h_page, .inr (1, [.ref h_page_letters, .int h_page_length]))] sz) [(h, .inr (5, [.ref h_page, .ref h_laid, .ref h_draft, .ref h_now, .ref h_trial, .ref h_past, .ref h_sightings, .ref h_kept, .int h_keptCount, .ref h_told])), (h_page, .inr (1, [.ref h_page_letters, .int o0]))]) (va_A [(h, .inr (5, [.ref h_page, .ref h_laid, .ref h_draft, .ref h_now, .ref h_trial, .ref h_past, .ref h_sightings, .ref h_kept, .int h_keptCount, .ref h_told])), (h_page, .inr (1, [.ref h_page_letters, .int h_page_length]))] sz)) 0 0 (va_A [(h, .inr (5, [.ref h_page, .ref h_laid, .ref h_draft, .ref h_now, .ref h_trial, .ref h_past, .ref h_sightings, .ref h_kept, .int h_keptCount, .ref h_told])), (h_page, .inr (1, [.ref h_page_letters, .int h_page_length]))] sz) := by
  refine Met.ofW (cc := cX5_wipe) (maxL := 2) (ret := (some .int)) (by decide) rfl ?_
  intro p e s m args below meth c s₁ B hml hv
  obtain ⟨rfl, hsz, hP, hK, hD0⟩ := hv
  have hx := B.exec
  have hb := B.bytes
  have hr := B.returns
  have hts := atoms_spec (ws := wsX5_wipe) B.pre
  have hown : s.vm.findClass RX5 = some m.cls := findClass_of_methodNamed B.named
  have hlocks := B.notSynchronized
  subst hsz
  have hD := hD0.self (sz := s.heap.size)
  generalize hAe : va_A [(h, .inr (5, [.ref h_page, .ref h_laid, .ref h_draft, .ref h_now, .ref h_trial, .ref h_past, .ref h_sightings, .ref h_kept, .int h_keptCount, .ref h_told])), (h_page, .inr (1, [.ref h_page_letters, .int h_page_length]))] s.heap.size = A at hD ⊢
  have hA : ∀ q : Nat, s.heap.size ≤ q → A q := fun q h => by rw [← hAe]; exact Or.inr h
  have hS : va_S A s.heap s.heap [] := va_S.rf
  have hP : va_P D vwCl [(h, .inr (5, [.ref h_page, .ref h_laid, .ref h_draft, .ref h_now, .ref h_trial, .ref h_past, .ref h_sightings, .ref h_kept, .int h_keptCount, .ref h_told])), (h_page, .inr (1, [.ref h_page_letters, .int h_page_length]))] s.heap := hP
  have hl := lv_entry ([.ref h]) (n := 2) (Nat.le_of_ble_eq_true rfl)
  rw [lg_entry_eq]
  generalize (lg_sl ([.ref h]) ++ List.replicate (2 - (lg_sl ([.ref h])).length) Slot.unset).toArray = ls at hl ⊢
  have hl : lv_has ls 2 [(0, .ref h)] := hl
  unfold m_X5_wipe at hf
  refine lv_aload_n hx hb dX5_wipe_0 rfl (lv_at hl 0 rfl) ?_
  refine va_get (D := D) (ci := 5) (v := .ref h_page) (C := RX5) (T := TX5) (N := 10) hx hb hts uX5_wipe_X5 hown hK hP 0 rfl rfl 0 (by decide) (hts (.fieldLink RX5 10 "SpeaksForTheChair" "page" "LSpeaksForTheChair$Page;") (List.mem_of_getElem? (i := 1) rfl)) (fun _ h9 => h9) rfl dX5_wipe_1 ?_
  refine va_get (D := D) (ci := 1) (v := .int h_page_length) (C := RX1) (T := TX1) (N := 2) hx hb hts uX5_wipe_X1 hown hK hP 1 rfl rfl 1 (by decide) (hts (.fieldLink RX5 84 "SpeaksForTheChair$Page" "length" "I") (List.mem_of_getElem? (i := 2) rfl)) (fun _ h9 => h9) rfl dX5_wipe_4 ?_
  refine lv_istore_n (lv' := [(1, .int h_page_length), (0, .ref h)]) hx hb dX5_wipe_7 rfl hl (by decide) rfl (fun ls hl => ?_)
  refine lv_aload_n hx hb dX5_wipe_8 rfl (lv_at hl 1 rfl) ?_
  refine va_get (D := D) (ci := 5) (v := .ref h_page) (C := RX5) (T := TX5) (N := 10) hx hb hts uX5_wipe_X5 hown hK hP 0 rfl rfl 0 (by decide) (hts (.fieldLink RX5 10 "SpeaksForTheChair" "page" "LSpeaksForTheChair$Page;") (List.mem_of_getElem? (i := 1) rfl)) (fun _ h9 => h9) rfl dX5_wipe_9 ?_
  obtain ⟨f1, hv_1, hf⟩ := ob1_some hf
  refine q_wVv (As := []) (rest := []) (w1 := [(h_page, .inr (1, [.ref h_page_letters, .int f1]))]) (wr := [(h, .inr (5, [.ref h_page, .ref h_laid, .ref h_draft, .ref h_now, .ref h_trial, .ref h_past, .ref h_sightings, .ref h_kept, .int h_keptCount, .ref h_told]))]) (w2 := [(h, .inr (5, [.ref h_page, .ref h_laid, .ref h_draft, .ref h_now, .ref h_trial, .ref h_past, .ref h_sightings, .ref h_kept, .int h_keptCount, .ref h_told])), (h_page, .inr (1, [.ref h_page_letters, .int f1]))]) ⟨hx, hb, hml, hown, hts⟩ (c_X1_clear l D cI cC cL cB s.heap.size h_page h_page_letters h_page_length f1 hv_1) (cwV 0 hts gX5_wipe_X1_clear rfl rfl rfl (by decide +kernel) ⟨Nat.le_of_ble_eq_true rfl, Nat.le_of_ble_eq_true rfl⟩) hK hP hD hS hA [1] rfl (by decide) [0] rfl (by decide) (by decide) [0, 1] rfl (by decide) (va_recv hK hP (ci := 1) (q0 := 1) rfl rfl) rfl hl.1 rfl (Nat.le_of_ble_eq_true rfl) dX5_wipe_12 ⟨Nat.le_of_ble_eq_true rfl, Nat.le_of_ble_eq_true rfl⟩ (fun H locs hP hD hS => ?_)
  have hP : va_P D vwCl [(h, .inr (5, [.ref h_page, .ref h_laid, .ref h_draft, .ref h_now, .ref h_trial, .ref h_past, .ref h_sightings, .ref h_kept, .int h_keptCount, .ref h_told])), (h_page, .inr (1, [.ref h_page_letters, .int f1]))] H := hP
  have hD : va_D A [(h, .inr (5, [.ref h_page, .ref h_laid, .ref h_draft, .ref h_now, .ref h_trial, .ref h_past, .ref h_sightings, .ref h_kept, .int h_keptCount, .ref h_told])), (h_page, .inr (1, [.ref h_page_letters, .int f1]))] := hD
  refine lv_iload_n hx hb dX5_wipe_15 rfl (lv_at hl 0 rfl) ?_
  cases hf
  exact W.iret hx hb hr (fun t ht hW => ⟨⟨_, (), rfl, rfl, by rw [ht]; exact hP, va_K.moved hW.alike hK, hD⟩, hS.F ht⟩) hS.2.2 dX5_wipe_16
theorem uX1_letterAt_X1 : ∀ w ∈ wsX10, w ∈ wsX1_letterAt := fun w h => List.mem_cons_of_mem _ (List.mem_append_right _ h)
set_option maxHeartbeats 4000000 in
set_option maxRecDepth 100000 in
theorem c_X1_letterAt (l : Launch) (D : va_G) (cI cC cL cB : ClassId) (h : Nat) (h_letters : Nat) (a1 : Int32) (h_length : Int32) (h_letters_c : Nat → Int32) (r : Int32) (hf : m_X1_letterAt a1 h_length h_letters_c = some r) : Met l yX1_letterAt wsX1_letterAt ({ frames := 0, cells := 0, slots := 0, locals := 0 }) (va_Pc [.ref h, .int a1] (q_R D vwCl (tyL cI cC cL cB) [(h, .inr (1, [.ref h_letters, .int h_length])), (h_letters, .inl (cC, 200, .inl h_letters_c))])) (vp_Si (fun r' => r' = r)) 0 0 (fun _ => False) := by
  refine Met.ofW (cc := cX1_letterAt) (maxL := 2) (ret := (some .int)) (by decide) rfl ?_
  intro p e s m args below meth c s₁ B hml hv
  obtain ⟨rfl, hP, hK⟩ := hv
  have hx := B.exec
  have hb := B.bytes
  have hr := B.returns
  have hts := atoms_spec (ws := wsX1_letterAt) B.pre
  have hown : s.vm.findClass RX1 = some m.cls := findClass_of_methodNamed B.named
  have hlocks := B.notSynchronized
  have hl := lv_entry ([.ref h, .int a1]) (n := 2) (Nat.le_of_ble_eq_true rfl)
  rw [lg_entry_eq]
  generalize (lg_sl ([.ref h, .int a1]) ++ List.replicate (2 - (lg_sl ([.ref h, .int a1])).length) Slot.unset).toArray = ls at hl ⊢
  have hl : lv_has ls 2 [(0, .ref h), (1, .int a1)] := hl
  unfold m_X1_letterAt at hf
  refine lv_iload_n hx hb dX1_letterAt_0 rfl (lv_at hl 1 rfl) ?_
  refine lv_if_lt (tgt := 21) hx hb dX1_letterAt_1 (by decide) (fun c_1 => ?_) (fun c_1 => ?_)
  · have hf := ip c_1 hf
    refine lv_iconst (v := 0) hx hb dX1_letterAt_21 (by decide) ?_
    cases hf
    exact W.iret hx hb hr (fun t ht hW => ⟨_, rfl, rfl, ht⟩) (fun _ h => by cases h) dX1_letterAt_22
  · have hf := im c_1 hf
    refine lv_iload_n hx hb dX1_letterAt_4 rfl (lv_at hl 1 rfl) ?_
    refine lv_aload_n hx hb dX1_letterAt_5 rfl (lv_at hl 0 rfl) ?_
    refine va_get (D := D) (ci := 1) (v := .int h_length) (C := RX1) (T := TX1) (N := 2) hx hb hts uX1_letterAt_X1 hown hK hP 0 rfl rfl 1 (by decide) (hts (.fieldLink RX1 15 "SpeaksForTheChair$Page" "length" "I") (List.mem_of_getElem? (i := 1) rfl)) (fun _ h9 => h9) rfl dX1_letterAt_6 ?_
    refine lv_icmp_ge (tgt := 21) hx hb dX1_letterAt_9 (by decide) (fun c_2 => ?_) (fun c_2 => ?_)
    · have hf := ip c_2 hf
      refine lv_iconst (v := 0) hx hb dX1_letterAt_21 (by decide) ?_
      cases hf
      exact W.iret hx hb hr (fun t ht hW => ⟨_, rfl, rfl, ht⟩) (fun _ h => by cases h) dX1_letterAt_22
    · have hf := im c_2 hf
      refine lv_aload_n hx hb dX1_letterAt_12 rfl (lv_at hl 0 rfl) ?_
      refine va_get (D := D) (ci := 1) (v := .ref h_letters) (C := RX1) (T := TX1) (N := 2) hx hb hts uX1_letterAt_X1 hown hK hP 0 rfl rfl 0 (by decide) (hts (.fieldLink RX1 9 "SpeaksForTheChair$Page" "letters" "[C") (List.mem_of_getElem? (i := 2) rfl)) (fun _ h9 => h9) rfl dX1_letterAt_13 ?_
      refine lv_iload_n hx hb dX1_letterAt_16 rfl (lv_at hl 1 rfl) ?_
      obtain ⟨g_3, hf⟩ := gu_in hf
      refine va_cald hx hb hK hP 1 1 rfl rfl g_3 dX1_letterAt_17 ?_
      refine lv_goto (tgt := 22) hx hb dX1_letterAt_18 (by decide) ?_
      cases hf
      exact W.iret hx hb hr (fun t ht hW => ⟨_, rfl, rfl, ht⟩) (fun _ h => by cases h) dX1_letterAt_22
set_option maxHeartbeats 4000000 in
set_option maxRecDepth 100000 in
theorem c_X0_numbersBehind (l : Launch) (D : va_G) (cI cC cL cB : ClassId) (a1 : Int32) (r : Int32) (hf : m_X0_numbersBehind a1 = some r) : Met l yX0_numbersBehind wsX0_numbersBehind ({ frames := 0, cells := 0, slots := 0, locals := 0 }) (va_Pc [.int a1] (q_R D vwCl (tyL cI cC cL cB) [])) (vp_Si (fun r' => r' = r)) 0 0 (fun _ => False) := by
  refine Met.ofW (cc := cX0_numbersBehind) (maxL := 1) (ret := (some .int)) (by decide) rfl ?_
  intro p e s m args below meth c s₁ B hml hv
  obtain ⟨rfl, hP, hK⟩ := hv
  have hx := B.exec
  have hb := B.bytes
  have hr := B.returns
  have hts := atoms_spec (ws := wsX0_numbersBehind) B.pre
  have hown : s.vm.findClass RX0 = some m.cls := findClass_of_methodNamed B.named
  have hlocks := B.notSynchronized
  have hl := lv_entry ([.int a1]) (n := 1) (Nat.le_of_ble_eq_true rfl)
  rw [lg_entry_eq]
  generalize (lg_sl ([.int a1]) ++ List.replicate (1 - (lg_sl ([.int a1])).length) Slot.unset).toArray = ls at hl ⊢
  have hl : lv_has ls 1 [(0, .int a1)] := hl
  unfold m_X0_numbersBehind at hf
  refine lv_iload_n hx hb dX0_numbersBehind_0 rfl (lv_at hl 0 rfl) ?_
  by_cases k0 : a1 = 100
  · have hf := ip k0 hf
    refine lv_lookup (tgt := 46) hx hb dX0_numbersBehind_1 (by decide) (by rw [k0] <;> rfl) (by decide) ?_
    refine lv_iconst (v := 4) hx hb dX0_numbersBehind_46 (by decide) ?_
    cases hf
    exact W.iret hx hb hr (fun t ht hW => ⟨_, rfl, rfl, ht⟩) (fun _ h => by cases h) dX0_numbersBehind_47
  · have hf := im k0 hf
    by_cases k1 : a1 = 108
    · have hf := ip k1 hf
      refine lv_lookup (tgt := 50) hx hb dX0_numbersBehind_1 (by decide) (by rw [k1] <;> rfl) (by decide) ?_
      refine lv_iconst (v := 1) hx hb dX0_numbersBehind_50 (by decide) ?_
      cases hf
      exact W.iret hx hb hr (fun t ht hW => ⟨_, rfl, rfl, ht⟩) (fun _ h => by cases h) dX0_numbersBehind_51
    · have hf := im k1 hf
      by_cases k2 : a1 = 109
      · have hf := ip k2 hf
        refine lv_lookup (tgt := 48) hx hb dX0_numbersBehind_1 (by decide) (by rw [k2] <;> rfl) (by decide) ?_
        refine lv_iconst (v := 1) hx hb dX0_numbersBehind_48 (by decide) ?_
        cases hf
        exact W.iret hx hb hr (fun t ht hW => ⟨_, rfl, rfl, ht⟩) (fun _ h => by cases h) dX0_numbersBehind_49
      · have hf := im k2 hf
        by_cases k3 : a1 = 112
        · have hf := ip k3 hf
          refine lv_lookup (tgt := 44) hx hb dX0_numbersBehind_1 (by decide) (by rw [k3] <;> rfl) (by decide) ?_
          refine lv_iconst (v := 3) hx hb dX0_numbersBehind_44 (by decide) ?_
          cases hf
          exact W.iret hx hb hr (fun t ht hW => ⟨_, rfl, rfl, ht⟩) (fun _ h => by cases h) dX0_numbersBehind_45
        · have hf := im k3 hf
          refine lv_lookup (off := 51) (tgt := 52) hx hb dX0_numbersBehind_1 (by decide) ((lv_osw k0 rfl).trans ( (lv_osw k1 rfl).trans ( (lv_osw k2 rfl).trans ( (lv_osw k3 rfl).trans (rfl))))) (by decide) ?_
          refine lv_iconst (v := 0) hx hb dX0_numbersBehind_52 (by decide) ?_
          cases hf
          exact W.iret hx hb hr (fun t ht hW => ⟨_, rfl, rfl, ht⟩) (fun _ h => by cases h) dX0_numbersBehind_53
set_option maxHeartbeats 4000000 in
set_option maxRecDepth 100000 in
theorem c_X0_isFigure (l : Launch) (D : va_G) (cI cC cL cB : ClassId) (a1 : Int32) (r : Int32) (hf : m_X0_isFigure a1 = some r) : Met l yX0_isFigure wsX0_isFigure ({ frames := 0, cells := 0, slots := 0, locals := 0 }) (va_Pc [.int a1] (q_R D vwCl (tyL cI cC cL cB) [])) (vp_Si (fun r' => r' = r)) 0 0 (fun _ => False) := by
  refine Met.ofW (cc := cX0_isFigure) (maxL := 1) (ret := (some .boolean)) (by decide) rfl ?_
  intro p e s m args below meth c s₁ B hml hv
  obtain ⟨rfl, hP, hK⟩ := hv
  have hx := B.exec
  have hb := B.bytes
  have hr := B.returns
  have hts := atoms_spec (ws := wsX0_isFigure) B.pre
  have hown : s.vm.findClass RX0 = some m.cls := findClass_of_methodNamed B.named
  have hlocks := B.notSynchronized
  have hl := lv_entry ([.int a1]) (n := 1) (Nat.le_of_ble_eq_true rfl)
  rw [lg_entry_eq]
  generalize (lg_sl ([.int a1]) ++ List.replicate (1 - (lg_sl ([.int a1])).length) Slot.unset).toArray = ls at hl ⊢
  have hl : lv_has ls 1 [(0, .int a1)] := hl
  unfold m_X0_isFigure at hf
  refine lv_iload_n hx hb dX0_isFigure_0 rfl (lv_at hl 0 rfl) ?_
  refine lv_bipush (v := 48) hx hb dX0_isFigure_1 (by decide) ?_
  refine lv_icmp_lt (tgt := 16) hx hb dX0_isFigure_3 (by decide) (fun c_1 => ?_) (fun c_1 => ?_)
  · have hf := ip c_1 hf
    refine lv_iconst (v := 0) hx hb dX0_isFigure_16 (by decide) ?_
    cases hf
    exact W.zret hx hb hr rfl (fun t ht hW => ⟨_, rfl, rfl, ht⟩) (fun _ h => by cases h) dX0_isFigure_17
  · have hf := im c_1 hf
    refine lv_iload_n hx hb dX0_isFigure_6 rfl (lv_at hl 0 rfl) ?_
    refine lv_bipush (v := 57) hx hb dX0_isFigure_7 (by decide) ?_
    refine lv_icmp_gt (tgt := 16) hx hb dX0_isFigure_9 (by decide) (fun c_2 => ?_) (fun c_2 => ?_)
    · have hf := ip c_2 hf
      refine lv_iconst (v := 0) hx hb dX0_isFigure_16 (by decide) ?_
      cases hf
      exact W.zret hx hb hr rfl (fun t ht hW => ⟨_, rfl, rfl, ht⟩) (fun _ h => by cases h) dX0_isFigure_17
    · have hf := im c_2 hf
      refine lv_iconst (v := 1) hx hb dX0_isFigure_12 (by decide) ?_
      refine lv_goto (tgt := 17) hx hb dX0_isFigure_13 (by decide) ?_
      cases hf
      exact W.zret hx hb hr rfl (fun t ht hW => ⟨_, rfl, rfl, ht⟩) (fun _ h => by cases h) dX0_isFigure_17
set_option maxHeartbeats 4000000 in
set_option maxRecDepth 100000 in
theorem c_X0_figuresAt (l : Launch) (D : va_G) (cI cC cL cB : ClassId) (a1 : Nat) (a1_letters : Nat) (a2 : Int32) (a1_length : Int32) (a1_letters_c : Nat → Int32) (r : Int32) (hf : m_X0_figuresAt a2 a1_length a1_letters_c = some r) : Met l yX0_figuresAt wsX0_figuresAt ({ frames := 1, cells := 0, slots := 0, locals := 21 }) (va_Pc [.ref a1, .int a2] (q_R D vwCl (tyL cI cC cL cB) [(a1, .inr (1, [.ref a1_letters, .int a1_length])), (a1_letters, .inl (cC, 200, .inl a1_letters_c))])) (vp_Si (fun r' => r' = r)) 0 0 (fun _ => False) := by
  refine Met.ofW (cc := cX0_figuresAt) (maxL := 2) (ret := (some .int)) (by decide) rfl ?_
  intro p e s m args below meth c s₁ B hml hv
  obtain ⟨rfl, hP, hK⟩ := hv
  have hx := B.exec
  have hb := B.bytes
  have hr := B.returns
  have hts := atoms_spec (ws := wsX0_figuresAt) B.pre
  have hown : s.vm.findClass RX0 = some m.cls := findClass_of_methodNamed B.named
  have hlocks := B.notSynchronized
  have hl := lv_entry ([.ref a1, .int a2]) (n := 2) (Nat.le_of_ble_eq_true rfl)
  rw [lg_entry_eq]
  generalize (lg_sl ([.ref a1, .int a2]) ++ List.replicate (2 - (lg_sl ([.ref a1, .int a2])).length) Slot.unset).toArray = ls at hl ⊢
  have hl : lv_has ls 2 [(0, .ref a1), (1, .int a2)] := hl
  unfold m_X0_figuresAt at hf
  refine lv_aload_n hx hb dX0_figuresAt_0 rfl (lv_at hl 0 rfl) ?_
  refine lv_iload_n hx hb dX0_figuresAt_1 rfl (lv_at hl 1 rfl) ?_
  obtain ⟨x1, hv_1, hf⟩ := ob1_some hf
  refine q_rVi (As := [.int a2]) (rest := []) (r := x1) ⟨hx, hb, hml, hown, hts⟩ (c_X1_letterAt l D cI cC cL cB a1 a1_letters a2 a1_length a1_letters_c x1 hv_1) (cwV 1 hts gX0_figuresAt_X1_letterAt rfl rfl rfl (by decide +kernel) ⟨Nat.le_of_ble_eq_true rfl, Nat.le_of_ble_eq_true rfl⟩) hK hP [0, 1] rfl (va_recv hK hP (ci := 1) (q0 := 0) rfl rfl) rfl hl.1 rfl (Nat.le_of_ble_eq_true rfl) dX0_figuresAt_2 ⟨Nat.le_of_ble_eq_true rfl, Nat.le_of_ble_eq_true rfl⟩ ?_
  obtain ⟨x2, hv_2, hf⟩ := ob1_some hf
  refine q_rSi (As := [.int x1]) (rest := []) (r := x2) ⟨hx, hb, hml, hown, hts⟩ (c_X0_isFigure l D cI cC cL cB x1 x2 hv_2) (va_cwS 1 hts gX0_figuresAt_X0_isFigure rfl rfl rfl (by decide +kernel) ⟨Nat.le_of_ble_eq_true rfl, Nat.le_of_ble_eq_true rfl⟩) hK hP [] rfl rfl hl.1 rfl (Nat.le_of_ble_eq_true rfl) dX0_figuresAt_5 ⟨Nat.le_of_ble_eq_true rfl, Nat.le_of_ble_eq_true rfl⟩ ?_
  refine lv_if_ne (tgt := 13) hx hb dX0_figuresAt_8 (by decide) (fun c_3 => ?_) (fun c_3 => ?_)
  · have hf := im c_3 hf
    refine lv_aload_n hx hb dX0_figuresAt_13 rfl (lv_at hl 0 rfl) ?_
    refine lv_iload_n hx hb dX0_figuresAt_14 rfl (lv_at hl 1 rfl) ?_
    refine lv_iconst (v := 1) hx hb dX0_figuresAt_15 (by decide) ?_
    refine lv_iadd hx hb dX0_figuresAt_16 ?_
    obtain ⟨x3, hv_4, hf⟩ := ob1_some hf
    refine q_rVi (As := [.int (a2 + 1)]) (rest := []) (r := x3) ⟨hx, hb, hml, hown, hts⟩ (c_X1_letterAt l D cI cC cL cB a1 a1_letters ((a2 + 1)) a1_length a1_letters_c x3 hv_4) (cwV 1 hts gX0_figuresAt_X1_letterAt rfl rfl rfl (by decide +kernel) ⟨Nat.le_of_ble_eq_true rfl, Nat.le_of_ble_eq_true rfl⟩) hK hP [0, 1] rfl (va_recv hK hP (ci := 1) (q0 := 0) rfl rfl) rfl hl.1 rfl (Nat.le_of_ble_eq_true rfl) dX0_figuresAt_17 ⟨Nat.le_of_ble_eq_true rfl, Nat.le_of_ble_eq_true rfl⟩ ?_
    obtain ⟨x4, hv_5, hf⟩ := ob1_some hf
    refine q_rSi (As := [.int x3]) (rest := []) (r := x4) ⟨hx, hb, hml, hown, hts⟩ (c_X0_isFigure l D cI cC cL cB x3 x4 hv_5) (va_cwS 1 hts gX0_figuresAt_X0_isFigure rfl rfl rfl (by decide +kernel) ⟨Nat.le_of_ble_eq_true rfl, Nat.le_of_ble_eq_true rfl⟩) hK hP [] rfl rfl hl.1 rfl (Nat.le_of_ble_eq_true rfl) dX0_figuresAt_20 ⟨Nat.le_of_ble_eq_true rfl, Nat.le_of_ble_eq_true rfl⟩ ?_
    refine lv_if_eq (tgt := 30) hx hb dX0_figuresAt_23 (by decide) (fun c_6 => ?_) (fun c_6 => ?_)
    · have hf := ip c_6 hf
      refine lv_iconst (v := 1) hx hb dX0_figuresAt_30 (by decide) ?_
      cases hf
      exact W.iret hx hb hr (fun t ht hW => ⟨_, rfl, rfl, ht⟩) (fun _ h => by cases h) dX0_figuresAt_31
    · have hf := im c_6 hf
      refine lv_iconst (v := 2) hx hb dX0_figuresAt_26 (by decide) ?_
      refine lv_goto (tgt := 31) hx hb dX0_figuresAt_27 (by decide) ?_
      cases hf
      exact W.iret hx hb hr (fun t ht hW => ⟨_, rfl, rfl, ht⟩) (fun _ h => by cases h) dX0_figuresAt_31
  · have hf := ip c_3 hf
    refine lv_iconst (v := 0) hx hb dX0_figuresAt_11 (by decide) ?_
    cases hf
    exact W.iret hx hb hr (fun t ht hW => ⟨_, rfl, rfl, ht⟩) (fun _ h => by cases h) dX0_figuresAt_12
set_option maxHeartbeats 4000000 in
set_option maxRecDepth 100000 in
theorem c_X0_numberAt (l : Launch) (D : va_G) (cI cC cL cB : ClassId) (a1 : Nat) (a1_letters : Nat) (a2 : Int32) (a3 : Int32) (a1_length : Int32) (a1_letters_c : Nat → Int32) (r : Int32) (hf : m_X0_numberAt a2 a3 a1_length a1_letters_c = some r) : Met l yX0_numberAt wsX0_numberAt ({ frames := 1, cells := 0, slots := 0, locals := 21 }) (va_Pc [.ref a1, .int a2, .int a3] (q_R D vwCl (tyL cI cC cL cB) [(a1, .inr (1, [.ref a1_letters, .int a1_length])), (a1_letters, .inl (cC, 200, .inl a1_letters_c))])) (vp_Si (fun r' => r' = r)) 0 0 (fun _ => False) := by
  refine Met.ofW (cc := cX0_numberAt) (maxL := 4) (ret := (some .int)) (by decide) rfl ?_
  intro p e s m args below meth c s₁ B hml hv
  obtain ⟨rfl, hP, hK⟩ := hv
  have hx := B.exec
  have hb := B.bytes
  have hr := B.returns
  have hts := atoms_spec (ws := wsX0_numberAt) B.pre
  have hown : s.vm.findClass RX0 = some m.cls := findClass_of_methodNamed B.named
  have hlocks := B.notSynchronized
  have hl := lv_entry ([.ref a1, .int a2, .int a3]) (n := 4) (Nat.le_of_ble_eq_true rfl)
  rw [lg_entry_eq]
  generalize (lg_sl ([.ref a1, .int a2, .int a3]) ++ List.replicate (4 - (lg_sl ([.ref a1, .int a2, .int a3])).length) Slot.unset).toArray = ls at hl ⊢
  have hl : lv_has ls 4 [(0, .ref a1), (1, .int a2), (2, .int a3)] := hl
  unfold m_X0_numberAt at hf
  refine lv_aload_n hx hb dX0_numberAt_0 rfl (lv_at hl 0 rfl) ?_
  refine lv_iload_n hx hb dX0_numberAt_1 rfl (lv_at hl 1 rfl) ?_
  obtain ⟨x1, hv_1, hf⟩ := ob1_some hf
  refine q_rVi (As := [.int a2]) (rest := []) (r := x1) ⟨hx, hb, hml, hown, hts⟩ (c_X1_letterAt l D cI cC cL cB a1 a1_letters a2 a1_length a1_letters_c x1 hv_1) (cwV 1 hts gX0_numberAt_X1_letterAt rfl rfl rfl (by decide +kernel) ⟨Nat.le_of_ble_eq_true rfl, Nat.le_of_ble_eq_true rfl⟩) hK hP [0, 1] rfl (va_recv hK hP (ci := 1) (q0 := 0) rfl rfl) rfl hl.1 rfl (Nat.le_of_ble_eq_true rfl) dX0_numberAt_2 ⟨Nat.le_of_ble_eq_true rfl, Nat.le_of_ble_eq_true rfl⟩ ?_
  refine lv_bipush (v := 48) hx hb dX0_numberAt_5 (by decide) ?_
  refine lv_isub hx hb dX0_numberAt_7 ?_
  refine lv_topi (fun x2 ex2 => ?_)
  have hf := pv_eq ex2 hf
  refine lv_istore_n (lv' := [(3, .int x2), (0, .ref a1), (1, .int a2), (2, .int a3)]) hx hb dX0_numberAt_8 rfl hl (by decide) rfl (fun ls hl => ?_)
  refine lv_iload_n hx hb dX0_numberAt_9 rfl (lv_at hl 3 rfl) ?_
  refine lv_iconst (v := 2) hx hb dX0_numberAt_10 (by decide) ?_
  refine lv_icmp_ne (tgt := 32) hx hb dX0_numberAt_11 (by decide) (fun c_2 => ?_) (fun c_2 => ?_)
  · have hf := im c_2 hf
    refine lv_iload_n hx hb dX0_numberAt_32 rfl (lv_at hl 0 rfl) ?_
    cases hf
    exact W.iret hx hb hr (fun t ht hW => ⟨_, rfl, rfl, ht⟩) (fun _ h => by cases h) dX0_numberAt_33
  · have hf := ip c_2 hf
    refine lv_iload_n hx hb dX0_numberAt_14 rfl (lv_at hl 0 rfl) ?_
    refine lv_bipush (v := 10) hx hb dX0_numberAt_15 (by decide) ?_
    refine lv_imul hx hb dX0_numberAt_17 ?_
    refine lv_aload_n hx hb dX0_numberAt_18 rfl (lv_at hl 1 rfl) ?_
    refine lv_iload_n hx hb dX0_numberAt_19 rfl (lv_at hl 2 rfl) ?_
    refine lv_iconst (v := 1) hx hb dX0_numberAt_20 (by decide) ?_
    refine lv_iadd hx hb dX0_numberAt_21 ?_
    obtain ⟨x3, hv_3, hf⟩ := ob1_some hf
    refine q_rVi (As := [.int (a2 + 1)]) (rest := [.int (x2 * 10)]) (r := x3) ⟨hx, hb, hml, hown, hts⟩ (c_X1_letterAt l D cI cC cL cB a1 a1_letters ((a2 + 1)) a1_length a1_letters_c x3 hv_3) (cwV 1 hts gX0_numberAt_X1_letterAt rfl rfl rfl (by decide +kernel) ⟨Nat.le_of_ble_eq_true rfl, Nat.le_of_ble_eq_true rfl⟩) hK hP [0, 1] rfl (va_recv hK hP (ci := 1) (q0 := 0) rfl rfl) rfl hl.1 rfl (Nat.le_of_ble_eq_true rfl) dX0_numberAt_22 ⟨Nat.le_of_ble_eq_true rfl, Nat.le_of_ble_eq_true rfl⟩ ?_
    refine lv_iadd hx hb dX0_numberAt_25 ?_
    refine lv_bipush (v := 48) hx hb dX0_numberAt_26 (by decide) ?_
    refine lv_isub hx hb dX0_numberAt_28 ?_
    refine lv_goto (tgt := 33) hx hb dX0_numberAt_29 (by decide) ?_
    cases hf
    exact W.iret hx hb hr (fun t ht hW => ⟨_, rfl, rfl, ht⟩) (fun _ h => by cases h) dX0_numberAt_33
theorem uX0_takePiece_X0 : ∀ w ∈ wsX00, w ∈ wsX0_takePiece := fun w h => List.mem_cons_of_mem _ (List.mem_append_right _ h)
set_option maxHeartbeats 4000000 in
set_option maxRecDepth 100000 in
theorem c_X0_takePiece (l : Launch) (D : va_G) (cI cC cL cB : ClassId) (sz : Nat) (h : Nat) (h_kinds : Nat) (h_prices : Nat) (h_persons : Nat) (h_places : Nat) (h_hours : Nat) (h_weights : Nat) (h_numbers : Nat) (h_pieces : Int32) (h_roomsAtFirst : Int32) (h_deeds : Int32) (h_coins : Int32) (h_law : Int32) (h_numbers_c : Nat → Int32) (h_kinds_c : Nat → Int32) (h_prices_c : Nat → Int32) (r : Int32) (o0 : Int32) (o1 : Int32) (o2 : Nat → Int32) (o3 : Nat → Int32) (hf : m_X0_takePiece h_pieces h_roomsAtFirst h_numbers_c h_kinds_c h_prices_c = some (r, o0, o1, o2, o3)) : Met l yX0_takePiece wsX0_takePiece ({ frames := 0, cells := 0, slots := 0, locals := 0 }) (va_Pc [.ref h] (q_W D vwCl (tyL cI cC cL cB) [(h, .inr (0, [.int h_pieces, .ref h_kinds, .ref h_prices, .int h_roomsAtFirst, .int h_deeds, .ref h_persons, .ref h_places, .ref h_hours, .ref h_weights, .int h_coins, .int h_law, .ref h_numbers])), (h_numbers, .inl (cI, 4, .inl h_numbers_c)), (h_kinds, .inl (cI, 8, .inl h_kinds_c)), (h_prices, .inl (cI, 8, .inl h_prices_c))] sz)) (va_Qi (fun r' _ => r' = r) (q_E D vwCl (tyL cI cC cL cB) (va_A [(h, .inr (0, [.int h_pieces, .ref h_kinds, .ref h_prices, .int h_roomsAtFirst, .int h_deeds, .ref h_persons, .ref h_places, .ref h_hours, .ref h_weights, .int h_coins, .int h_law, .ref h_numbers])), (h_numbers, .inl (cI, 4, .inl h_numbers_c)), (h_kinds, .inl (cI, 8, .inl h_kinds_c)), (h_prices, .inl (cI, 8, .inl h_prices_c))] sz) [(h, .inr (0, [.int o0, .ref h_kinds, .ref h_prices, .int o1, .int h_deeds, .ref h_persons, .ref h_places, .ref h_hours, .ref h_weights, .int h_coins, .int h_law, .ref h_numbers])), (h_numbers, .inl (cI, 4, .inl h_numbers_c)), (h_kinds, .inl (cI, 8, .inl o2)), (h_prices, .inl (cI, 8, .inl o3))]) (va_A [(h, .inr (0, [.int h_pieces, .ref h_kinds, .ref h_prices, .int h_roomsAtFirst, .int h_deeds, .ref h_persons, .ref h_places, .ref h_hours, .ref h_weights, .int h_coins, .int h_law, .ref h_numbers])), (h_numbers, .inl (cI, 4, .inl h_numbers_c)), (h_kinds, .inl (cI, 8, .inl h_kinds_c)), (h_prices, .inl (cI, 8, .inl h_prices_c))] sz)) 0 0 (va_A [(h, .inr (0, [.int h_pieces, .ref h_kinds, .ref h_prices, .int h_roomsAtFirst, .int h_deeds, .ref h_persons, .ref h_places, .ref h_hours, .ref h_weights, .int h_coins, .int h_law, .ref h_numbers])), (h_numbers, .inl (cI, 4, .inl h_numbers_c)), (h_kinds, .inl (cI, 8, .inl h_kinds_c)), (h_prices, .inl (cI, 8, .inl h_prices_c))] sz) := by
  refine Met.ofW (cc := cX0_takePiece) (maxL := 1) (ret := (some .boolean)) (by decide) rfl ?_
  intro p e s m args below meth c s₁ B hml hv
  obtain ⟨rfl, hsz, hP, hK, hD0⟩ := hv
  have hx := B.exec
  have hb := B.bytes
  have hr := B.returns
  have hts := atoms_spec (ws := wsX0_takePiece) B.pre
  have hown : s.vm.findClass RX0 = some m.cls := findClass_of_methodNamed B.named
  have hlocks := B.notSynchronized
  subst hsz
  have hD := hD0.self (sz := s.heap.size)
  generalize hAe : va_A [(h, .inr (0, [.int h_pieces, .ref h_kinds, .ref h_prices, .int h_roomsAtFirst, .int h_deeds, .ref h_persons, .ref h_places, .ref h_hours, .ref h_weights, .int h_coins, .int h_law, .ref h_numbers])), (h_numbers, .inl (cI, 4, .inl h_numbers_c)), (h_kinds, .inl (cI, 8, .inl h_kinds_c)), (h_prices, .inl (cI, 8, .inl h_prices_c))] s.heap.size = A at hD ⊢
  have hA : ∀ q : Nat, s.heap.size ≤ q → A q := fun q h => by rw [← hAe]; exact Or.inr h
  have hS : va_S A s.heap s.heap [] := va_S.rf
  have hP : va_P D vwCl [(h, .inr (0, [.int h_pieces, .ref h_kinds, .ref h_prices, .int h_roomsAtFirst, .int h_deeds, .ref h_persons, .ref h_places, .ref h_hours, .ref h_weights, .int h_coins, .int h_law, .ref h_numbers])), (h_numbers, .inl (cI, 4, .inl h_numbers_c)), (h_kinds, .inl (cI, 8, .inl h_kinds_c)), (h_prices, .inl (cI, 8, .inl h_prices_c))] s.heap := hP
  have hl := lv_entry ([.ref h]) (n := 1) (Nat.le_of_ble_eq_true rfl)
  rw [lg_entry_eq]
  generalize (lg_sl ([.ref h]) ++ List.replicate (1 - (lg_sl ([.ref h])).length) Slot.unset).toArray = ls at hl ⊢
  have hl : lv_has ls 1 [(0, .ref h)] := hl
  unfold m_X0_takePiece at hf
  refine lv_aload_n hx hb dX0_takePiece_0 rfl (lv_at hl 0 rfl) ?_
  refine va_get (D := D) (ci := 0) (v := .int h_pieces) (C := RX0) (T := TX0) (N := 12) hx hb hts uX0_takePiece_X0 hown hK hP 0 rfl rfl 0 (by decide) (hts (.fieldLink RX0 33 "SpeaksForTheChair$House" "pieces" "I") (List.mem_of_getElem? (i := 1) rfl)) (fun _ h9 => h9) rfl dX0_takePiece_1 ?_
  refine lv_bipush (v := 8) hx hb dX0_takePiece_4 (by decide) ?_
  refine lv_icmp_ge (tgt := 40) hx hb dX0_takePiece_6 (by decide) (fun c_1 => ?_) (fun c_1 => ?_)
  · have hf := ip c_1 hf
    refine lv_iconst (v := 0) hx hb dX0_takePiece_40 (by decide) ?_
    cases hf
    exact W.zret hx hb hr rfl (fun t ht hW => ⟨⟨_, (), rfl, rfl, by rw [ht]; exact hP, va_K.moved hW.alike hK, hD⟩, hS.F ht⟩) hS.2.2 dX0_takePiece_41
  · have hf := im c_1 hf
    refine lv_aload_n hx hb dX0_takePiece_9 rfl (lv_at hl 0 rfl) ?_
    refine va_get (D := D) (ci := 0) (v := .ref h_numbers) (C := RX0) (T := TX0) (N := 12) hx hb hts uX0_takePiece_X0 hown hK hP 0 rfl rfl 11 (by decide) (hts (.fieldLink RX0 30 "SpeaksForTheChair$House" "numbers" "[I") (List.mem_of_getElem? (i := 2) rfl)) (fun _ h9 => h9) rfl dX0_takePiece_10 ?_
    refine lv_iconst (v := 0) hx hb dX0_takePiece_13 (by decide) ?_
    refine va_iald hx hb hK hP 1 0 rfl rfl (okI_in (by decide)) dX0_takePiece_14 ?_
    refine lv_iconst (v := 4) hx hb dX0_takePiece_15 (by decide) ?_
    refine lv_icmp_ge (tgt := 40) hx hb dX0_takePiece_16 (by decide) (fun c_2 => ?_) (fun c_2 => ?_)
    · have hf := ip c_2 hf
      refine lv_iconst (v := 0) hx hb dX0_takePiece_40 (by decide) ?_
      cases hf
      exact W.zret hx hb hr rfl (fun t ht hW => ⟨⟨_, (), rfl, rfl, by rw [ht]; exact hP, va_K.moved hW.alike hK, hD⟩, hS.F ht⟩) hS.2.2 dX0_takePiece_41
    · have hf := im c_2 hf
      refine lv_aload_n hx hb dX0_takePiece_19 rfl (lv_at hl 0 rfl) ?_
      refine va_get (D := D) (ci := 0) (v := .ref h_numbers) (C := RX0) (T := TX0) (N := 12) hx hb hts uX0_takePiece_X0 hown hK hP 0 rfl rfl 11 (by decide) (hts (.fieldLink RX0 30 "SpeaksForTheChair$House" "numbers" "[I") (List.mem_of_getElem? (i := 2) rfl)) (fun _ h9 => h9) rfl dX0_takePiece_20 ?_
      refine lv_iconst (v := 1) hx hb dX0_takePiece_23 (by decide) ?_
      refine va_iald hx hb hK hP 1 0 rfl rfl (okI_in (by decide)) dX0_takePiece_24 ?_
      refine lv_iconst (v := 4) hx hb dX0_takePiece_25 (by decide) ?_
      refine lv_icmp_ge (tgt := 40) hx hb dX0_takePiece_26 (by decide) (fun c_3 => ?_) (fun c_3 => ?_)
      · have hf := ip c_3 hf
        refine lv_iconst (v := 0) hx hb dX0_takePiece_40 (by decide) ?_
        cases hf
        exact W.zret hx hb hr rfl (fun t ht hW => ⟨⟨_, (), rfl, rfl, by rw [ht]; exact hP, va_K.moved hW.alike hK, hD⟩, hS.F ht⟩) hS.2.2 dX0_takePiece_41
      · have hf := im c_3 hf
        refine lv_aload_n hx hb dX0_takePiece_29 rfl (lv_at hl 0 rfl) ?_
        refine va_get (D := D) (ci := 0) (v := .ref h_numbers) (C := RX0) (T := TX0) (N := 12) hx hb hts uX0_takePiece_X0 hown hK hP 0 rfl rfl 11 (by decide) (hts (.fieldLink RX0 30 "SpeaksForTheChair$House" "numbers" "[I") (List.mem_of_getElem? (i := 2) rfl)) (fun _ h9 => h9) rfl dX0_takePiece_30 ?_
        refine lv_iconst (v := 2) hx hb dX0_takePiece_33 (by decide) ?_
        refine va_iald hx hb hK hP 1 0 rfl rfl (okI_in (by decide)) dX0_takePiece_34 ?_
        refine lv_bipush (v := 60) hx hb dX0_takePiece_35 (by decide) ?_
        refine lv_icmp_le (tgt := 42) hx hb dX0_takePiece_37 (by decide) (fun c_4 => ?_) (fun c_4 => ?_)
        · have hf := ip c_4 hf
          refine lv_aload_n hx hb dX0_takePiece_42 rfl (lv_at hl 0 rfl) ?_
          refine va_get (D := D) (ci := 0) (v := .ref h_kinds) (C := RX0) (T := TX0) (N := 12) hx hb hts uX0_takePiece_X0 hown hK hP 0 rfl rfl 1 (by decide) (hts (.fieldLink RX0 9 "SpeaksForTheChair$House" "kinds" "[I") (List.mem_of_getElem? (i := 3) rfl)) (fun _ h9 => h9) rfl dX0_takePiece_43 ?_
          refine lv_aload_n hx hb dX0_takePiece_46 rfl (lv_at hl 0 rfl) ?_
          refine va_get (D := D) (ci := 0) (v := .int h_pieces) (C := RX0) (T := TX0) (N := 12) hx hb hts uX0_takePiece_X0 hown hK hP 0 rfl rfl 0 (by decide) (hts (.fieldLink RX0 33 "SpeaksForTheChair$House" "pieces" "I") (List.mem_of_getElem? (i := 1) rfl)) (fun _ h9 => h9) rfl dX0_takePiece_47 ?_
          refine lv_aload_n hx hb dX0_takePiece_50 rfl (lv_at hl 0 rfl) ?_
          refine va_get (D := D) (ci := 0) (v := .ref h_numbers) (C := RX0) (T := TX0) (N := 12) hx hb hts uX0_takePiece_X0 hown hK hP 0 rfl rfl 11 (by decide) (hts (.fieldLink RX0 30 "SpeaksForTheChair$House" "numbers" "[I") (List.mem_of_getElem? (i := 2) rfl)) (fun _ h9 => h9) rfl dX0_takePiece_51 ?_
          refine lv_iconst (v := 0) hx hb dX0_takePiece_54 (by decide) ?_
          refine va_iald hx hb hK hP 1 0 rfl rfl (okI_in (by decide)) dX0_takePiece_55 ?_
          obtain ⟨g_5, hf⟩ := gu_in hf
          refine va_iast hx hb hK hP hD hS 2 0 rfl rfl g_5 dX0_takePiece_56 (fun H locs hP hD hS => ?_)
          obtain ⟨c1, ec1⟩ : ∃ y : Nat → Int32, y = (upd h_kinds_c h_pieces.toNatClampNeg (h_numbers_c (0 : Int32).toNatClampNeg)) := ⟨_, rfl⟩
          have hf := pv_eq ec1 hf
          rw [← ec1] at hP hD
          have hP : va_P D vwCl [(h, .inr (0, [.int h_pieces, .ref h_kinds, .ref h_prices, .int h_roomsAtFirst, .int h_deeds, .ref h_persons, .ref h_places, .ref h_hours, .ref h_weights, .int h_coins, .int h_law, .ref h_numbers])), (h_numbers, .inl (cI, 4, .inl h_numbers_c)), (h_kinds, .inl (cI, 8, .inl c1)), (h_prices, .inl (cI, 8, .inl h_prices_c))] H := hP
          have hD : va_D A [(h, .inr (0, [.int h_pieces, .ref h_kinds, .ref h_prices, .int h_roomsAtFirst, .int h_deeds, .ref h_persons, .ref h_places, .ref h_hours, .ref h_weights, .int h_coins, .int h_law, .ref h_numbers])), (h_numbers, .inl (cI, 4, .inl h_numbers_c)), (h_kinds, .inl (cI, 8, .inl c1)), (h_prices, .inl (cI, 8, .inl h_prices_c))] := hD
          refine lv_aload_n hx hb dX0_takePiece_57 rfl (lv_at hl 0 rfl) ?_
          refine lv_dup hx hb dX0_takePiece_58 rfl ?_
          refine va_get (D := D) (ci := 0) (v := .int h_roomsAtFirst) (C := RX0) (T := TX0) (N := 12) hx hb hts uX0_takePiece_X0 hown hK hP 0 rfl rfl 3 (by decide) (hts (.fieldLink RX0 40 "SpeaksForTheChair$House" "roomsAtFirst" "I") (List.mem_of_getElem? (i := 4) rfl)) (fun _ h9 => h9) rfl dX0_takePiece_59 ?_
          refine lv_aload_n hx hb dX0_takePiece_62 rfl (lv_at hl 0 rfl) ?_
          refine va_get (D := D) (ci := 0) (v := .ref h_numbers) (C := RX0) (T := TX0) (N := 12) hx hb hts uX0_takePiece_X0 hown hK hP 0 rfl rfl 11 (by decide) (hts (.fieldLink RX0 30 "SpeaksForTheChair$House" "numbers" "[I") (List.mem_of_getElem? (i := 2) rfl)) (fun _ h9 => h9) rfl dX0_takePiece_63 ?_
          refine lv_iconst (v := 1) hx hb dX0_takePiece_66 (by decide) ?_
          refine va_iald hx hb hK hP 1 0 rfl rfl (okI_in (by decide)) dX0_takePiece_67 ?_
          refine lv_iconst (v := 2) hx hb dX0_takePiece_68 (by decide) ?_
          refine lv_aload_n hx hb dX0_takePiece_69 rfl (lv_at hl 0 rfl) ?_
          refine va_get (D := D) (ci := 0) (v := .int h_pieces) (C := RX0) (T := TX0) (N := 12) hx hb hts uX0_takePiece_X0 hown hK hP 0 rfl rfl 0 (by decide) (hts (.fieldLink RX0 33 "SpeaksForTheChair$House" "pieces" "I") (List.mem_of_getElem? (i := 1) rfl)) (fun _ h9 => h9) rfl dX0_takePiece_70 ?_
          refine lv_imul hx hb dX0_takePiece_73 ?_
          refine lv_ishl hx hb dX0_takePiece_74 ?_
          refine lv_ior hx hb dX0_takePiece_75 ?_
          refine lv_topi (fun f2 ef2 => ?_)
          have hf := pv_eq ef2 hf
          refine va_put (D := D) (ci := 0) (v := .int f2) (ty := .int) (C := RX0) (T := TX0) (N := 12) hx hb hts uX0_takePiece_X0 tyX0 tyX0_ok nmX0 hown hK hP hD hS 0 rfl rfl 3 (by decide) (hts (.fieldLink RX0 40 "SpeaksForTheChair$House" "roomsAtFirst" "I") (List.mem_of_getElem? (i := 4) rfl)) (fun _ h9 => h9) rfl (by decide +kernel) rfl rfl (Nat.le_of_ble_eq_true rfl) dX0_takePiece_76 (fun H locs hP hD hS => ?_)
          have hP : va_P D vwCl [(h, .inr (0, [.int h_pieces, .ref h_kinds, .ref h_prices, .int f2, .int h_deeds, .ref h_persons, .ref h_places, .ref h_hours, .ref h_weights, .int h_coins, .int h_law, .ref h_numbers])), (h_numbers, .inl (cI, 4, .inl h_numbers_c)), (h_kinds, .inl (cI, 8, .inl c1)), (h_prices, .inl (cI, 8, .inl h_prices_c))] H := hP
          have hD : va_D A [(h, .inr (0, [.int h_pieces, .ref h_kinds, .ref h_prices, .int f2, .int h_deeds, .ref h_persons, .ref h_places, .ref h_hours, .ref h_weights, .int h_coins, .int h_law, .ref h_numbers])), (h_numbers, .inl (cI, 4, .inl h_numbers_c)), (h_kinds, .inl (cI, 8, .inl c1)), (h_prices, .inl (cI, 8, .inl h_prices_c))] := hD
          refine lv_aload_n hx hb dX0_takePiece_79 rfl (lv_at hl 0 rfl) ?_
          refine va_get (D := D) (ci := 0) (v := .ref h_prices) (C := RX0) (T := TX0) (N := 12) hx hb hts uX0_takePiece_X0 hown hK hP 0 rfl rfl 2 (by decide) (hts (.fieldLink RX0 15 "SpeaksForTheChair$House" "prices" "[I") (List.mem_of_getElem? (i := 5) rfl)) (fun _ h9 => h9) rfl dX0_takePiece_80 ?_
          refine lv_aload_n hx hb dX0_takePiece_83 rfl (lv_at hl 0 rfl) ?_
          refine va_get (D := D) (ci := 0) (v := .int h_pieces) (C := RX0) (T := TX0) (N := 12) hx hb hts uX0_takePiece_X0 hown hK hP 0 rfl rfl 0 (by decide) (hts (.fieldLink RX0 33 "SpeaksForTheChair$House" "pieces" "I") (List.mem_of_getElem? (i := 1) rfl)) (fun _ h9 => h9) rfl dX0_takePiece_84 ?_
          refine lv_aload_n hx hb dX0_takePiece_87 rfl (lv_at hl 0 rfl) ?_
          refine va_get (D := D) (ci := 0) (v := .ref h_numbers) (C := RX0) (T := TX0) (N := 12) hx hb hts uX0_takePiece_X0 hown hK hP 0 rfl rfl 11 (by decide) (hts (.fieldLink RX0 30 "SpeaksForTheChair$House" "numbers" "[I") (List.mem_of_getElem? (i := 2) rfl)) (fun _ h9 => h9) rfl dX0_takePiece_88 ?_
          refine lv_iconst (v := 2) hx hb dX0_takePiece_91 (by decide) ?_
          refine va_iald hx hb hK hP 1 0 rfl rfl (okI_in (by decide)) dX0_takePiece_92 ?_
          obtain ⟨g_6, hf⟩ := gu_in hf
          refine va_iast hx hb hK hP hD hS 3 0 rfl rfl g_6 dX0_takePiece_93 (fun H locs hP hD hS => ?_)
          obtain ⟨c3, ec3⟩ : ∃ y : Nat → Int32, y = (upd h_prices_c h_pieces.toNatClampNeg (h_numbers_c (2 : Int32).toNatClampNeg)) := ⟨_, rfl⟩
          have hf := pv_eq ec3 hf
          rw [← ec3] at hP hD
          have hP : va_P D vwCl [(h, .inr (0, [.int h_pieces, .ref h_kinds, .ref h_prices, .int f2, .int h_deeds, .ref h_persons, .ref h_places, .ref h_hours, .ref h_weights, .int h_coins, .int h_law, .ref h_numbers])), (h_numbers, .inl (cI, 4, .inl h_numbers_c)), (h_kinds, .inl (cI, 8, .inl c1)), (h_prices, .inl (cI, 8, .inl c3))] H := hP
          have hD : va_D A [(h, .inr (0, [.int h_pieces, .ref h_kinds, .ref h_prices, .int f2, .int h_deeds, .ref h_persons, .ref h_places, .ref h_hours, .ref h_weights, .int h_coins, .int h_law, .ref h_numbers])), (h_numbers, .inl (cI, 4, .inl h_numbers_c)), (h_kinds, .inl (cI, 8, .inl c1)), (h_prices, .inl (cI, 8, .inl c3))] := hD
          refine lv_aload_n hx hb dX0_takePiece_94 rfl (lv_at hl 0 rfl) ?_
          refine lv_dup hx hb dX0_takePiece_95 rfl ?_
          refine va_get (D := D) (ci := 0) (v := .int h_pieces) (C := RX0) (T := TX0) (N := 12) hx hb hts uX0_takePiece_X0 hown hK hP 0 rfl rfl 0 (by decide) (hts (.fieldLink RX0 33 "SpeaksForTheChair$House" "pieces" "I") (List.mem_of_getElem? (i := 1) rfl)) (fun _ h9 => h9) rfl dX0_takePiece_96 ?_
          refine lv_iconst (v := 1) hx hb dX0_takePiece_99 (by decide) ?_
          refine lv_iadd hx hb dX0_takePiece_100 ?_
          refine lv_topi (fun f4 ef4 => ?_)
          have hf := pv_eq ef4 hf
          refine va_put (D := D) (ci := 0) (v := .int f4) (ty := .int) (C := RX0) (T := TX0) (N := 12) hx hb hts uX0_takePiece_X0 tyX0 tyX0_ok nmX0 hown hK hP hD hS 0 rfl rfl 0 (by decide) (hts (.fieldLink RX0 33 "SpeaksForTheChair$House" "pieces" "I") (List.mem_of_getElem? (i := 1) rfl)) (fun _ h9 => h9) rfl (by decide +kernel) rfl rfl (Nat.le_of_ble_eq_true rfl) dX0_takePiece_101 (fun H locs hP hD hS => ?_)
          have hP : va_P D vwCl [(h, .inr (0, [.int f4, .ref h_kinds, .ref h_prices, .int f2, .int h_deeds, .ref h_persons, .ref h_places, .ref h_hours, .ref h_weights, .int h_coins, .int h_law, .ref h_numbers])), (h_numbers, .inl (cI, 4, .inl h_numbers_c)), (h_kinds, .inl (cI, 8, .inl c1)), (h_prices, .inl (cI, 8, .inl c3))] H := hP
          have hD : va_D A [(h, .inr (0, [.int f4, .ref h_kinds, .ref h_prices, .int f2, .int h_deeds, .ref h_persons, .ref h_places, .ref h_hours, .ref h_weights, .int h_coins, .int h_law, .ref h_numbers])), (h_numbers, .inl (cI, 4, .inl h_numbers_c)), (h_kinds, .inl (cI, 8, .inl c1)), (h_prices, .inl (cI, 8, .inl c3))] := hD
          refine lv_iconst (v := 1) hx hb dX0_takePiece_104 (by decide) ?_
          cases hf
          exact W.zret hx hb hr rfl (fun t ht hW => ⟨⟨_, (), rfl, rfl, by rw [ht]; exact hP, va_K.moved hW.alike hK, hD⟩, hS.F ht⟩) hS.2.2 dX0_takePiece_105
        · have hf := im c_4 hf
          refine lv_iconst (v := 0) hx hb dX0_takePiece_40 (by decide) ?_
          cases hf
          exact W.zret hx hb hr rfl (fun t ht hW => ⟨⟨_, (), rfl, rfl, by rw [ht]; exact hP, va_K.moved hW.alike hK, hD⟩, hS.F ht⟩) hS.2.2 dX0_takePiece_41
theorem uX0_takeDeed_X0 : ∀ w ∈ wsX00, w ∈ wsX0_takeDeed := fun w h => List.mem_cons_of_mem _ (List.mem_append_right _ h)
set_option maxHeartbeats 4000000 in
set_option maxRecDepth 100000 in
theorem c_X0_takeDeed (l : Launch) (D : va_G) (cI cC cL cB : ClassId) (sz : Nat) (h : Nat) (h_kinds : Nat) (h_prices : Nat) (h_persons : Nat) (h_places : Nat) (h_hours : Nat) (h_weights : Nat) (h_numbers : Nat) (h_pieces : Int32) (h_roomsAtFirst : Int32) (h_deeds : Int32) (h_coins : Int32) (h_law : Int32) (h_numbers_c : Nat → Int32) (h_persons_c : Nat → Int32) (h_places_c : Nat → Int32) (h_hours_c : Nat → Int32) (h_weights_c : Nat → Int32) (r : Int32) (o0 : Int32) (o1 : Nat → Int32) (o2 : Nat → Int32) (o3 : Nat → Int32) (o4 : Nat → Int32) (hf : m_X0_takeDeed h_deeds h_numbers_c h_persons_c h_places_c h_hours_c h_weights_c = some (r, o0, o1, o2, o3, o4)) : Met l yX0_takeDeed wsX0_takeDeed ({ frames := 0, cells := 0, slots := 0, locals := 0 }) (va_Pc [.ref h] (q_W D vwCl (tyL cI cC cL cB) [(h, .inr (0, [.int h_pieces, .ref h_kinds, .ref h_prices, .int h_roomsAtFirst, .int h_deeds, .ref h_persons, .ref h_places, .ref h_hours, .ref h_weights, .int h_coins, .int h_law, .ref h_numbers])), (h_numbers, .inl (cI, 4, .inl h_numbers_c)), (h_persons, .inl (cI, 9, .inl h_persons_c)), (h_places, .inl (cI, 9, .inl h_places_c)), (h_hours, .inl (cI, 9, .inl h_hours_c)), (h_weights, .inl (cI, 9, .inl h_weights_c))] sz)) (va_Qi (fun r' _ => r' = r) (q_E D vwCl (tyL cI cC cL cB) (va_A [(h, .inr (0, [.int h_pieces, .ref h_kinds, .ref h_prices, .int h_roomsAtFirst, .int h_deeds, .ref h_persons, .ref h_places, .ref h_hours, .ref h_weights, .int h_coins, .int h_law, .ref h_numbers])), (h_numbers, .inl (cI, 4, .inl h_numbers_c)), (h_persons, .inl (cI, 9, .inl h_persons_c)), (h_places, .inl (cI, 9, .inl h_places_c)), (h_hours, .inl (cI, 9, .inl h_hours_c)), (h_weights, .inl (cI, 9, .inl h_weights_c))] sz) [(h, .inr (0, [.int h_pieces, .ref h_kinds, .ref h_prices, .int h_roomsAtFirst, .int o0, .ref h_persons, .ref h_places, .ref h_hours, .ref h_weights, .int h_coins, .int h_law, .ref h_numbers])), (h_numbers, .inl (cI, 4, .inl h_numbers_c)), (h_persons, .inl (cI, 9, .inl o1)), (h_places, .inl (cI, 9, .inl o2)), (h_hours, .inl (cI, 9, .inl o3)), (h_weights, .inl (cI, 9, .inl o4))]) (va_A [(h, .inr (0, [.int h_pieces, .ref h_kinds, .ref h_prices, .int h_roomsAtFirst, .int h_deeds, .ref h_persons, .ref h_places, .ref h_hours, .ref h_weights, .int h_coins, .int h_law, .ref h_numbers])), (h_numbers, .inl (cI, 4, .inl h_numbers_c)), (h_persons, .inl (cI, 9, .inl h_persons_c)), (h_places, .inl (cI, 9, .inl h_places_c)), (h_hours, .inl (cI, 9, .inl h_hours_c)), (h_weights, .inl (cI, 9, .inl h_weights_c))] sz)) 0 0 (va_A [(h, .inr (0, [.int h_pieces, .ref h_kinds, .ref h_prices, .int h_roomsAtFirst, .int h_deeds, .ref h_persons, .ref h_places, .ref h_hours, .ref h_weights, .int h_coins, .int h_law, .ref h_numbers])), (h_numbers, .inl (cI, 4, .inl h_numbers_c)), (h_persons, .inl (cI, 9, .inl h_persons_c)), (h_places, .inl (cI, 9, .inl h_places_c)), (h_hours, .inl (cI, 9, .inl h_hours_c)), (h_weights, .inl (cI, 9, .inl h_weights_c))] sz) := by
  refine Met.ofW (cc := cX0_takeDeed) (maxL := 1) (ret := (some .boolean)) (by decide) rfl ?_
  intro p e s m args below meth c s₁ B hml hv
  obtain ⟨rfl, hsz, hP, hK, hD0⟩ := hv
  have hx := B.exec
  have hb := B.bytes
  have hr := B.returns
  have hts := atoms_spec (ws := wsX0_takeDeed) B.pre
  have hown : s.vm.findClass RX0 = some m.cls := findClass_of_methodNamed B.named
  have hlocks := B.notSynchronized
  subst hsz
  have hD := hD0.self (sz := s.heap.size)
  generalize hAe : va_A [(h, .inr (0, [.int h_pieces, .ref h_kinds, .ref h_prices, .int h_roomsAtFirst, .int h_deeds, .ref h_persons, .ref h_places, .ref h_hours, .ref h_weights, .int h_coins, .int h_law, .ref h_numbers])), (h_numbers, .inl (cI, 4, .inl h_numbers_c)), (h_persons, .inl (cI, 9, .inl h_persons_c)), (h_places, .inl (cI, 9, .inl h_places_c)), (h_hours, .inl (cI, 9, .inl h_hours_c)), (h_weights, .inl (cI, 9, .inl h_weights_c))] s.heap.size = A at hD ⊢
  have hA : ∀ q : Nat, s.heap.size ≤ q → A q := fun q h => by rw [← hAe]; exact Or.inr h
  have hS : va_S A s.heap s.heap [] := va_S.rf
  have hP : va_P D vwCl [(h, .inr (0, [.int h_pieces, .ref h_kinds, .ref h_prices, .int h_roomsAtFirst, .int h_deeds, .ref h_persons, .ref h_places, .ref h_hours, .ref h_weights, .int h_coins, .int h_law, .ref h_numbers])), (h_numbers, .inl (cI, 4, .inl h_numbers_c)), (h_persons, .inl (cI, 9, .inl h_persons_c)), (h_places, .inl (cI, 9, .inl h_places_c)), (h_hours, .inl (cI, 9, .inl h_hours_c)), (h_weights, .inl (cI, 9, .inl h_weights_c))] s.heap := hP
  have hl := lv_entry ([.ref h]) (n := 1) (Nat.le_of_ble_eq_true rfl)
  rw [lg_entry_eq]
  generalize (lg_sl ([.ref h]) ++ List.replicate (1 - (lg_sl ([.ref h])).length) Slot.unset).toArray = ls at hl ⊢
  have hl : lv_has ls 1 [(0, .ref h)] := hl
  unfold m_X0_takeDeed at hf
  refine lv_aload_n hx hb dX0_takeDeed_0 rfl (lv_at hl 0 rfl) ?_
  refine va_get (D := D) (ci := 0) (v := .int h_deeds) (C := RX0) (T := TX0) (N := 12) hx hb hts uX0_takeDeed_X0 hown hK hP 0 rfl rfl 4 (by decide) (hts (.fieldLink RX0 37 "SpeaksForTheChair$House" "deeds" "I") (List.mem_of_getElem? (i := 1) rfl)) (fun _ h9 => h9) rfl dX0_takeDeed_1 ?_
  refine lv_bipush (v := 9) hx hb dX0_takeDeed_4 (by decide) ?_
  refine lv_icmp_ge (tgt := 62) hx hb dX0_takeDeed_6 (by decide) (fun c_1 => ?_) (fun c_1 => ?_)
  · have hf := ip c_1 hf
    refine lv_iconst (v := 0) hx hb dX0_takeDeed_62 (by decide) ?_
    cases hf
    exact W.zret hx hb hr rfl (fun t ht hW => ⟨⟨_, (), rfl, rfl, by rw [ht]; exact hP, va_K.moved hW.alike hK, hD⟩, hS.F ht⟩) hS.2.2 dX0_takeDeed_63
  · have hf := im c_1 hf
    refine lv_aload_n hx hb dX0_takeDeed_9 rfl (lv_at hl 0 rfl) ?_
    refine va_get (D := D) (ci := 0) (v := .ref h_numbers) (C := RX0) (T := TX0) (N := 12) hx hb hts uX0_takeDeed_X0 hown hK hP 0 rfl rfl 11 (by decide) (hts (.fieldLink RX0 30 "SpeaksForTheChair$House" "numbers" "[I") (List.mem_of_getElem? (i := 2) rfl)) (fun _ h9 => h9) rfl dX0_takeDeed_10 ?_
    refine lv_iconst (v := 0) hx hb dX0_takeDeed_13 (by decide) ?_
    refine va_iald hx hb hK hP 1 0 rfl rfl (okI_in (by decide)) dX0_takeDeed_14 ?_
    refine lv_bipush (v := 6) hx hb dX0_takeDeed_15 (by decide) ?_
    refine lv_icmp_ge (tgt := 62) hx hb dX0_takeDeed_17 (by decide) (fun c_2 => ?_) (fun c_2 => ?_)
    · have hf := ip c_2 hf
      refine lv_iconst (v := 0) hx hb dX0_takeDeed_62 (by decide) ?_
      cases hf
      exact W.zret hx hb hr rfl (fun t ht hW => ⟨⟨_, (), rfl, rfl, by rw [ht]; exact hP, va_K.moved hW.alike hK, hD⟩, hS.F ht⟩) hS.2.2 dX0_takeDeed_63
    · have hf := im c_2 hf
      refine lv_aload_n hx hb dX0_takeDeed_20 rfl (lv_at hl 0 rfl) ?_
      refine va_get (D := D) (ci := 0) (v := .ref h_numbers) (C := RX0) (T := TX0) (N := 12) hx hb hts uX0_takeDeed_X0 hown hK hP 0 rfl rfl 11 (by decide) (hts (.fieldLink RX0 30 "SpeaksForTheChair$House" "numbers" "[I") (List.mem_of_getElem? (i := 2) rfl)) (fun _ h9 => h9) rfl dX0_takeDeed_21 ?_
      refine lv_iconst (v := 1) hx hb dX0_takeDeed_24 (by decide) ?_
      refine va_iald hx hb hK hP 1 0 rfl rfl (okI_in (by decide)) dX0_takeDeed_25 ?_
      refine lv_iconst (v := 4) hx hb dX0_takeDeed_26 (by decide) ?_
      refine lv_icmp_ge (tgt := 62) hx hb dX0_takeDeed_27 (by decide) (fun c_3 => ?_) (fun c_3 => ?_)
      · have hf := ip c_3 hf
        refine lv_iconst (v := 0) hx hb dX0_takeDeed_62 (by decide) ?_
        cases hf
        exact W.zret hx hb hr rfl (fun t ht hW => ⟨⟨_, (), rfl, rfl, by rw [ht]; exact hP, va_K.moved hW.alike hK, hD⟩, hS.F ht⟩) hS.2.2 dX0_takeDeed_63
      · have hf := im c_3 hf
        refine lv_aload_n hx hb dX0_takeDeed_30 rfl (lv_at hl 0 rfl) ?_
        refine va_get (D := D) (ci := 0) (v := .ref h_numbers) (C := RX0) (T := TX0) (N := 12) hx hb hts uX0_takeDeed_X0 hown hK hP 0 rfl rfl 11 (by decide) (hts (.fieldLink RX0 30 "SpeaksForTheChair$House" "numbers" "[I") (List.mem_of_getElem? (i := 2) rfl)) (fun _ h9 => h9) rfl dX0_takeDeed_31 ?_
        refine lv_iconst (v := 2) hx hb dX0_takeDeed_34 (by decide) ?_
        refine va_iald hx hb hK hP 1 0 rfl rfl (okI_in (by decide)) dX0_takeDeed_35 ?_
        refine lv_bipush (v := 24) hx hb dX0_takeDeed_36 (by decide) ?_
        refine lv_icmp_ge (tgt := 62) hx hb dX0_takeDeed_38 (by decide) (fun c_4 => ?_) (fun c_4 => ?_)
        · have hf := ip c_4 hf
          refine lv_iconst (v := 0) hx hb dX0_takeDeed_62 (by decide) ?_
          cases hf
          exact W.zret hx hb hr rfl (fun t ht hW => ⟨⟨_, (), rfl, rfl, by rw [ht]; exact hP, va_K.moved hW.alike hK, hD⟩, hS.F ht⟩) hS.2.2 dX0_takeDeed_63
        · have hf := im c_4 hf
          refine lv_aload_n hx hb dX0_takeDeed_41 rfl (lv_at hl 0 rfl) ?_
          refine va_get (D := D) (ci := 0) (v := .ref h_numbers) (C := RX0) (T := TX0) (N := 12) hx hb hts uX0_takeDeed_X0 hown hK hP 0 rfl rfl 11 (by decide) (hts (.fieldLink RX0 30 "SpeaksForTheChair$House" "numbers" "[I") (List.mem_of_getElem? (i := 2) rfl)) (fun _ h9 => h9) rfl dX0_takeDeed_42 ?_
          refine lv_iconst (v := 3) hx hb dX0_takeDeed_45 (by decide) ?_
          refine va_iald hx hb hK hP 1 0 rfl rfl (okI_in (by decide)) dX0_takeDeed_46 ?_
          refine lv_iconst (v := 1) hx hb dX0_takeDeed_47 (by decide) ?_
          refine lv_icmp_lt (tgt := 62) hx hb dX0_takeDeed_48 (by decide) (fun c_5 => ?_) (fun c_5 => ?_)
          · have hf := ip c_5 hf
            refine lv_iconst (v := 0) hx hb dX0_takeDeed_62 (by decide) ?_
            cases hf
            exact W.zret hx hb hr rfl (fun t ht hW => ⟨⟨_, (), rfl, rfl, by rw [ht]; exact hP, va_K.moved hW.alike hK, hD⟩, hS.F ht⟩) hS.2.2 dX0_takeDeed_63
          · have hf := im c_5 hf
            refine lv_aload_n hx hb dX0_takeDeed_51 rfl (lv_at hl 0 rfl) ?_
            refine va_get (D := D) (ci := 0) (v := .ref h_numbers) (C := RX0) (T := TX0) (N := 12) hx hb hts uX0_takeDeed_X0 hown hK hP 0 rfl rfl 11 (by decide) (hts (.fieldLink RX0 30 "SpeaksForTheChair$House" "numbers" "[I") (List.mem_of_getElem? (i := 2) rfl)) (fun _ h9 => h9) rfl dX0_takeDeed_52 ?_
            refine lv_iconst (v := 3) hx hb dX0_takeDeed_55 (by decide) ?_
            refine va_iald hx hb hK hP 1 0 rfl rfl (okI_in (by decide)) dX0_takeDeed_56 ?_
            refine lv_bipush (v := 30) hx hb dX0_takeDeed_57 (by decide) ?_
            refine lv_icmp_le (tgt := 64) hx hb dX0_takeDeed_59 (by decide) (fun c_6 => ?_) (fun c_6 => ?_)
            · have hf := ip c_6 hf
              refine lv_aload_n hx hb dX0_takeDeed_64 rfl (lv_at hl 0 rfl) ?_
              refine va_get (D := D) (ci := 0) (v := .ref h_persons) (C := RX0) (T := TX0) (N := 12) hx hb hts uX0_takeDeed_X0 hown hK hP 0 rfl rfl 5 (by decide) (hts (.fieldLink RX0 18 "SpeaksForTheChair$House" "persons" "[I") (List.mem_of_getElem? (i := 3) rfl)) (fun _ h9 => h9) rfl dX0_takeDeed_65 ?_
              refine lv_aload_n hx hb dX0_takeDeed_68 rfl (lv_at hl 0 rfl) ?_
              refine va_get (D := D) (ci := 0) (v := .int h_deeds) (C := RX0) (T := TX0) (N := 12) hx hb hts uX0_takeDeed_X0 hown hK hP 0 rfl rfl 4 (by decide) (hts (.fieldLink RX0 37 "SpeaksForTheChair$House" "deeds" "I") (List.mem_of_getElem? (i := 1) rfl)) (fun _ h9 => h9) rfl dX0_takeDeed_69 ?_
              refine lv_aload_n hx hb dX0_takeDeed_72 rfl (lv_at hl 0 rfl) ?_
              refine va_get (D := D) (ci := 0) (v := .ref h_numbers) (C := RX0) (T := TX0) (N := 12) hx hb hts uX0_takeDeed_X0 hown hK hP 0 rfl rfl 11 (by decide) (hts (.fieldLink RX0 30 "SpeaksForTheChair$House" "numbers" "[I") (List.mem_of_getElem? (i := 2) rfl)) (fun _ h9 => h9) rfl dX0_takeDeed_73 ?_
              refine lv_iconst (v := 0) hx hb dX0_takeDeed_76 (by decide) ?_
              refine va_iald hx hb hK hP 1 0 rfl rfl (okI_in (by decide)) dX0_takeDeed_77 ?_
              obtain ⟨g_7, hf⟩ := gu_in hf
              refine va_iast hx hb hK hP hD hS 2 0 rfl rfl g_7 dX0_takeDeed_78 (fun H locs hP hD hS => ?_)
              obtain ⟨c1, ec1⟩ : ∃ y : Nat → Int32, y = (upd h_persons_c h_deeds.toNatClampNeg (h_numbers_c (0 : Int32).toNatClampNeg)) := ⟨_, rfl⟩
              have hf := pv_eq ec1 hf
              rw [← ec1] at hP hD
              have hP : va_P D vwCl [(h, .inr (0, [.int h_pieces, .ref h_kinds, .ref h_prices, .int h_roomsAtFirst, .int h_deeds, .ref h_persons, .ref h_places, .ref h_hours, .ref h_weights, .int h_coins, .int h_law, .ref h_numbers])), (h_numbers, .inl (cI, 4, .inl h_numbers_c)), (h_persons, .inl (cI, 9, .inl c1)), (h_places, .inl (cI, 9, .inl h_places_c)), (h_hours, .inl (cI, 9, .inl h_hours_c)), (h_weights, .inl (cI, 9, .inl h_weights_c))] H := hP
              have hD : va_D A [(h, .inr (0, [.int h_pieces, .ref h_kinds, .ref h_prices, .int h_roomsAtFirst, .int h_deeds, .ref h_persons, .ref h_places, .ref h_hours, .ref h_weights, .int h_coins, .int h_law, .ref h_numbers])), (h_numbers, .inl (cI, 4, .inl h_numbers_c)), (h_persons, .inl (cI, 9, .inl c1)), (h_places, .inl (cI, 9, .inl h_places_c)), (h_hours, .inl (cI, 9, .inl h_hours_c)), (h_weights, .inl (cI, 9, .inl h_weights_c))] := hD
              refine lv_aload_n hx hb dX0_takeDeed_79 rfl (lv_at hl 0 rfl) ?_
              refine va_get (D := D) (ci := 0) (v := .ref h_places) (C := RX0) (T := TX0) (N := 12) hx hb hts uX0_takeDeed_X0 hown hK hP 0 rfl rfl 6 (by decide) (hts (.fieldLink RX0 21 "SpeaksForTheChair$House" "places" "[I") (List.mem_of_getElem? (i := 4) rfl)) (fun _ h9 => h9) rfl dX0_takeDeed_80 ?_
              refine lv_aload_n hx hb dX0_takeDeed_83 rfl (lv_at hl 0 rfl) ?_
              refine va_get (D := D) (ci := 0) (v := .int h_deeds) (C := RX0) (T := TX0) (N := 12) hx hb hts uX0_takeDeed_X0 hown hK hP 0 rfl rfl 4 (by decide) (hts (.fieldLink RX0 37 "SpeaksForTheChair$House" "deeds" "I") (List.mem_of_getElem? (i := 1) rfl)) (fun _ h9 => h9) rfl dX0_takeDeed_84 ?_
              refine lv_aload_n hx hb dX0_takeDeed_87 rfl (lv_at hl 0 rfl) ?_
              refine va_get (D := D) (ci := 0) (v := .ref h_numbers) (C := RX0) (T := TX0) (N := 12) hx hb hts uX0_takeDeed_X0 hown hK hP 0 rfl rfl 11 (by decide) (hts (.fieldLink RX0 30 "SpeaksForTheChair$House" "numbers" "[I") (List.mem_of_getElem? (i := 2) rfl)) (fun _ h9 => h9) rfl dX0_takeDeed_88 ?_
              refine lv_iconst (v := 1) hx hb dX0_takeDeed_91 (by decide) ?_
              refine va_iald hx hb hK hP 1 0 rfl rfl (okI_in (by decide)) dX0_takeDeed_92 ?_
              obtain ⟨g_8, hf⟩ := gu_in hf
              refine va_iast hx hb hK hP hD hS 3 0 rfl rfl g_8 dX0_takeDeed_93 (fun H locs hP hD hS => ?_)
              obtain ⟨c2, ec2⟩ : ∃ y : Nat → Int32, y = (upd h_places_c h_deeds.toNatClampNeg (h_numbers_c (1 : Int32).toNatClampNeg)) := ⟨_, rfl⟩
              have hf := pv_eq ec2 hf
              rw [← ec2] at hP hD
              have hP : va_P D vwCl [(h, .inr (0, [.int h_pieces, .ref h_kinds, .ref h_prices, .int h_roomsAtFirst, .int h_deeds, .ref h_persons, .ref h_places, .ref h_hours, .ref h_weights, .int h_coins, .int h_law, .ref h_numbers])), (h_numbers, .inl (cI, 4, .inl h_numbers_c)), (h_persons, .inl (cI, 9, .inl c1)), (h_places, .inl (cI, 9, .inl c2)), (h_hours, .inl (cI, 9, .inl h_hours_c)), (h_weights, .inl (cI, 9, .inl h_weights_c))] H := hP
              have hD : va_D A [(h, .inr (0, [.int h_pieces, .ref h_kinds, .ref h_prices, .int h_roomsAtFirst, .int h_deeds, .ref h_persons, .ref h_places, .ref h_hours, .ref h_weights, .int h_coins, .int h_law, .ref h_numbers])), (h_numbers, .inl (cI, 4, .inl h_numbers_c)), (h_persons, .inl (cI, 9, .inl c1)), (h_places, .inl (cI, 9, .inl c2)), (h_hours, .inl (cI, 9, .inl h_hours_c)), (h_weights, .inl (cI, 9, .inl h_weights_c))] := hD
              refine lv_aload_n hx hb dX0_takeDeed_94 rfl (lv_at hl 0 rfl) ?_
              refine va_get (D := D) (ci := 0) (v := .ref h_hours) (C := RX0) (T := TX0) (N := 12) hx hb hts uX0_takeDeed_X0 hown hK hP 0 rfl rfl 7 (by decide) (hts (.fieldLink RX0 24 "SpeaksForTheChair$House" "hours" "[I") (List.mem_of_getElem? (i := 5) rfl)) (fun _ h9 => h9) rfl dX0_takeDeed_95 ?_
              refine lv_aload_n hx hb dX0_takeDeed_98 rfl (lv_at hl 0 rfl) ?_
              refine va_get (D := D) (ci := 0) (v := .int h_deeds) (C := RX0) (T := TX0) (N := 12) hx hb hts uX0_takeDeed_X0 hown hK hP 0 rfl rfl 4 (by decide) (hts (.fieldLink RX0 37 "SpeaksForTheChair$House" "deeds" "I") (List.mem_of_getElem? (i := 1) rfl)) (fun _ h9 => h9) rfl dX0_takeDeed_99 ?_
              refine lv_aload_n hx hb dX0_takeDeed_102 rfl (lv_at hl 0 rfl) ?_
              refine va_get (D := D) (ci := 0) (v := .ref h_numbers) (C := RX0) (T := TX0) (N := 12) hx hb hts uX0_takeDeed_X0 hown hK hP 0 rfl rfl 11 (by decide) (hts (.fieldLink RX0 30 "SpeaksForTheChair$House" "numbers" "[I") (List.mem_of_getElem? (i := 2) rfl)) (fun _ h9 => h9) rfl dX0_takeDeed_103 ?_
              refine lv_iconst (v := 2) hx hb dX0_takeDeed_106 (by decide) ?_
              refine va_iald hx hb hK hP 1 0 rfl rfl (okI_in (by decide)) dX0_takeDeed_107 ?_
              obtain ⟨g_9, hf⟩ := gu_in hf
              refine va_iast hx hb hK hP hD hS 4 0 rfl rfl g_9 dX0_takeDeed_108 (fun H locs hP hD hS => ?_)
              obtain ⟨c3, ec3⟩ : ∃ y : Nat → Int32, y = (upd h_hours_c h_deeds.toNatClampNeg (h_numbers_c (2 : Int32).toNatClampNeg)) := ⟨_, rfl⟩
              have hf := pv_eq ec3 hf
              rw [← ec3] at hP hD
              have hP : va_P D vwCl [(h, .inr (0, [.int h_pieces, .ref h_kinds, .ref h_prices, .int h_roomsAtFirst, .int h_deeds, .ref h_persons, .ref h_places, .ref h_hours, .ref h_weights, .int h_coins, .int h_law, .ref h_numbers])), (h_numbers, .inl (cI, 4, .inl h_numbers_c)), (h_persons, .inl (cI, 9, .inl c1)), (h_places, .inl (cI, 9, .inl c2)), (h_hours, .inl (cI, 9, .inl c3)), (h_weights, .inl (cI, 9, .inl h_weights_c))] H := hP
              have hD : va_D A [(h, .inr (0, [.int h_pieces, .ref h_kinds, .ref h_prices, .int h_roomsAtFirst, .int h_deeds, .ref h_persons, .ref h_places, .ref h_hours, .ref h_weights, .int h_coins, .int h_law, .ref h_numbers])), (h_numbers, .inl (cI, 4, .inl h_numbers_c)), (h_persons, .inl (cI, 9, .inl c1)), (h_places, .inl (cI, 9, .inl c2)), (h_hours, .inl (cI, 9, .inl c3)), (h_weights, .inl (cI, 9, .inl h_weights_c))] := hD
              refine lv_aload_n hx hb dX0_takeDeed_109 rfl (lv_at hl 0 rfl) ?_
              refine va_get (D := D) (ci := 0) (v := .ref h_weights) (C := RX0) (T := TX0) (N := 12) hx hb hts uX0_takeDeed_X0 hown hK hP 0 rfl rfl 8 (by decide) (hts (.fieldLink RX0 27 "SpeaksForTheChair$House" "weights" "[I") (List.mem_of_getElem? (i := 6) rfl)) (fun _ h9 => h9) rfl dX0_takeDeed_110 ?_
              refine lv_aload_n hx hb dX0_takeDeed_113 rfl (lv_at hl 0 rfl) ?_
              refine va_get (D := D) (ci := 0) (v := .int h_deeds) (C := RX0) (T := TX0) (N := 12) hx hb hts uX0_takeDeed_X0 hown hK hP 0 rfl rfl 4 (by decide) (hts (.fieldLink RX0 37 "SpeaksForTheChair$House" "deeds" "I") (List.mem_of_getElem? (i := 1) rfl)) (fun _ h9 => h9) rfl dX0_takeDeed_114 ?_
              refine lv_aload_n hx hb dX0_takeDeed_117 rfl (lv_at hl 0 rfl) ?_
              refine va_get (D := D) (ci := 0) (v := .ref h_numbers) (C := RX0) (T := TX0) (N := 12) hx hb hts uX0_takeDeed_X0 hown hK hP 0 rfl rfl 11 (by decide) (hts (.fieldLink RX0 30 "SpeaksForTheChair$House" "numbers" "[I") (List.mem_of_getElem? (i := 2) rfl)) (fun _ h9 => h9) rfl dX0_takeDeed_118 ?_
              refine lv_iconst (v := 3) hx hb dX0_takeDeed_121 (by decide) ?_
              refine va_iald hx hb hK hP 1 0 rfl rfl (okI_in (by decide)) dX0_takeDeed_122 ?_
              obtain ⟨g_10, hf⟩ := gu_in hf
              refine va_iast hx hb hK hP hD hS 5 0 rfl rfl g_10 dX0_takeDeed_123 (fun H locs hP hD hS => ?_)
              obtain ⟨c4, ec4⟩ : ∃ y : Nat → Int32, y = (upd h_weights_c h_deeds.toNatClampNeg (h_numbers_c (3 : Int32).toNatClampNeg)) := ⟨_, rfl⟩
              have hf := pv_eq ec4 hf
              rw [← ec4] at hP hD
              have hP : va_P D vwCl [(h, .inr (0, [.int h_pieces, .ref h_kinds, .ref h_prices, .int h_roomsAtFirst, .int h_deeds, .ref h_persons, .ref h_places, .ref h_hours, .ref h_weights, .int h_coins, .int h_law, .ref h_numbers])), (h_numbers, .inl (cI, 4, .inl h_numbers_c)), (h_persons, .inl (cI, 9, .inl c1)), (h_places, .inl (cI, 9, .inl c2)), (h_hours, .inl (cI, 9, .inl c3)), (h_weights, .inl (cI, 9, .inl c4))] H := hP
              have hD : va_D A [(h, .inr (0, [.int h_pieces, .ref h_kinds, .ref h_prices, .int h_roomsAtFirst, .int h_deeds, .ref h_persons, .ref h_places, .ref h_hours, .ref h_weights, .int h_coins, .int h_law, .ref h_numbers])), (h_numbers, .inl (cI, 4, .inl h_numbers_c)), (h_persons, .inl (cI, 9, .inl c1)), (h_places, .inl (cI, 9, .inl c2)), (h_hours, .inl (cI, 9, .inl c3)), (h_weights, .inl (cI, 9, .inl c4))] := hD
              refine lv_aload_n hx hb dX0_takeDeed_124 rfl (lv_at hl 0 rfl) ?_
              refine lv_dup hx hb dX0_takeDeed_125 rfl ?_
              refine va_get (D := D) (ci := 0) (v := .int h_deeds) (C := RX0) (T := TX0) (N := 12) hx hb hts uX0_takeDeed_X0 hown hK hP 0 rfl rfl 4 (by decide) (hts (.fieldLink RX0 37 "SpeaksForTheChair$House" "deeds" "I") (List.mem_of_getElem? (i := 1) rfl)) (fun _ h9 => h9) rfl dX0_takeDeed_126 ?_
              refine lv_iconst (v := 1) hx hb dX0_takeDeed_129 (by decide) ?_
              refine lv_iadd hx hb dX0_takeDeed_130 ?_
              refine lv_topi (fun f5 ef5 => ?_)
              have hf := pv_eq ef5 hf
              refine va_put (D := D) (ci := 0) (v := .int f5) (ty := .int) (C := RX0) (T := TX0) (N := 12) hx hb hts uX0_takeDeed_X0 tyX0 tyX0_ok nmX0 hown hK hP hD hS 0 rfl rfl 4 (by decide) (hts (.fieldLink RX0 37 "SpeaksForTheChair$House" "deeds" "I") (List.mem_of_getElem? (i := 1) rfl)) (fun _ h9 => h9) rfl (by decide +kernel) rfl rfl (Nat.le_of_ble_eq_true rfl) dX0_takeDeed_131 (fun H locs hP hD hS => ?_)
              have hP : va_P D vwCl [(h, .inr (0, [.int h_pieces, .ref h_kinds, .ref h_prices, .int h_roomsAtFirst, .int f5, .ref h_persons, .ref h_places, .ref h_hours, .ref h_weights, .int h_coins, .int h_law, .ref h_numbers])), (h_numbers, .inl (cI, 4, .inl h_numbers_c)), (h_persons, .inl (cI, 9, .inl c1)), (h_places, .inl (cI, 9, .inl c2)), (h_hours, .inl (cI, 9, .inl c3)), (h_weights, .inl (cI, 9, .inl c4))] H := hP
              have hD : va_D A [(h, .inr (0, [.int h_pieces, .ref h_kinds, .ref h_prices, .int h_roomsAtFirst, .int f5, .ref h_persons, .ref h_places, .ref h_hours, .ref h_weights, .int h_coins, .int h_law, .ref h_numbers])), (h_numbers, .inl (cI, 4, .inl h_numbers_c)), (h_persons, .inl (cI, 9, .inl c1)), (h_places, .inl (cI, 9, .inl c2)), (h_hours, .inl (cI, 9, .inl c3)), (h_weights, .inl (cI, 9, .inl c4))] := hD
              refine lv_iconst (v := 1) hx hb dX0_takeDeed_134 (by decide) ?_
              cases hf
              exact W.zret hx hb hr rfl (fun t ht hW => ⟨⟨_, (), rfl, rfl, by rw [ht]; exact hP, va_K.moved hW.alike hK, hD⟩, hS.F ht⟩) hS.2.2 dX0_takeDeed_135
            · have hf := im c_6 hf
              refine lv_iconst (v := 0) hx hb dX0_takeDeed_62 (by decide) ?_
              cases hf
              exact W.zret hx hb hr rfl (fun t ht hW => ⟨⟨_, (), rfl, rfl, by rw [ht]; exact hP, va_K.moved hW.alike hK, hD⟩, hS.F ht⟩) hS.2.2 dX0_takeDeed_63
theorem uX0_takeCoins_X0 : ∀ w ∈ wsX00, w ∈ wsX0_takeCoins := fun w h => List.mem_cons_of_mem _ (List.mem_append_right _ h)
set_option maxHeartbeats 4000000 in
set_option maxRecDepth 100000 in
theorem c_X0_takeCoins (l : Launch) (D : va_G) (cI cC cL cB : ClassId) (sz : Nat) (h : Nat) (h_kinds : Nat) (h_prices : Nat) (h_persons : Nat) (h_places : Nat) (h_hours : Nat) (h_weights : Nat) (h_numbers : Nat) (h_pieces : Int32) (h_roomsAtFirst : Int32) (h_deeds : Int32) (h_coins : Int32) (h_law : Int32) (h_numbers_c : Nat → Int32) (r : Int32) (o0 : Int32) (hf : m_X0_takeCoins h_numbers_c = some (r, o0)) : Met l yX0_takeCoins wsX0_takeCoins ({ frames := 0, cells := 0, slots := 0, locals := 0 }) (va_Pc [.ref h] (q_W D vwCl (tyL cI cC cL cB) [(h, .inr (0, [.int h_pieces, .ref h_kinds, .ref h_prices, .int h_roomsAtFirst, .int h_deeds, .ref h_persons, .ref h_places, .ref h_hours, .ref h_weights, .int h_coins, .int h_law, .ref h_numbers])), (h_numbers, .inl (cI, 4, .inl h_numbers_c))] sz)) (va_Qi (fun r' _ => r' = r) (q_E D vwCl (tyL cI cC cL cB) (va_A [(h, .inr (0, [.int h_pieces, .ref h_kinds, .ref h_prices, .int h_roomsAtFirst, .int h_deeds, .ref h_persons, .ref h_places, .ref h_hours, .ref h_weights, .int h_coins, .int h_law, .ref h_numbers])), (h_numbers, .inl (cI, 4, .inl h_numbers_c))] sz) [(h, .inr (0, [.int h_pieces, .ref h_kinds, .ref h_prices, .int h_roomsAtFirst, .int h_deeds, .ref h_persons, .ref h_places, .ref h_hours, .ref h_weights, .int o0, .int h_law, .ref h_numbers])), (h_numbers, .inl (cI, 4, .inl h_numbers_c))]) (va_A [(h, .inr (0, [.int h_pieces, .ref h_kinds, .ref h_prices, .int h_roomsAtFirst, .int h_deeds, .ref h_persons, .ref h_places, .ref h_hours, .ref h_weights, .int h_coins, .int h_law, .ref h_numbers])), (h_numbers, .inl (cI, 4, .inl h_numbers_c))] sz)) 0 0 (va_A [(h, .inr (0, [.int h_pieces, .ref h_kinds, .ref h_prices, .int h_roomsAtFirst, .int h_deeds, .ref h_persons, .ref h_places, .ref h_hours, .ref h_weights, .int h_coins, .int h_law, .ref h_numbers])), (h_numbers, .inl (cI, 4, .inl h_numbers_c))] sz) := by
  refine Met.ofW (cc := cX0_takeCoins) (maxL := 1) (ret := (some .boolean)) (by decide) rfl ?_
  intro p e s m args below meth c s₁ B hml hv
  obtain ⟨rfl, hsz, hP, hK, hD0⟩ := hv
  have hx := B.exec
  have hb := B.bytes
  have hr := B.returns
  have hts := atoms_spec (ws := wsX0_takeCoins) B.pre
  have hown : s.vm.findClass RX0 = some m.cls := findClass_of_methodNamed B.named
  have hlocks := B.notSynchronized
  subst hsz
  have hD := hD0.self (sz := s.heap.size)
  generalize hAe : va_A [(h, .inr (0, [.int h_pieces, .ref h_kinds, .ref h_prices, .int h_roomsAtFirst, .int h_deeds, .ref h_persons, .ref h_places, .ref h_hours, .ref h_weights, .int h_coins, .int h_law, .ref h_numbers])), (h_numbers, .inl (cI, 4, .inl h_numbers_c))] s.heap.size = A at hD ⊢
  have hA : ∀ q : Nat, s.heap.size ≤ q → A q := fun q h => by rw [← hAe]; exact Or.inr h
  have hS : va_S A s.heap s.heap [] := va_S.rf
  have hP : va_P D vwCl [(h, .inr (0, [.int h_pieces, .ref h_kinds, .ref h_prices, .int h_roomsAtFirst, .int h_deeds, .ref h_persons, .ref h_places, .ref h_hours, .ref h_weights, .int h_coins, .int h_law, .ref h_numbers])), (h_numbers, .inl (cI, 4, .inl h_numbers_c))] s.heap := hP
  have hl := lv_entry ([.ref h]) (n := 1) (Nat.le_of_ble_eq_true rfl)
  rw [lg_entry_eq]
  generalize (lg_sl ([.ref h]) ++ List.replicate (1 - (lg_sl ([.ref h])).length) Slot.unset).toArray = ls at hl ⊢
  have hl : lv_has ls 1 [(0, .ref h)] := hl
  unfold m_X0_takeCoins at hf
  refine lv_aload_n hx hb dX0_takeCoins_0 rfl (lv_at hl 0 rfl) ?_
  refine lv_aload_n hx hb dX0_takeCoins_1 rfl (lv_at hl 0 rfl) ?_
  refine va_get (D := D) (ci := 0) (v := .ref h_numbers) (C := RX0) (T := TX0) (N := 12) hx hb hts uX0_takeCoins_X0 hown hK hP 0 rfl rfl 11 (by decide) (hts (.fieldLink RX0 30 "SpeaksForTheChair$House" "numbers" "[I") (List.mem_of_getElem? (i := 1) rfl)) (fun _ h9 => h9) rfl dX0_takeCoins_2 ?_
  refine lv_iconst (v := 0) hx hb dX0_takeCoins_5 (by decide) ?_
  refine va_iald hx hb hK hP 1 0 rfl rfl (okI_in (by decide)) dX0_takeCoins_6 ?_
  refine lv_topi (fun f1 ef1 => ?_)
  have hf := pv_eq ef1 hf
  refine va_put (D := D) (ci := 0) (v := .int f1) (ty := .int) (C := RX0) (T := TX0) (N := 12) hx hb hts uX0_takeCoins_X0 tyX0 tyX0_ok nmX0 hown hK hP hD hS 0 rfl rfl 9 (by decide) (hts (.fieldLink RX0 46 "SpeaksForTheChair$House" "coins" "I") (List.mem_of_getElem? (i := 2) rfl)) (fun _ h9 => h9) rfl (by decide +kernel) rfl rfl (Nat.le_of_ble_eq_true rfl) dX0_takeCoins_7 (fun H locs hP hD hS => ?_)
  have hP : va_P D vwCl [(h, .inr (0, [.int h_pieces, .ref h_kinds, .ref h_prices, .int h_roomsAtFirst, .int h_deeds, .ref h_persons, .ref h_places, .ref h_hours, .ref h_weights, .int f1, .int h_law, .ref h_numbers])), (h_numbers, .inl (cI, 4, .inl h_numbers_c))] H := hP
  have hD : va_D A [(h, .inr (0, [.int h_pieces, .ref h_kinds, .ref h_prices, .int h_roomsAtFirst, .int h_deeds, .ref h_persons, .ref h_places, .ref h_hours, .ref h_weights, .int f1, .int h_law, .ref h_numbers])), (h_numbers, .inl (cI, 4, .inl h_numbers_c))] := hD
  refine lv_iconst (v := 1) hx hb dX0_takeCoins_10 (by decide) ?_
  cases hf
  exact W.zret hx hb hr rfl (fun t ht hW => ⟨⟨_, (), rfl, rfl, by rw [ht]; exact hP, va_K.moved hW.alike hK, hD⟩, hS.F ht⟩) hS.2.2 dX0_takeCoins_11
theorem uX0_takeLaw_X0 : ∀ w ∈ wsX00, w ∈ wsX0_takeLaw := fun w h => List.mem_cons_of_mem _ (List.mem_append_right _ h)
set_option maxHeartbeats 4000000 in
set_option maxRecDepth 100000 in
theorem c_X0_takeLaw (l : Launch) (D : va_G) (cI cC cL cB : ClassId) (sz : Nat) (h : Nat) (h_kinds : Nat) (h_prices : Nat) (h_persons : Nat) (h_places : Nat) (h_hours : Nat) (h_weights : Nat) (h_numbers : Nat) (h_pieces : Int32) (h_roomsAtFirst : Int32) (h_deeds : Int32) (h_coins : Int32) (h_law : Int32) (h_numbers_c : Nat → Int32) (r : Int32) (o0 : Int32) (hf : m_X0_takeLaw h_law h_numbers_c = some (r, o0)) : Met l yX0_takeLaw wsX0_takeLaw ({ frames := 0, cells := 0, slots := 0, locals := 0 }) (va_Pc [.ref h] (q_W D vwCl (tyL cI cC cL cB) [(h, .inr (0, [.int h_pieces, .ref h_kinds, .ref h_prices, .int h_roomsAtFirst, .int h_deeds, .ref h_persons, .ref h_places, .ref h_hours, .ref h_weights, .int h_coins, .int h_law, .ref h_numbers])), (h_numbers, .inl (cI, 4, .inl h_numbers_c))] sz)) (va_Qi (fun r' _ => r' = r) (q_E D vwCl (tyL cI cC cL cB) (va_A [(h, .inr (0, [.int h_pieces, .ref h_kinds, .ref h_prices, .int h_roomsAtFirst, .int h_deeds, .ref h_persons, .ref h_places, .ref h_hours, .ref h_weights, .int h_coins, .int h_law, .ref h_numbers])), (h_numbers, .inl (cI, 4, .inl h_numbers_c))] sz) [(h, .inr (0, [.int h_pieces, .ref h_kinds, .ref h_prices, .int h_roomsAtFirst, .int h_deeds, .ref h_persons, .ref h_places, .ref h_hours, .ref h_weights, .int h_coins, .int o0, .ref h_numbers])), (h_numbers, .inl (cI, 4, .inl h_numbers_c))]) (va_A [(h, .inr (0, [.int h_pieces, .ref h_kinds, .ref h_prices, .int h_roomsAtFirst, .int h_deeds, .ref h_persons, .ref h_places, .ref h_hours, .ref h_weights, .int h_coins, .int h_law, .ref h_numbers])), (h_numbers, .inl (cI, 4, .inl h_numbers_c))] sz)) 0 0 (va_A [(h, .inr (0, [.int h_pieces, .ref h_kinds, .ref h_prices, .int h_roomsAtFirst, .int h_deeds, .ref h_persons, .ref h_places, .ref h_hours, .ref h_weights, .int h_coins, .int h_law, .ref h_numbers])), (h_numbers, .inl (cI, 4, .inl h_numbers_c))] sz) := by
  refine Met.ofW (cc := cX0_takeLaw) (maxL := 1) (ret := (some .boolean)) (by decide) rfl ?_
  intro p e s m args below meth c s₁ B hml hv
  obtain ⟨rfl, hsz, hP, hK, hD0⟩ := hv
  have hx := B.exec
  have hb := B.bytes
  have hr := B.returns
  have hts := atoms_spec (ws := wsX0_takeLaw) B.pre
  have hown : s.vm.findClass RX0 = some m.cls := findClass_of_methodNamed B.named
  have hlocks := B.notSynchronized
  subst hsz
  have hD := hD0.self (sz := s.heap.size)
  generalize hAe : va_A [(h, .inr (0, [.int h_pieces, .ref h_kinds, .ref h_prices, .int h_roomsAtFirst, .int h_deeds, .ref h_persons, .ref h_places, .ref h_hours, .ref h_weights, .int h_coins, .int h_law, .ref h_numbers])), (h_numbers, .inl (cI, 4, .inl h_numbers_c))] s.heap.size = A at hD ⊢
  have hA : ∀ q : Nat, s.heap.size ≤ q → A q := fun q h => by rw [← hAe]; exact Or.inr h
  have hS : va_S A s.heap s.heap [] := va_S.rf
  have hP : va_P D vwCl [(h, .inr (0, [.int h_pieces, .ref h_kinds, .ref h_prices, .int h_roomsAtFirst, .int h_deeds, .ref h_persons, .ref h_places, .ref h_hours, .ref h_weights, .int h_coins, .int h_law, .ref h_numbers])), (h_numbers, .inl (cI, 4, .inl h_numbers_c))] s.heap := hP
  have hl := lv_entry ([.ref h]) (n := 1) (Nat.le_of_ble_eq_true rfl)
  rw [lg_entry_eq]
  generalize (lg_sl ([.ref h]) ++ List.replicate (1 - (lg_sl ([.ref h])).length) Slot.unset).toArray = ls at hl ⊢
  have hl : lv_has ls 1 [(0, .ref h)] := hl
  unfold m_X0_takeLaw at hf
  refine lv_aload_n hx hb dX0_takeLaw_0 rfl (lv_at hl 0 rfl) ?_
  refine va_get (D := D) (ci := 0) (v := .ref h_numbers) (C := RX0) (T := TX0) (N := 12) hx hb hts uX0_takeLaw_X0 hown hK hP 0 rfl rfl 11 (by decide) (hts (.fieldLink RX0 30 "SpeaksForTheChair$House" "numbers" "[I") (List.mem_of_getElem? (i := 1) rfl)) (fun _ h9 => h9) rfl dX0_takeLaw_1 ?_
  refine lv_iconst (v := 0) hx hb dX0_takeLaw_4 (by decide) ?_
  refine va_iald hx hb hK hP 1 0 rfl rfl (okI_in (by decide)) dX0_takeLaw_5 ?_
  refine lv_iconst (v := 4) hx hb dX0_takeLaw_6 (by decide) ?_
  refine lv_icmp_lt (tgt := 12) hx hb dX0_takeLaw_7 (by decide) (fun c_1 => ?_) (fun c_1 => ?_)
  · have hf := ip c_1 hf
    refine lv_aload_n hx hb dX0_takeLaw_12 rfl (lv_at hl 0 rfl) ?_
    refine lv_dup hx hb dX0_takeLaw_13 rfl ?_
    refine va_get (D := D) (ci := 0) (v := .int h_law) (C := RX0) (T := TX0) (N := 12) hx hb hts uX0_takeLaw_X0 hown hK hP 0 rfl rfl 10 (by decide) (hts (.fieldLink RX0 43 "SpeaksForTheChair$House" "law" "I") (List.mem_of_getElem? (i := 2) rfl)) (fun _ h9 => h9) rfl dX0_takeLaw_14 ?_
    refine lv_iconst (v := 1) hx hb dX0_takeLaw_17 (by decide) ?_
    refine lv_aload_n hx hb dX0_takeLaw_18 rfl (lv_at hl 0 rfl) ?_
    refine va_get (D := D) (ci := 0) (v := .ref h_numbers) (C := RX0) (T := TX0) (N := 12) hx hb hts uX0_takeLaw_X0 hown hK hP 0 rfl rfl 11 (by decide) (hts (.fieldLink RX0 30 "SpeaksForTheChair$House" "numbers" "[I") (List.mem_of_getElem? (i := 1) rfl)) (fun _ h9 => h9) rfl dX0_takeLaw_19 ?_
    refine lv_iconst (v := 0) hx hb dX0_takeLaw_22 (by decide) ?_
    refine va_iald hx hb hK hP 1 0 rfl rfl (okI_in (by decide)) dX0_takeLaw_23 ?_
    refine lv_ishl hx hb dX0_takeLaw_24 ?_
    refine lv_ior hx hb dX0_takeLaw_25 ?_
    refine lv_topi (fun f1 ef1 => ?_)
    have hf := pv_eq ef1 hf
    refine va_put (D := D) (ci := 0) (v := .int f1) (ty := .int) (C := RX0) (T := TX0) (N := 12) hx hb hts uX0_takeLaw_X0 tyX0 tyX0_ok nmX0 hown hK hP hD hS 0 rfl rfl 10 (by decide) (hts (.fieldLink RX0 43 "SpeaksForTheChair$House" "law" "I") (List.mem_of_getElem? (i := 2) rfl)) (fun _ h9 => h9) rfl (by decide +kernel) rfl rfl (Nat.le_of_ble_eq_true rfl) dX0_takeLaw_26 (fun H locs hP hD hS => ?_)
    have hP : va_P D vwCl [(h, .inr (0, [.int h_pieces, .ref h_kinds, .ref h_prices, .int h_roomsAtFirst, .int h_deeds, .ref h_persons, .ref h_places, .ref h_hours, .ref h_weights, .int h_coins, .int f1, .ref h_numbers])), (h_numbers, .inl (cI, 4, .inl h_numbers_c))] H := hP
    have hD : va_D A [(h, .inr (0, [.int h_pieces, .ref h_kinds, .ref h_prices, .int h_roomsAtFirst, .int h_deeds, .ref h_persons, .ref h_places, .ref h_hours, .ref h_weights, .int h_coins, .int f1, .ref h_numbers])), (h_numbers, .inl (cI, 4, .inl h_numbers_c))] := hD
    refine lv_iconst (v := 1) hx hb dX0_takeLaw_29 (by decide) ?_
    cases hf
    exact W.zret hx hb hr rfl (fun t ht hW => ⟨⟨_, (), rfl, rfl, by rw [ht]; exact hP, va_K.moved hW.alike hK, hD⟩, hS.F ht⟩) hS.2.2 dX0_takeLaw_30
  · have hf := im c_1 hf
    refine lv_iconst (v := 0) hx hb dX0_takeLaw_10 (by decide) ?_
    cases hf
    exact W.zret hx hb hr rfl (fun t ht hW => ⟨⟨_, (), rfl, rfl, by rw [ht]; exact hP, va_K.moved hW.alike hK, hD⟩, hS.F ht⟩) hS.2.2 dX0_takeLaw_11
set_option maxHeartbeats 4000000 in
set_option maxRecDepth 100000 in
theorem c_X0_takeItem (l : Launch) (D : va_G) (cI cC cL cB : ClassId) (sz : Nat) (h : Nat) (h_kinds : Nat) (h_prices : Nat) (h_persons : Nat) (h_places : Nat) (h_hours : Nat) (h_weights : Nat) (h_numbers : Nat) (a1 : Int32) (h_pieces : Int32) (h_roomsAtFirst : Int32) (h_deeds : Int32) (h_coins : Int32) (h_law : Int32) (h_numbers_c : Nat → Int32) (h_kinds_c : Nat → Int32) (h_prices_c : Nat → Int32) (h_persons_c : Nat → Int32) (h_places_c : Nat → Int32) (h_hours_c : Nat → Int32) (h_weights_c : Nat → Int32) (r : Int32) (o0 : Int32) (o1 : Int32) (o2 : Int32) (o3 : Int32) (o4 : Int32) (o5 : Nat → Int32) (o6 : Nat → Int32) (o7 : Nat → Int32) (o8 : Nat → Int32) (o9 : Nat → Int32) (o10 : Nat → Int32) (hf : m_X0_takeItem a1 h_pieces h_roomsAtFirst h_deeds h_coins h_law h_numbers_c h_kinds_c h_prices_c h_persons_c h_places_c h_hours_c h_weights_c = some (r, o0, o1, o2, o3, o4, o5, o6, o7, o8, o9, o10)) : Met l yX0_takeItem wsX0_takeItem ({ frames := 1, cells := 0, slots := 0, locals := 20 }) (va_Pc [.ref h, .int a1] (q_W D vwCl (tyL cI cC cL cB) [(h, .inr (0, [.int h_pieces, .ref h_kinds, .ref h_prices, .int h_roomsAtFirst, .int h_deeds, .ref h_persons, .ref h_places, .ref h_hours, .ref h_weights, .int h_coins, .int h_law, .ref h_numbers])), (h_numbers, .inl (cI, 4, .inl h_numbers_c)), (h_kinds, .inl (cI, 8, .inl h_kinds_c)), (h_prices, .inl (cI, 8, .inl h_prices_c)), (h_persons, .inl (cI, 9, .inl h_persons_c)), (h_places, .inl (cI, 9, .inl h_places_c)), (h_hours, .inl (cI, 9, .inl h_hours_c)), (h_weights, .inl (cI, 9, .inl h_weights_c))] sz)) (va_Qi (fun r' _ => r' = r) (q_E D vwCl (tyL cI cC cL cB) (va_A [(h, .inr (0, [.int h_pieces, .ref h_kinds, .ref h_prices, .int h_roomsAtFirst, .int h_deeds, .ref h_persons, .ref h_places, .ref h_hours, .ref h_weights, .int h_coins, .int h_law, .ref h_numbers])), (h_numbers, .inl (cI, 4, .inl h_numbers_c)), (h_kinds, .inl (cI, 8, .inl h_kinds_c)), (h_prices, .inl (cI, 8, .inl h_prices_c)), (h_persons, .inl (cI, 9, .inl h_persons_c)), (h_places, .inl (cI, 9, .inl h_places_c)), (h_hours, .inl (cI, 9, .inl h_hours_c)), (h_weights, .inl (cI, 9, .inl h_weights_c))] sz) [(h, .inr (0, [.int o0, .ref h_kinds, .ref h_prices, .int o1, .int o2, .ref h_persons, .ref h_places, .ref h_hours, .ref h_weights, .int o3, .int o4, .ref h_numbers])), (h_numbers, .inl (cI, 4, .inl h_numbers_c)), (h_kinds, .inl (cI, 8, .inl o5)), (h_prices, .inl (cI, 8, .inl o6)), (h_persons, .inl (cI, 9, .inl o7)), (h_places, .inl (cI, 9, .inl o8)), (h_hours, .inl (cI, 9, .inl o9)), (h_weights, .inl (cI, 9, .inl o10))]) (va_A [(h, .inr (0, [.int h_pieces, .ref h_kinds, .ref h_prices, .int h_roomsAtFirst, .int h_deeds, .ref h_persons, .ref h_places, .ref h_hours, .ref h_weights, .int h_coins, .int h_law, .ref h_numbers])), (h_numbers, .inl (cI, 4, .inl h_numbers_c)), (h_kinds, .inl (cI, 8, .inl h_kinds_c)), (h_prices, .inl (cI, 8, .inl h_prices_c)), (h_persons, .inl (cI, 9, .inl h_persons_c)), (h_places, .inl (cI, 9, .inl h_places_c)), (h_hours, .inl (cI, 9, .inl h_hours_c)), (h_weights, .inl (cI, 9, .inl h_weights_c))] sz)) 0 0 (va_A [(h, .inr (0, [.int h_pieces, .ref h_kinds, .ref h_prices, .int h_roomsAtFirst, .int h_deeds, .ref h_persons, .ref h_places, .ref h_hours, .ref h_weights, .int h_coins, .int h_law, .ref h_numbers])), (h_numbers, .inl (cI, 4, .inl h_numbers_c)), (h_kinds, .inl (cI, 8, .inl h_kinds_c)), (h_prices, .inl (cI, 8, .inl h_prices_c)), (h_persons, .inl (cI, 9, .inl h_persons_c)), (h_places, .inl (cI, 9, .inl h_places_c)), (h_hours, .inl (cI, 9, .inl h_hours_c)), (h_weights, .inl (cI, 9, .inl h_weights_c))] sz) := by
  refine Met.ofW (cc := cX0_takeItem) (maxL := 2) (ret := (some .boolean)) (by decide) rfl ?_
  intro p e s m args below meth c s₁ B hml hv
  obtain ⟨rfl, hsz, hP, hK, hD0⟩ := hv
  have hx := B.exec
  have hb := B.bytes
  have hr := B.returns
  have hts := atoms_spec (ws := wsX0_takeItem) B.pre
  have hown : s.vm.findClass RX0 = some m.cls := findClass_of_methodNamed B.named
  have hlocks := B.notSynchronized
  subst hsz
  have hD := hD0.self (sz := s.heap.size)
  generalize hAe : va_A [(h, .inr (0, [.int h_pieces, .ref h_kinds, .ref h_prices, .int h_roomsAtFirst, .int h_deeds, .ref h_persons, .ref h_places, .ref h_hours, .ref h_weights, .int h_coins, .int h_law, .ref h_numbers])), (h_numbers, .inl (cI, 4, .inl h_numbers_c)), (h_kinds, .inl (cI, 8, .inl h_kinds_c)), (h_prices, .inl (cI, 8, .inl h_prices_c)), (h_persons, .inl (cI, 9, .inl h_persons_c)), (h_places, .inl (cI, 9, .inl h_places_c)), (h_hours, .inl (cI, 9, .inl h_hours_c)), (h_weights, .inl (cI, 9, .inl h_weights_c))] s.heap.size = A at hD ⊢
  have hA : ∀ q : Nat, s.heap.size ≤ q → A q := fun q h => by rw [← hAe]; exact Or.inr h
  have hS : va_S A s.heap s.heap [] := va_S.rf
  have hP : va_P D vwCl [(h, .inr (0, [.int h_pieces, .ref h_kinds, .ref h_prices, .int h_roomsAtFirst, .int h_deeds, .ref h_persons, .ref h_places, .ref h_hours, .ref h_weights, .int h_coins, .int h_law, .ref h_numbers])), (h_numbers, .inl (cI, 4, .inl h_numbers_c)), (h_kinds, .inl (cI, 8, .inl h_kinds_c)), (h_prices, .inl (cI, 8, .inl h_prices_c)), (h_persons, .inl (cI, 9, .inl h_persons_c)), (h_places, .inl (cI, 9, .inl h_places_c)), (h_hours, .inl (cI, 9, .inl h_hours_c)), (h_weights, .inl (cI, 9, .inl h_weights_c))] s.heap := hP
  have hl := lv_entry ([.ref h, .int a1]) (n := 2) (Nat.le_of_ble_eq_true rfl)
  rw [lg_entry_eq]
  generalize (lg_sl ([.ref h, .int a1]) ++ List.replicate (2 - (lg_sl ([.ref h, .int a1])).length) Slot.unset).toArray = ls at hl ⊢
  have hl : lv_has ls 2 [(0, .ref h), (1, .int a1)] := hl
  unfold m_X0_takeItem at hf
  refine lv_iload_n hx hb dX0_takeItem_0 rfl (lv_at hl 1 rfl) ?_
  by_cases k0 : a1 = 100
  · have hf := ip k0 hf
    refine lv_lookup (tgt := 49) hx hb dX0_takeItem_1 (by decide) (by rw [k0] <;> rfl) (by decide) ?_
    refine lv_aload_n hx hb dX0_takeItem_49 rfl (lv_at hl 0 rfl) ?_
    obtain ⟨x10, f11, c12, c13, c14, c15, hv_7, hf⟩ := ob6_some hf
    refine q_wVi (As := []) (rest := []) (r := x10) (w1 := [(h, .inr (0, [.int h_pieces, .ref h_kinds, .ref h_prices, .int h_roomsAtFirst, .int f11, .ref h_persons, .ref h_places, .ref h_hours, .ref h_weights, .int h_coins, .int h_law, .ref h_numbers])), (h_numbers, .inl (cI, 4, .inl h_numbers_c)), (h_persons, .inl (cI, 9, .inl c12)), (h_places, .inl (cI, 9, .inl c13)), (h_hours, .inl (cI, 9, .inl c14)), (h_weights, .inl (cI, 9, .inl c15))]) (wr := [(h_kinds, .inl (cI, 8, .inl h_kinds_c)), (h_prices, .inl (cI, 8, .inl h_prices_c))]) (w2 := [(h, .inr (0, [.int h_pieces, .ref h_kinds, .ref h_prices, .int h_roomsAtFirst, .int f11, .ref h_persons, .ref h_places, .ref h_hours, .ref h_weights, .int h_coins, .int h_law, .ref h_numbers])), (h_numbers, .inl (cI, 4, .inl h_numbers_c)), (h_kinds, .inl (cI, 8, .inl h_kinds_c)), (h_prices, .inl (cI, 8, .inl h_prices_c)), (h_persons, .inl (cI, 9, .inl c12)), (h_places, .inl (cI, 9, .inl c13)), (h_hours, .inl (cI, 9, .inl c14)), (h_weights, .inl (cI, 9, .inl c15))]) ⟨hx, hb, hml, hown, hts⟩ (c_X0_takeDeed l D cI cC cL cB s.heap.size h h_kinds h_prices h_persons h_places h_hours h_weights h_numbers h_pieces h_roomsAtFirst h_deeds h_coins h_law h_numbers_c h_persons_c h_places_c h_hours_c h_weights_c x10 f11 c12 c13 c14 c15 hv_7) (cwV 0 hts gX0_takeItem_X0_takeDeed rfl rfl rfl (by decide +kernel) ⟨Nat.le_of_ble_eq_true rfl, Nat.le_of_ble_eq_true rfl⟩) hK hP hD hS hA [0, 1, 4, 5, 6, 7] rfl (by decide) [2, 3] rfl (by decide) (by decide) [2, 3, 0, 1, 4, 5, 6, 7] rfl (by decide) (va_recv hK hP (ci := 0) (q0 := 0) rfl rfl) rfl hl.1 rfl (Nat.le_of_ble_eq_true rfl) dX0_takeItem_50 ⟨Nat.le_of_ble_eq_true rfl, Nat.le_of_ble_eq_true rfl⟩ (fun H locs hP hD hS => ?_)
    have hP : va_P D vwCl [(h, .inr (0, [.int h_pieces, .ref h_kinds, .ref h_prices, .int h_roomsAtFirst, .int f11, .ref h_persons, .ref h_places, .ref h_hours, .ref h_weights, .int h_coins, .int h_law, .ref h_numbers])), (h_numbers, .inl (cI, 4, .inl h_numbers_c)), (h_kinds, .inl (cI, 8, .inl h_kinds_c)), (h_prices, .inl (cI, 8, .inl h_prices_c)), (h_persons, .inl (cI, 9, .inl c12)), (h_places, .inl (cI, 9, .inl c13)), (h_hours, .inl (cI, 9, .inl c14)), (h_weights, .inl (cI, 9, .inl c15))] H := hP
    have hD : va_D A [(h, .inr (0, [.int h_pieces, .ref h_kinds, .ref h_prices, .int h_roomsAtFirst, .int f11, .ref h_persons, .ref h_places, .ref h_hours, .ref h_weights, .int h_coins, .int h_law, .ref h_numbers])), (h_numbers, .inl (cI, 4, .inl h_numbers_c)), (h_kinds, .inl (cI, 8, .inl h_kinds_c)), (h_prices, .inl (cI, 8, .inl h_prices_c)), (h_persons, .inl (cI, 9, .inl c12)), (h_places, .inl (cI, 9, .inl c13)), (h_hours, .inl (cI, 9, .inl c14)), (h_weights, .inl (cI, 9, .inl c15))] := hD
    obtain ⟨g_8, hf⟩ := gu_bool hf
    cases hf
    exact W.zret hx hb hr g_8 (fun t ht hW => ⟨⟨_, (), rfl, rfl, by rw [ht]; exact hP, va_K.moved hW.alike hK, hD⟩, hS.F ht⟩) hS.2.2 dX0_takeItem_53
  · have hf := im k0 hf
    by_cases k1 : a1 = 108
    · have hf := ip k1 hf
      refine lv_lookup (tgt := 59) hx hb dX0_takeItem_1 (by decide) (by rw [k1] <;> rfl) (by decide) ?_
      refine lv_aload_n hx hb dX0_takeItem_59 rfl (lv_at hl 0 rfl) ?_
      obtain ⟨x8, f9, hv_5, hf⟩ := ob2_some hf
      refine q_wVi (As := []) (rest := []) (r := x8) (w1 := [(h, .inr (0, [.int h_pieces, .ref h_kinds, .ref h_prices, .int h_roomsAtFirst, .int h_deeds, .ref h_persons, .ref h_places, .ref h_hours, .ref h_weights, .int h_coins, .int f9, .ref h_numbers])), (h_numbers, .inl (cI, 4, .inl h_numbers_c))]) (wr := [(h_kinds, .inl (cI, 8, .inl h_kinds_c)), (h_prices, .inl (cI, 8, .inl h_prices_c)), (h_persons, .inl (cI, 9, .inl h_persons_c)), (h_places, .inl (cI, 9, .inl h_places_c)), (h_hours, .inl (cI, 9, .inl h_hours_c)), (h_weights, .inl (cI, 9, .inl h_weights_c))]) (w2 := [(h, .inr (0, [.int h_pieces, .ref h_kinds, .ref h_prices, .int h_roomsAtFirst, .int h_deeds, .ref h_persons, .ref h_places, .ref h_hours, .ref h_weights, .int h_coins, .int f9, .ref h_numbers])), (h_numbers, .inl (cI, 4, .inl h_numbers_c)), (h_kinds, .inl (cI, 8, .inl h_kinds_c)), (h_prices, .inl (cI, 8, .inl h_prices_c)), (h_persons, .inl (cI, 9, .inl h_persons_c)), (h_places, .inl (cI, 9, .inl h_places_c)), (h_hours, .inl (cI, 9, .inl h_hours_c)), (h_weights, .inl (cI, 9, .inl h_weights_c))]) ⟨hx, hb, hml, hown, hts⟩ (c_X0_takeLaw l D cI cC cL cB s.heap.size h h_kinds h_prices h_persons h_places h_hours h_weights h_numbers h_pieces h_roomsAtFirst h_deeds h_coins h_law h_numbers_c x8 f9 hv_5) (cwV 0 hts gX0_takeItem_X0_takeLaw rfl rfl rfl (by decide +kernel) ⟨Nat.le_of_ble_eq_true rfl, Nat.le_of_ble_eq_true rfl⟩) hK hP hD hS hA [0, 1] rfl (by decide) [2, 3, 4, 5, 6, 7] rfl (by decide) (by decide) [6, 7, 0, 1, 2, 3, 4, 5] rfl (by decide) (va_recv hK hP (ci := 0) (q0 := 0) rfl rfl) rfl hl.1 rfl (Nat.le_of_ble_eq_true rfl) dX0_takeItem_60 ⟨Nat.le_of_ble_eq_true rfl, Nat.le_of_ble_eq_true rfl⟩ (fun H locs hP hD hS => ?_)
      have hP : va_P D vwCl [(h, .inr (0, [.int h_pieces, .ref h_kinds, .ref h_prices, .int h_roomsAtFirst, .int h_deeds, .ref h_persons, .ref h_places, .ref h_hours, .ref h_weights, .int h_coins, .int f9, .ref h_numbers])), (h_numbers, .inl (cI, 4, .inl h_numbers_c)), (h_kinds, .inl (cI, 8, .inl h_kinds_c)), (h_prices, .inl (cI, 8, .inl h_prices_c)), (h_persons, .inl (cI, 9, .inl h_persons_c)), (h_places, .inl (cI, 9, .inl h_places_c)), (h_hours, .inl (cI, 9, .inl h_hours_c)), (h_weights, .inl (cI, 9, .inl h_weights_c))] H := hP
      have hD : va_D A [(h, .inr (0, [.int h_pieces, .ref h_kinds, .ref h_prices, .int h_roomsAtFirst, .int h_deeds, .ref h_persons, .ref h_places, .ref h_hours, .ref h_weights, .int h_coins, .int f9, .ref h_numbers])), (h_numbers, .inl (cI, 4, .inl h_numbers_c)), (h_kinds, .inl (cI, 8, .inl h_kinds_c)), (h_prices, .inl (cI, 8, .inl h_prices_c)), (h_persons, .inl (cI, 9, .inl h_persons_c)), (h_places, .inl (cI, 9, .inl h_places_c)), (h_hours, .inl (cI, 9, .inl h_hours_c)), (h_weights, .inl (cI, 9, .inl h_weights_c))] := hD
      obtain ⟨g_6, hf⟩ := gu_bool hf
      cases hf
      exact W.zret hx hb hr g_6 (fun t ht hW => ⟨⟨_, (), rfl, rfl, by rw [ht]; exact hP, va_K.moved hW.alike hK, hD⟩, hS.F ht⟩) hS.2.2 dX0_takeItem_63
    · have hf := im k1 hf
      by_cases k2 : a1 = 109
      · have hf := ip k2 hf
        refine lv_lookup (tgt := 54) hx hb dX0_takeItem_1 (by decide) (by rw [k2] <;> rfl) (by decide) ?_
        refine lv_aload_n hx hb dX0_takeItem_54 rfl (lv_at hl 0 rfl) ?_
        obtain ⟨x6, f7, hv_3, hf⟩ := ob2_some hf
        refine q_wVi (As := []) (rest := []) (r := x6) (w1 := [(h, .inr (0, [.int h_pieces, .ref h_kinds, .ref h_prices, .int h_roomsAtFirst, .int h_deeds, .ref h_persons, .ref h_places, .ref h_hours, .ref h_weights, .int f7, .int h_law, .ref h_numbers])), (h_numbers, .inl (cI, 4, .inl h_numbers_c))]) (wr := [(h_kinds, .inl (cI, 8, .inl h_kinds_c)), (h_prices, .inl (cI, 8, .inl h_prices_c)), (h_persons, .inl (cI, 9, .inl h_persons_c)), (h_places, .inl (cI, 9, .inl h_places_c)), (h_hours, .inl (cI, 9, .inl h_hours_c)), (h_weights, .inl (cI, 9, .inl h_weights_c))]) (w2 := [(h, .inr (0, [.int h_pieces, .ref h_kinds, .ref h_prices, .int h_roomsAtFirst, .int h_deeds, .ref h_persons, .ref h_places, .ref h_hours, .ref h_weights, .int f7, .int h_law, .ref h_numbers])), (h_numbers, .inl (cI, 4, .inl h_numbers_c)), (h_kinds, .inl (cI, 8, .inl h_kinds_c)), (h_prices, .inl (cI, 8, .inl h_prices_c)), (h_persons, .inl (cI, 9, .inl h_persons_c)), (h_places, .inl (cI, 9, .inl h_places_c)), (h_hours, .inl (cI, 9, .inl h_hours_c)), (h_weights, .inl (cI, 9, .inl h_weights_c))]) ⟨hx, hb, hml, hown, hts⟩ (c_X0_takeCoins l D cI cC cL cB s.heap.size h h_kinds h_prices h_persons h_places h_hours h_weights h_numbers h_pieces h_roomsAtFirst h_deeds h_coins h_law h_numbers_c x6 f7 hv_3) (cwV 0 hts gX0_takeItem_X0_takeCoins rfl rfl rfl (by decide +kernel) ⟨Nat.le_of_ble_eq_true rfl, Nat.le_of_ble_eq_true rfl⟩) hK hP hD hS hA [0, 1] rfl (by decide) [2, 3, 4, 5, 6, 7] rfl (by decide) (by decide) [6, 7, 0, 1, 2, 3, 4, 5] rfl (by decide) (va_recv hK hP (ci := 0) (q0 := 0) rfl rfl) rfl hl.1 rfl (Nat.le_of_ble_eq_true rfl) dX0_takeItem_55 ⟨Nat.le_of_ble_eq_true rfl, Nat.le_of_ble_eq_true rfl⟩ (fun H locs hP hD hS => ?_)
        have hP : va_P D vwCl [(h, .inr (0, [.int h_pieces, .ref h_kinds, .ref h_prices, .int h_roomsAtFirst, .int h_deeds, .ref h_persons, .ref h_places, .ref h_hours, .ref h_weights, .int f7, .int h_law, .ref h_numbers])), (h_numbers, .inl (cI, 4, .inl h_numbers_c)), (h_kinds, .inl (cI, 8, .inl h_kinds_c)), (h_prices, .inl (cI, 8, .inl h_prices_c)), (h_persons, .inl (cI, 9, .inl h_persons_c)), (h_places, .inl (cI, 9, .inl h_places_c)), (h_hours, .inl (cI, 9, .inl h_hours_c)), (h_weights, .inl (cI, 9, .inl h_weights_c))] H := hP
        have hD : va_D A [(h, .inr (0, [.int h_pieces, .ref h_kinds, .ref h_prices, .int h_roomsAtFirst, .int h_deeds, .ref h_persons, .ref h_places, .ref h_hours, .ref h_weights, .int f7, .int h_law, .ref h_numbers])), (h_numbers, .inl (cI, 4, .inl h_numbers_c)), (h_kinds, .inl (cI, 8, .inl h_kinds_c)), (h_prices, .inl (cI, 8, .inl h_prices_c)), (h_persons, .inl (cI, 9, .inl h_persons_c)), (h_places, .inl (cI, 9, .inl h_places_c)), (h_hours, .inl (cI, 9, .inl h_hours_c)), (h_weights, .inl (cI, 9, .inl h_weights_c))] := hD
        obtain ⟨g_4, hf⟩ := gu_bool hf
        cases hf
        exact W.zret hx hb hr g_4 (fun t ht hW => ⟨⟨_, (), rfl, rfl, by rw [ht]; exact hP, va_K.moved hW.alike hK, hD⟩, hS.F ht⟩) hS.2.2 dX0_takeItem_58
      · have hf := im k2 hf
        by_cases k3 : a1 = 112
        · have hf := ip k3 hf
          refine lv_lookup (tgt := 44) hx hb dX0_takeItem_1 (by decide) (by rw [k3] <;> rfl) (by decide) ?_
          refine lv_aload_n hx hb dX0_takeItem_44 rfl (lv_at hl 0 rfl) ?_
          obtain ⟨x1, f2, f3, c4, c5, hv_1, hf⟩ := ob5_some hf
          refine q_wVi (As := []) (rest := []) (r := x1) (w1 := [(h, .inr (0, [.int f2, .ref h_kinds, .ref h_prices, .int f3, .int h_deeds, .ref h_persons, .ref h_places, .ref h_hours, .ref h_weights, .int h_coins, .int h_law, .ref h_numbers])), (h_numbers, .inl (cI, 4, .inl h_numbers_c)), (h_kinds, .inl (cI, 8, .inl c4)), (h_prices, .inl (cI, 8, .inl c5))]) (wr := [(h_persons, .inl (cI, 9, .inl h_persons_c)), (h_places, .inl (cI, 9, .inl h_places_c)), (h_hours, .inl (cI, 9, .inl h_hours_c)), (h_weights, .inl (cI, 9, .inl h_weights_c))]) (w2 := [(h, .inr (0, [.int f2, .ref h_kinds, .ref h_prices, .int f3, .int h_deeds, .ref h_persons, .ref h_places, .ref h_hours, .ref h_weights, .int h_coins, .int h_law, .ref h_numbers])), (h_numbers, .inl (cI, 4, .inl h_numbers_c)), (h_kinds, .inl (cI, 8, .inl c4)), (h_prices, .inl (cI, 8, .inl c5)), (h_persons, .inl (cI, 9, .inl h_persons_c)), (h_places, .inl (cI, 9, .inl h_places_c)), (h_hours, .inl (cI, 9, .inl h_hours_c)), (h_weights, .inl (cI, 9, .inl h_weights_c))]) ⟨hx, hb, hml, hown, hts⟩ (c_X0_takePiece l D cI cC cL cB s.heap.size h h_kinds h_prices h_persons h_places h_hours h_weights h_numbers h_pieces h_roomsAtFirst h_deeds h_coins h_law h_numbers_c h_kinds_c h_prices_c x1 f2 f3 c4 c5 hv_1) (cwV 0 hts gX0_takeItem_X0_takePiece rfl rfl rfl (by decide +kernel) ⟨Nat.le_of_ble_eq_true rfl, Nat.le_of_ble_eq_true rfl⟩) hK hP hD hS hA [0, 1, 2, 3] rfl (by decide) [4, 5, 6, 7] rfl (by decide) (by decide) [4, 5, 6, 7, 0, 1, 2, 3] rfl (by decide) (va_recv hK hP (ci := 0) (q0 := 0) rfl rfl) rfl hl.1 rfl (Nat.le_of_ble_eq_true rfl) dX0_takeItem_45 ⟨Nat.le_of_ble_eq_true rfl, Nat.le_of_ble_eq_true rfl⟩ (fun H locs hP hD hS => ?_)
          have hP : va_P D vwCl [(h, .inr (0, [.int f2, .ref h_kinds, .ref h_prices, .int f3, .int h_deeds, .ref h_persons, .ref h_places, .ref h_hours, .ref h_weights, .int h_coins, .int h_law, .ref h_numbers])), (h_numbers, .inl (cI, 4, .inl h_numbers_c)), (h_kinds, .inl (cI, 8, .inl c4)), (h_prices, .inl (cI, 8, .inl c5)), (h_persons, .inl (cI, 9, .inl h_persons_c)), (h_places, .inl (cI, 9, .inl h_places_c)), (h_hours, .inl (cI, 9, .inl h_hours_c)), (h_weights, .inl (cI, 9, .inl h_weights_c))] H := hP
          have hD : va_D A [(h, .inr (0, [.int f2, .ref h_kinds, .ref h_prices, .int f3, .int h_deeds, .ref h_persons, .ref h_places, .ref h_hours, .ref h_weights, .int h_coins, .int h_law, .ref h_numbers])), (h_numbers, .inl (cI, 4, .inl h_numbers_c)), (h_kinds, .inl (cI, 8, .inl c4)), (h_prices, .inl (cI, 8, .inl c5)), (h_persons, .inl (cI, 9, .inl h_persons_c)), (h_places, .inl (cI, 9, .inl h_places_c)), (h_hours, .inl (cI, 9, .inl h_hours_c)), (h_weights, .inl (cI, 9, .inl h_weights_c))] := hD
          obtain ⟨g_2, hf⟩ := gu_bool hf
          cases hf
          exact W.zret hx hb hr g_2 (fun t ht hW => ⟨⟨_, (), rfl, rfl, by rw [ht]; exact hP, va_K.moved hW.alike hK, hD⟩, hS.F ht⟩) hS.2.2 dX0_takeItem_48
        · have hf := im k3 hf
          refine lv_lookup (off := 63) (tgt := 64) hx hb dX0_takeItem_1 (by decide) ((lv_osw k0 rfl).trans ( (lv_osw k1 rfl).trans ( (lv_osw k2 rfl).trans ( (lv_osw k3 rfl).trans (rfl))))) (by decide) ?_
          refine lv_iconst (v := 0) hx hb dX0_takeItem_64 (by decide) ?_
          cases hf
          exact W.zret hx hb hr rfl (fun t ht hW => ⟨⟨_, (), rfl, rfl, by rw [ht]; exact hP, va_K.moved hW.alike hK, hD⟩, hS.F ht⟩) hS.2.2 dX0_takeItem_65
theorem uX0_readItem_X0 : ∀ w ∈ wsX00, w ∈ wsX0_readItem := fun w h => List.mem_cons_of_mem _ (List.mem_append_left _ (List.mem_append_right _ h))
set_option maxHeartbeats 4000000 in
set_option maxRecDepth 100000 in
theorem c_X0_readItem (l : Launch) (D : va_G) (cI cC cL cB : ClassId) (sz : Nat) (h : Nat) (a1 : Nat) (a1_letters : Nat) (h_kinds : Nat) (h_prices : Nat) (h_persons : Nat) (h_places : Nat) (h_hours : Nat) (h_weights : Nat) (h_numbers : Nat) (a2 : Int32) (a1_length : Int32) (a1_letters_c : Nat → Int32) (h_pieces : Int32) (h_roomsAtFirst : Int32) (h_deeds : Int32) (h_coins : Int32) (h_law : Int32) (h_numbers_c : Nat → Int32) (h_kinds_c : Nat → Int32) (h_prices_c : Nat → Int32) (h_persons_c : Nat → Int32) (h_places_c : Nat → Int32) (h_hours_c : Nat → Int32) (h_weights_c : Nat → Int32) (r : Int32) (o0 : Int32) (o1 : Int32) (o2 : Int32) (o3 : Int32) (o4 : Int32) (o5 : Nat → Int32) (o6 : Nat → Int32) (o7 : Nat → Int32) (o8 : Nat → Int32) (o9 : Nat → Int32) (o10 : Nat → Int32) (o11 : Nat → Int32) (hf : m_X0_readItem a2 a1_length a1_letters_c h_pieces h_roomsAtFirst h_deeds h_coins h_law h_numbers_c h_kinds_c h_prices_c h_persons_c h_places_c h_hours_c h_weights_c = some (r, o0, o1, o2, o3, o4, o5, o6, o7, o8, o9, o10, o11)) : Met l yX0_readItem wsX0_readItem ({ frames := 2, cells := 0, slots := 0, locals := 44 }) (va_Pc [.ref h, .ref a1, .int a2] (q_W D vwCl (tyL cI cC cL cB) [(a1, .inr (1, [.ref a1_letters, .int a1_length])), (a1_letters, .inl (cC, 200, .inl a1_letters_c)), (h, .inr (0, [.int h_pieces, .ref h_kinds, .ref h_prices, .int h_roomsAtFirst, .int h_deeds, .ref h_persons, .ref h_places, .ref h_hours, .ref h_weights, .int h_coins, .int h_law, .ref h_numbers])), (h_numbers, .inl (cI, 4, .inl h_numbers_c)), (h_kinds, .inl (cI, 8, .inl h_kinds_c)), (h_prices, .inl (cI, 8, .inl h_prices_c)), (h_persons, .inl (cI, 9, .inl h_persons_c)), (h_places, .inl (cI, 9, .inl h_places_c)), (h_hours, .inl (cI, 9, .inl h_hours_c)), (h_weights, .inl (cI, 9, .inl h_weights_c))] sz)) (va_Qi (fun r' _ => r' = r) (q_E D vwCl (tyL cI cC cL cB) (va_A [(a1, .inr (1, [.ref a1_letters, .int a1_length])), (a1_letters, .inl (cC, 200, .inl a1_letters_c)), (h, .inr (0, [.int h_pieces, .ref h_kinds, .ref h_prices, .int h_roomsAtFirst, .int h_deeds, .ref h_persons, .ref h_places, .ref h_hours, .ref h_weights, .int h_coins, .int h_law, .ref h_numbers])), (h_numbers, .inl (cI, 4, .inl h_numbers_c)), (h_kinds, .inl (cI, 8, .inl h_kinds_c)), (h_prices, .inl (cI, 8, .inl h_prices_c)), (h_persons, .inl (cI, 9, .inl h_persons_c)), (h_places, .inl (cI, 9, .inl h_places_c)), (h_hours, .inl (cI, 9, .inl h_hours_c)), (h_weights, .inl (cI, 9, .inl h_weights_c))] sz) [(a1, .inr (1, [.ref a1_letters, .int a1_length])), (a1_letters, .inl (cC, 200, .inl a1_letters_c)), (h, .inr (0, [.int o0, .ref h_kinds, .ref h_prices, .int o1, .int o2, .ref h_persons, .ref h_places, .ref h_hours, .ref h_weights, .int o3, .int o4, .ref h_numbers])), (h_numbers, .inl (cI, 4, .inl o5)), (h_kinds, .inl (cI, 8, .inl o6)), (h_prices, .inl (cI, 8, .inl o7)), (h_persons, .inl (cI, 9, .inl o8)), (h_places, .inl (cI, 9, .inl o9)), (h_hours, .inl (cI, 9, .inl o10)), (h_weights, .inl (cI, 9, .inl o11))]) (va_A [(a1, .inr (1, [.ref a1_letters, .int a1_length])), (a1_letters, .inl (cC, 200, .inl a1_letters_c)), (h, .inr (0, [.int h_pieces, .ref h_kinds, .ref h_prices, .int h_roomsAtFirst, .int h_deeds, .ref h_persons, .ref h_places, .ref h_hours, .ref h_weights, .int h_coins, .int h_law, .ref h_numbers])), (h_numbers, .inl (cI, 4, .inl h_numbers_c)), (h_kinds, .inl (cI, 8, .inl h_kinds_c)), (h_prices, .inl (cI, 8, .inl h_prices_c)), (h_persons, .inl (cI, 9, .inl h_persons_c)), (h_places, .inl (cI, 9, .inl h_places_c)), (h_hours, .inl (cI, 9, .inl h_hours_c)), (h_weights, .inl (cI, 9, .inl h_weights_c))] sz)) 0 0 (va_A [(a1, .inr (1, [.ref a1_letters, .int a1_length])), (a1_letters, .inl (cC, 200, .inl a1_letters_c)), (h, .inr (0, [.int h_pieces, .ref h_kinds, .ref h_prices, .int h_roomsAtFirst, .int h_deeds, .ref h_persons, .ref h_places, .ref h_hours, .ref h_weights, .int h_coins, .int h_law, .ref h_numbers])), (h_numbers, .inl (cI, 4, .inl h_numbers_c)), (h_kinds, .inl (cI, 8, .inl h_kinds_c)), (h_prices, .inl (cI, 8, .inl h_prices_c)), (h_persons, .inl (cI, 9, .inl h_persons_c)), (h_places, .inl (cI, 9, .inl h_places_c)), (h_hours, .inl (cI, 9, .inl h_hours_c)), (h_weights, .inl (cI, 9, .inl h_weights_c))] sz) := by
  refine Met.ofW (cc := cX0_readItem) (maxL := 8) (ret := (some .int)) (by decide) rfl ?_
  intro p e s m args below meth c s₁ B hml hv
  obtain ⟨rfl, hsz, hP, hK, hD0⟩ := hv
  have hx := B.exec
  have hb := B.bytes
  have hr := B.returns
  have hts := atoms_spec (ws := wsX0_readItem) B.pre
  have hown : s.vm.findClass RX0 = some m.cls := findClass_of_methodNamed B.named
  have hlocks := B.notSynchronized
  subst hsz
  have hD := hD0.self (sz := s.heap.size)
  generalize hAe : va_A [(a1, .inr (1, [.ref a1_letters, .int a1_length])), (a1_letters, .inl (cC, 200, .inl a1_letters_c)), (h, .inr (0, [.int h_pieces, .ref h_kinds, .ref h_prices, .int h_roomsAtFirst, .int h_deeds, .ref h_persons, .ref h_places, .ref h_hours, .ref h_weights, .int h_coins, .int h_law, .ref h_numbers])), (h_numbers, .inl (cI, 4, .inl h_numbers_c)), (h_kinds, .inl (cI, 8, .inl h_kinds_c)), (h_prices, .inl (cI, 8, .inl h_prices_c)), (h_persons, .inl (cI, 9, .inl h_persons_c)), (h_places, .inl (cI, 9, .inl h_places_c)), (h_hours, .inl (cI, 9, .inl h_hours_c)), (h_weights, .inl (cI, 9, .inl h_weights_c))] s.heap.size = A at hD ⊢
  have hA : ∀ q : Nat, s.heap.size ≤ q → A q := fun q h => by rw [← hAe]; exact Or.inr h
  have hS : va_S A s.heap s.heap [] := va_S.rf
  have hP : va_P D vwCl [(a1, .inr (1, [.ref a1_letters, .int a1_length])), (a1_letters, .inl (cC, 200, .inl a1_letters_c)), (h, .inr (0, [.int h_pieces, .ref h_kinds, .ref h_prices, .int h_roomsAtFirst, .int h_deeds, .ref h_persons, .ref h_places, .ref h_hours, .ref h_weights, .int h_coins, .int h_law, .ref h_numbers])), (h_numbers, .inl (cI, 4, .inl h_numbers_c)), (h_kinds, .inl (cI, 8, .inl h_kinds_c)), (h_prices, .inl (cI, 8, .inl h_prices_c)), (h_persons, .inl (cI, 9, .inl h_persons_c)), (h_places, .inl (cI, 9, .inl h_places_c)), (h_hours, .inl (cI, 9, .inl h_hours_c)), (h_weights, .inl (cI, 9, .inl h_weights_c))] s.heap := hP
  have hl := lv_entry ([.ref h, .ref a1, .int a2]) (n := 8) (Nat.le_of_ble_eq_true rfl)
  rw [lg_entry_eq]
  generalize (lg_sl ([.ref h, .ref a1, .int a2]) ++ List.replicate (8 - (lg_sl ([.ref h, .ref a1, .int a2])).length) Slot.unset).toArray = ls at hl ⊢
  have hl : lv_has ls 8 [(0, .ref h), (1, .ref a1), (2, .int a2)] := hl
  unfold m_X0_readItem at hf
  refine lv_aload_n hx hb dX0_readItem_0 rfl (lv_at hl 1 rfl) ?_
  refine lv_iload_n hx hb dX0_readItem_1 rfl (lv_at hl 2 rfl) ?_
  obtain ⟨x1, hv_1, hf⟩ := ob1_some hf
  refine q_rVi (As := [.int a2]) (rest := []) (r := x1) ⟨hx, hb, hml, hown, hts⟩ (c_X1_letterAt l D cI cC cL cB a1 a1_letters a2 a1_length a1_letters_c x1 hv_1) (cwV 1 hts gX0_readItem_X1_letterAt rfl rfl rfl (by decide +kernel) ⟨Nat.le_of_ble_eq_true rfl, Nat.le_of_ble_eq_true rfl⟩) hK hP [0, 1] rfl (va_recv hK hP (ci := 1) (q0 := 0) rfl rfl) rfl hl.1 rfl (Nat.le_of_ble_eq_true rfl) dX0_readItem_2 ⟨Nat.le_of_ble_eq_true rfl, Nat.le_of_ble_eq_true rfl⟩ ?_
  refine lv_istore_n (lv' := [(3, .int x1), (0, .ref h), (1, .ref a1), (2, .int a2)]) hx hb dX0_readItem_5 rfl hl (by decide) rfl (fun ls hl => ?_)
  refine lv_iload_n hx hb dX0_readItem_6 rfl (lv_at hl 0 rfl) ?_
  obtain ⟨x2, hv_2, hf⟩ := ob1_some hf
  refine q_rSi (As := [.int x1]) (rest := []) (r := x2) ⟨hx, hb, hml, hown, hts⟩ (c_X0_numbersBehind l D cI cC cL cB x1 x2 hv_2) (va_cwS 1 hts gX0_readItem_X0_numbersBehind rfl rfl rfl (by decide +kernel) ⟨Nat.le_of_ble_eq_true rfl, Nat.le_of_ble_eq_true rfl⟩) hK hP [] rfl rfl hl.1 rfl (Nat.le_of_ble_eq_true rfl) dX0_readItem_7 ⟨Nat.le_of_ble_eq_true rfl, Nat.le_of_ble_eq_true rfl⟩ ?_
  refine lv_istore (lv' := [(4, .int x2), (3, .int x1), (0, .ref h), (1, .ref a1), (2, .int a2)]) hx hb dX0_readItem_10 hl (by decide) rfl (fun ls hl => ?_)
  refine lv_iload_n hx hb dX0_readItem_12 rfl (lv_at hl 4 rfl) ?_
  refine lv_iconst (v := 1) hx hb dX0_readItem_13 (by decide) ?_
  refine lv_iadd hx hb dX0_readItem_14 ?_
  refine lv_topi (fun x3 ex3 => ?_)
  have hf := pv_eq ex3 hf
  refine lv_istore (lv' := [(5, .int x3), (4, .int x2), (3, .int x1), (0, .ref h), (1, .ref a1), (2, .int a2)]) hx hb dX0_readItem_15 hl (by decide) rfl (fun ls hl => ?_)
  refine lv_iconst (v := 0) hx hb dX0_readItem_17 (by decide) ?_
  refine lv_istore (lv' := [(6, .int 0), (5, .int x3), (4, .int x2), (3, .int x1), (0, .ref h), (1, .ref a1), (2, .int a2)]) hx hb dX0_readItem_18 hl (by decide) rfl (fun ls hl => ?_)
  have loop20 : ∀ (n : Nat) (c4 : Nat → Int32) (x5 : Int32) (x6 : Int32), ∀ (H : Heap) (locs : List Loc), va_P D vwCl [(a1, .inr (1, [.ref a1_letters, .int a1_length])), (a1_letters, .inl (cC, 200, .inl a1_letters_c)), (h, .inr (0, [.int h_pieces, .ref h_kinds, .ref h_prices, .int h_roomsAtFirst, .int h_deeds, .ref h_persons, .ref h_places, .ref h_hours, .ref h_weights, .int h_coins, .int h_law, .ref h_numbers])), (h_numbers, .inl (cI, 4, .inl c4)), (h_kinds, .inl (cI, 8, .inl h_kinds_c)), (h_prices, .inl (cI, 8, .inl h_prices_c)), (h_persons, .inl (cI, 9, .inl h_persons_c)), (h_places, .inl (cI, 9, .inl h_places_c)), (h_hours, .inl (cI, 9, .inl h_hours_c)), (h_weights, .inl (cI, 9, .inl h_weights_c))] H → va_D A [(a1, .inr (1, [.ref a1_letters, .int a1_length])), (a1_letters, .inl (cC, 200, .inl a1_letters_c)), (h, .inr (0, [.int h_pieces, .ref h_kinds, .ref h_prices, .int h_roomsAtFirst, .int h_deeds, .ref h_persons, .ref h_places, .ref h_hours, .ref h_weights, .int h_coins, .int h_law, .ref h_numbers])), (h_numbers, .inl (cI, 4, .inl c4)), (h_kinds, .inl (cI, 8, .inl h_kinds_c)), (h_prices, .inl (cI, 8, .inl h_prices_c)), (h_persons, .inl (cI, 9, .inl h_persons_c)), (h_places, .inl (cI, 9, .inl h_places_c)), (h_hours, .inl (cI, 9, .inl h_hours_c)), (h_weights, .inl (cI, 9, .inl h_weights_c))] → va_S A s.heap H locs → ∀ (ls : Array Slot), lv_has ls 8 [(0, .ref h), (1, .ref a1), (3, .int x1), (4, .int x2), (5, .int x5), (6, .int x6)] → L_X0_readItem_20 x2 x1 h_pieces h_roomsAtFirst h_deeds h_coins h_law h_kinds_c h_prices_c h_persons_c h_places_c h_hours_c h_weights_c a1_length a1_letters_c n c4 x5 x6 = some (r, o0, o1, o2, o3, o4, o5, o6, o7, o8, o9, o10, o11) → W p l e (headSpec wsX0_readItem ({ frames := 2, cells := 0, slots := 0, locals := 44 })).room s m ([.ref h, .ref a1, .int a2] : List Value).toArray below meth c H locs 0 0 (MQ below (va_Qi (fun r' _ => r' = r) (q_E D vwCl (tyL cI cC cL cB) A [(a1, .inr (1, [.ref a1_letters, .int a1_length])), (a1_letters, .inl (cC, 200, .inl a1_letters_c)), (h, .inr (0, [.int o0, .ref h_kinds, .ref h_prices, .int o1, .int o2, .ref h_persons, .ref h_places, .ref h_hours, .ref h_weights, .int o3, .int o4, .ref h_numbers])), (h_numbers, .inl (cI, 4, .inl o5)), (h_kinds, .inl (cI, 8, .inl o6)), (h_prices, .inl (cI, 8, .inl o7)), (h_persons, .inl (cI, 9, .inl o8)), (h_places, .inl (cI, 9, .inl o9)), (h_hours, .inl (cI, 9, .inl o10)), (h_weights, .inl (cI, 9, .inl o11))]) A) ([.ref h, .ref a1, .int a2] : List Value).toArray s 0 0 A) (F0 m 20 ls []) := by
    intro n
    induction n with
    | zero =>
      intro c4 x5 x6 H locs hP hD hS ls hl hf
      rw [L_X0_readItem_20] at hf
      cases hf
    | succ n ih =>
      intro c4 x5 x6 H locs hP hD hS ls hl hf
      rw [L_X0_readItem_20] at hf
      refine lv_iload hx hb dX0_readItem_20 (lv_at hl 5 rfl) ?_
      refine lv_iload hx hb dX0_readItem_22 (lv_at hl 3 rfl) ?_
      refine lv_icmp_ge (tgt := 100) hx hb dX0_readItem_24 (by decide) (fun c_22 => ?_) (fun c_22 => ?_)
      · have hf := ip c_22 hf
        refine lv_aload_n hx hb dX0_readItem_100 rfl (lv_at hl 0 rfl) ?_
        refine lv_iload_n hx hb dX0_readItem_101 rfl (lv_at hl 2 rfl) ?_
        obtain ⟨x7, f8, f9, f10, f11, f12, c13, c14, c15, c16, c17, c18, hv_23, hf⟩ := ob12_some hf
        refine q_wVi (As := [.int x1]) (rest := []) (r := x7) (w1 := [(h, .inr (0, [.int f8, .ref h_kinds, .ref h_prices, .int f9, .int f10, .ref h_persons, .ref h_places, .ref h_hours, .ref h_weights, .int f11, .int f12, .ref h_numbers])), (h_numbers, .inl (cI, 4, .inl c4)), (h_kinds, .inl (cI, 8, .inl c13)), (h_prices, .inl (cI, 8, .inl c14)), (h_persons, .inl (cI, 9, .inl c15)), (h_places, .inl (cI, 9, .inl c16)), (h_hours, .inl (cI, 9, .inl c17)), (h_weights, .inl (cI, 9, .inl c18))]) (wr := [(a1, .inr (1, [.ref a1_letters, .int a1_length])), (a1_letters, .inl (cC, 200, .inl a1_letters_c))]) (w2 := [(a1, .inr (1, [.ref a1_letters, .int a1_length])), (a1_letters, .inl (cC, 200, .inl a1_letters_c)), (h, .inr (0, [.int f8, .ref h_kinds, .ref h_prices, .int f9, .int f10, .ref h_persons, .ref h_places, .ref h_hours, .ref h_weights, .int f11, .int f12, .ref h_numbers])), (h_numbers, .inl (cI, 4, .inl c4)), (h_kinds, .inl (cI, 8, .inl c13)), (h_prices, .inl (cI, 8, .inl c14)), (h_persons, .inl (cI, 9, .inl c15)), (h_places, .inl (cI, 9, .inl c16)), (h_hours, .inl (cI, 9, .inl c17)), (h_weights, .inl (cI, 9, .inl c18))]) ⟨hx, hb, hml, hown, hts⟩ (c_X0_takeItem l D cI cC cL cB H.size h h_kinds h_prices h_persons h_places h_hours h_weights h_numbers x1 h_pieces h_roomsAtFirst h_deeds h_coins h_law c4 h_kinds_c h_prices_c h_persons_c h_places_c h_hours_c h_weights_c x7 f8 f9 f10 f11 f12 c13 c14 c15 c16 c17 c18 hv_23) (cwV 1 hts gX0_readItem_X0_takeItem rfl rfl rfl (by decide +kernel) ⟨Nat.le_of_ble_eq_true rfl, Nat.le_of_ble_eq_true rfl⟩) hK hP hD hS hA [2, 3, 4, 5, 6, 7, 8, 9] rfl (by decide) [0, 1] rfl (by decide) (by decide) [0, 1, 2, 3, 4, 5, 6, 7, 8, 9] rfl (by decide) (va_recv hK hP (ci := 0) (q0 := 2) rfl rfl) rfl hl.1 rfl (Nat.le_of_ble_eq_true rfl) dX0_readItem_102 ⟨Nat.le_of_ble_eq_true rfl, Nat.le_of_ble_eq_true rfl⟩ (fun H locs hP hD hS => ?_)
        have hP : va_P D vwCl [(a1, .inr (1, [.ref a1_letters, .int a1_length])), (a1_letters, .inl (cC, 200, .inl a1_letters_c)), (h, .inr (0, [.int f8, .ref h_kinds, .ref h_prices, .int f9, .int f10, .ref h_persons, .ref h_places, .ref h_hours, .ref h_weights, .int f11, .int f12, .ref h_numbers])), (h_numbers, .inl (cI, 4, .inl c4)), (h_kinds, .inl (cI, 8, .inl c13)), (h_prices, .inl (cI, 8, .inl c14)), (h_persons, .inl (cI, 9, .inl c15)), (h_places, .inl (cI, 9, .inl c16)), (h_hours, .inl (cI, 9, .inl c17)), (h_weights, .inl (cI, 9, .inl c18))] H := hP
        have hD : va_D A [(a1, .inr (1, [.ref a1_letters, .int a1_length])), (a1_letters, .inl (cC, 200, .inl a1_letters_c)), (h, .inr (0, [.int f8, .ref h_kinds, .ref h_prices, .int f9, .int f10, .ref h_persons, .ref h_places, .ref h_hours, .ref h_weights, .int f11, .int f12, .ref h_numbers])), (h_numbers, .inl (cI, 4, .inl c4)), (h_kinds, .inl (cI, 8, .inl c13)), (h_prices, .inl (cI, 8, .inl c14)), (h_persons, .inl (cI, 9, .inl c15)), (h_places, .inl (cI, 9, .inl c16)), (h_hours, .inl (cI, 9, .inl c17)), (h_weights, .inl (cI, 9, .inl c18))] := hD
        refine lv_if_eq (tgt := 113) hx hb dX0_readItem_105 (by decide) (fun c_24 => ?_) (fun c_24 => ?_)
        · have hf := ip c_24 hf
          refine lv_iconst (v := (-1)) hx hb dX0_readItem_113 (by decide) ?_
          cases hf
          exact W.iret hx hb hr (fun t ht hW => ⟨⟨_, (), rfl, rfl, by rw [ht]; exact hP, va_K.moved hW.alike hK, hD⟩, hS.F ht⟩) hS.2.2 dX0_readItem_114
        · have hf := im c_24 hf
          refine lv_iload hx hb dX0_readItem_108 (lv_at hl 4 rfl) ?_
          refine lv_goto (tgt := 114) hx hb dX0_readItem_110 (by decide) ?_
          cases hf
          exact W.iret hx hb hr (fun t ht hW => ⟨⟨_, (), rfl, rfl, by rw [ht]; exact hP, va_K.moved hW.alike hK, hD⟩, hS.F ht⟩) hS.2.2 dX0_readItem_114
      · have hf := im c_22 hf
        refine lv_aload_n hx hb dX0_readItem_27 rfl (lv_at hl 1 rfl) ?_
        refine lv_iload hx hb dX0_readItem_28 (lv_at hl 4 rfl) ?_
        obtain ⟨x19, hv_25, hf⟩ := ob1_some hf
        refine q_rSi (As := [.ref a1, .int x5]) (rest := []) (r := x19) ⟨hx, hb, hml, hown, hts⟩ (c_X0_figuresAt l D cI cC cL cB a1 a1_letters x5 a1_length a1_letters_c x19 hv_25) (va_cwS 2 hts gX0_readItem_X0_figuresAt rfl rfl rfl (by decide +kernel) ⟨Nat.le_of_ble_eq_true rfl, Nat.le_of_ble_eq_true rfl⟩) hK hP [0, 1] rfl rfl hl.1 rfl (Nat.le_of_ble_eq_true rfl) dX0_readItem_30 ⟨Nat.le_of_ble_eq_true rfl, Nat.le_of_ble_eq_true rfl⟩ ?_
        refine lv_istore (lv' := [(7, .int x19), (0, .ref h), (1, .ref a1), (3, .int x1), (4, .int x2), (5, .int x5), (6, .int x6)]) hx hb dX0_readItem_33 hl (by decide) rfl (fun ls hl => ?_)
        refine lv_iload hx hb dX0_readItem_35 (lv_at hl 0 rfl) ?_
        refine lv_if_ne (tgt := 42) hx hb dX0_readItem_37 (by decide) (fun c_26 => ?_) (fun c_26 => ?_)
        · have hf := im c_26 hf
          refine lv_aload_n hx hb dX0_readItem_42 rfl (lv_at hl 1 rfl) ?_
          refine va_get (D := D) (ci := 0) (v := .ref h_numbers) (C := RX0) (T := TX0) (N := 12) hx hb hts uX0_readItem_X0 hown hK hP 2 rfl rfl 11 (by decide) (hts (.fieldLink RX0 30 "SpeaksForTheChair$House" "numbers" "[I") (List.mem_of_getElem? (i := 1) rfl)) (fun _ h9 => h9) rfl dX0_readItem_43 ?_
          refine lv_iload hx hb dX0_readItem_46 (lv_at hl 6 rfl) ?_
          refine lv_aload_n hx hb dX0_readItem_48 rfl (lv_at hl 2 rfl) ?_
          refine lv_iload hx hb dX0_readItem_49 (lv_at hl 5 rfl) ?_
          refine lv_iload hx hb dX0_readItem_51 (lv_at hl 0 rfl) ?_
          obtain ⟨x20, hv_27, hf⟩ := ob1_some hf
          refine q_rSi (As := [.ref a1, .int x5, .int x19]) (rest := [.int x6, .ref h_numbers]) (r := x20) ⟨hx, hb, hml, hown, hts⟩ (c_X0_numberAt l D cI cC cL cB a1 a1_letters x5 x19 a1_length a1_letters_c x20 hv_27) (va_cwS 3 hts gX0_readItem_X0_numberAt rfl rfl rfl (by decide +kernel) ⟨Nat.le_of_ble_eq_true rfl, Nat.le_of_ble_eq_true rfl⟩) hK hP [0, 1] rfl rfl hl.1 rfl (Nat.le_of_ble_eq_true rfl) dX0_readItem_53 ⟨Nat.le_of_ble_eq_true rfl, Nat.le_of_ble_eq_true rfl⟩ ?_
          obtain ⟨g_28, hf⟩ := gu_in hf
          refine va_iast hx hb hK hP hD hS 3 0 rfl rfl g_28 dX0_readItem_56 (fun H locs hP hD hS => ?_)
          obtain ⟨c21, ec21⟩ : ∃ y : Nat → Int32, y = (upd c4 x6.toNatClampNeg x20) := ⟨_, rfl⟩
          have hf := pv_eq ec21 hf
          rw [← ec21] at hP hD
          have hP : va_P D vwCl [(a1, .inr (1, [.ref a1_letters, .int a1_length])), (a1_letters, .inl (cC, 200, .inl a1_letters_c)), (h, .inr (0, [.int h_pieces, .ref h_kinds, .ref h_prices, .int h_roomsAtFirst, .int h_deeds, .ref h_persons, .ref h_places, .ref h_hours, .ref h_weights, .int h_coins, .int h_law, .ref h_numbers])), (h_numbers, .inl (cI, 4, .inl c21)), (h_kinds, .inl (cI, 8, .inl h_kinds_c)), (h_prices, .inl (cI, 8, .inl h_prices_c)), (h_persons, .inl (cI, 9, .inl h_persons_c)), (h_places, .inl (cI, 9, .inl h_places_c)), (h_hours, .inl (cI, 9, .inl h_hours_c)), (h_weights, .inl (cI, 9, .inl h_weights_c))] H := hP
          have hD : va_D A [(a1, .inr (1, [.ref a1_letters, .int a1_length])), (a1_letters, .inl (cC, 200, .inl a1_letters_c)), (h, .inr (0, [.int h_pieces, .ref h_kinds, .ref h_prices, .int h_roomsAtFirst, .int h_deeds, .ref h_persons, .ref h_places, .ref h_hours, .ref h_weights, .int h_coins, .int h_law, .ref h_numbers])), (h_numbers, .inl (cI, 4, .inl c21)), (h_kinds, .inl (cI, 8, .inl h_kinds_c)), (h_prices, .inl (cI, 8, .inl h_prices_c)), (h_persons, .inl (cI, 9, .inl h_persons_c)), (h_places, .inl (cI, 9, .inl h_places_c)), (h_hours, .inl (cI, 9, .inl h_hours_c)), (h_weights, .inl (cI, 9, .inl h_weights_c))] := hD
          refine lv_iload hx hb dX0_readItem_57 (lv_at hl 5 rfl) ?_
          refine lv_iload hx hb dX0_readItem_59 (lv_at hl 0 rfl) ?_
          refine lv_iadd hx hb dX0_readItem_61 ?_
          refine lv_topi (fun x22 ex22 => ?_)
          have hf := pv_eq ex22 hf
          refine lv_istore (lv' := [(5, .int x22), (7, .int x19), (0, .ref h), (1, .ref a1), (3, .int x1), (4, .int x2), (6, .int x6)]) hx hb dX0_readItem_62 hl (by decide) rfl (fun ls hl => ?_)
          refine lv_aload_n hx hb dX0_readItem_64 rfl (lv_at hl 3 rfl) ?_
          refine lv_iload hx hb dX0_readItem_65 (lv_at hl 0 rfl) ?_
          obtain ⟨x23, hv_29, hf⟩ := ob1_some hf
          refine q_rVi (As := [.int x22]) (rest := []) (r := x23) ⟨hx, hb, hml, hown, hts⟩ (c_X1_letterAt l D cI cC cL cB a1 a1_letters x22 a1_length a1_letters_c x23 hv_29) (cwV 1 hts gX0_readItem_X1_letterAt rfl rfl rfl (by decide +kernel) ⟨Nat.le_of_ble_eq_true rfl, Nat.le_of_ble_eq_true rfl⟩) hK hP [0, 1] rfl (va_recv hK hP (ci := 1) (q0 := 0) rfl rfl) rfl hl.1 rfl (Nat.le_of_ble_eq_true rfl) dX0_readItem_67 ⟨Nat.le_of_ble_eq_true rfl, Nat.le_of_ble_eq_true rfl⟩ ?_
          refine lv_iload hx hb dX0_readItem_70 (lv_at hl 6 rfl) ?_
          refine lv_iconst (v := 1) hx hb dX0_readItem_72 (by decide) ?_
          refine lv_iadd hx hb dX0_readItem_73 ?_
          refine lv_iload hx hb dX0_readItem_74 (lv_at hl 5 rfl) ?_
          obtain ⟨x24, hr86, hf⟩ := ob1_some hf
          refine q_jn (pcJ := 86) (nL := 8) (vs := [(0, .ref h), (1, .ref a1), (3, .int x1), (4, .int x2), (5, .int x22), (6, .int x6)]) (st := [.int x24, .int x23]) (fun ls hl => ?_) (fun J86 => ?_)
          · clear hr86
            refine lv_icmp_eq (tgt := 91) hx hb dX0_readItem_86 (by decide) (fun c_31 => ?_) (fun c_31 => ?_)
            · have hf := ip c_31 hf
              obtain ⟨x25, ex25⟩ : ∃ y : Int32, y = (x22 + 1) := ⟨_, rfl⟩
              have hf := pv_eq ex25 hf
              refine lv_iinc (v := x25) (lv' := [(5, .int x25), (0, .ref h), (1, .ref a1), (3, .int x1), (4, .int x2), (6, .int x6)]) hx hb dX0_readItem_91 hl (k := 4) rfl (by rw [ex25]; rfl) (by decide) rfl (fun ls hl => ?_)
              obtain ⟨x26, ex26⟩ : ∃ y : Int32, y = (x6 + 1) := ⟨_, rfl⟩
              have hf := pv_eq ex26 hf
              refine lv_iinc (v := x26) (lv' := [(6, .int x26), (5, .int x25), (0, .ref h), (1, .ref a1), (3, .int x1), (4, .int x2)]) hx hb dX0_readItem_94 hl (k := 5) rfl (by rw [ex26]; rfl) (by decide) rfl (fun ls hl => ?_)
              refine lv_goto (tgt := 20) hx hb dX0_readItem_97 (by decide) ?_
              exact ih _ _ _ _ _ hP hD hS ls (lv_sub hl [2, 3, 4, 5, 1, 0] rfl) hf
            · have hf := im c_31 hf
              refine lv_iconst (v := (-1)) hx hb dX0_readItem_89 (by decide) ?_
              cases hf
              exact W.iret hx hb hr (fun t ht hW => ⟨⟨_, (), rfl, rfl, by rw [ht]; exact hP, va_K.moved hW.alike hK, hD⟩, hS.F ht⟩) hS.2.2 dX0_readItem_90
          · replace hf := hr86
            refine lv_icmp_ge (tgt := 84) hx hb dX0_readItem_76 (by decide) (fun c_30 => ?_) (fun c_30 => ?_)
            · have hf := ip c_30 hf
              refine lv_bipush (v := 59) hx hb dX0_readItem_84 (by decide) ?_
              cases hf
              exact J86 ls (lv_sub hl [2, 3, 4, 5, 0, 6] rfl)
            · have hf := im c_30 hf
              refine lv_bipush (v := 44) hx hb dX0_readItem_79 (by decide) ?_
              refine lv_goto (tgt := 86) hx hb dX0_readItem_81 (by decide) ?_
              cases hf
              exact J86 ls (lv_sub hl [2, 3, 4, 5, 0, 6] rfl)
        · have hf := ip c_26 hf
          refine lv_iconst (v := (-1)) hx hb dX0_readItem_40 (by decide) ?_
          cases hf
          exact W.iret hx hb hr (fun t ht hW => ⟨⟨_, (), rfl, rfl, by rw [ht]; exact hP, va_K.moved hW.alike hK, hD⟩, hS.F ht⟩) hS.2.2 dX0_readItem_41
  exact loop20 300 _ _ _ _ _ hP hD hS ls (lv_sub hl [4, 5, 3, 2, 1, 0] rfl) hf
theorem uX0_readFrom_X0 : ∀ w ∈ wsX00, w ∈ wsX0_readFrom := fun w h => List.mem_cons_of_mem _ (List.mem_append_left _ (List.mem_append_right _ h))
theorem uX0_readFrom_X1 : ∀ w ∈ wsX10, w ∈ wsX0_readFrom := fun w h => List.mem_cons_of_mem _ (List.mem_append_right _ h)
set_option maxHeartbeats 4000000 in
set_option maxRecDepth 100000 in
theorem c_X0_readFrom (l : Launch) (D : va_G) (cI cC cL cB : ClassId) (sz : Nat) (h : Nat) (a1 : Nat) (h_kinds : Nat) (h_prices : Nat) (h_persons : Nat) (h_places : Nat) (h_hours : Nat) (h_weights : Nat) (h_numbers : Nat) (a1_letters : Nat) (h_pieces : Int32) (h_roomsAtFirst : Int32) (h_deeds : Int32) (h_coins : Int32) (h_law : Int32) (a1_length : Int32) (a1_letters_c : Nat → Int32) (h_numbers_c : Nat → Int32) (h_kinds_c : Nat → Int32) (h_prices_c : Nat → Int32) (h_persons_c : Nat → Int32) (h_places_c : Nat → Int32) (h_hours_c : Nat → Int32) (h_weights_c : Nat → Int32) (r : Int32) (o0 : Int32) (o1 : Int32) (o2 : Int32) (o3 : Int32) (o4 : Int32) (o5 : Nat → Int32) (o6 : Nat → Int32) (o7 : Nat → Int32) (o8 : Nat → Int32) (o9 : Nat → Int32) (o10 : Nat → Int32) (o11 : Nat → Int32) (hf : m_X0_readFrom a1_length a1_letters_c h_numbers_c h_kinds_c h_prices_c h_persons_c h_places_c h_hours_c h_weights_c = some (r, o0, o1, o2, o3, o4, o5, o6, o7, o8, o9, o10, o11)) : Met l yX0_readFrom wsX0_readFrom ({ frames := 3, cells := 0, slots := 0, locals := 71 }) (va_Pc [.ref h, .ref a1] (q_W D vwCl (tyL cI cC cL cB) [(h, .inr (0, [.int h_pieces, .ref h_kinds, .ref h_prices, .int h_roomsAtFirst, .int h_deeds, .ref h_persons, .ref h_places, .ref h_hours, .ref h_weights, .int h_coins, .int h_law, .ref h_numbers])), (a1, .inr (1, [.ref a1_letters, .int a1_length])), (a1_letters, .inl (cC, 200, .inl a1_letters_c)), (h_numbers, .inl (cI, 4, .inl h_numbers_c)), (h_kinds, .inl (cI, 8, .inl h_kinds_c)), (h_prices, .inl (cI, 8, .inl h_prices_c)), (h_persons, .inl (cI, 9, .inl h_persons_c)), (h_places, .inl (cI, 9, .inl h_places_c)), (h_hours, .inl (cI, 9, .inl h_hours_c)), (h_weights, .inl (cI, 9, .inl h_weights_c))] sz)) (va_Qi (fun r' _ => r' = r) (q_E D vwCl (tyL cI cC cL cB) (va_A [(h, .inr (0, [.int h_pieces, .ref h_kinds, .ref h_prices, .int h_roomsAtFirst, .int h_deeds, .ref h_persons, .ref h_places, .ref h_hours, .ref h_weights, .int h_coins, .int h_law, .ref h_numbers])), (a1, .inr (1, [.ref a1_letters, .int a1_length])), (a1_letters, .inl (cC, 200, .inl a1_letters_c)), (h_numbers, .inl (cI, 4, .inl h_numbers_c)), (h_kinds, .inl (cI, 8, .inl h_kinds_c)), (h_prices, .inl (cI, 8, .inl h_prices_c)), (h_persons, .inl (cI, 9, .inl h_persons_c)), (h_places, .inl (cI, 9, .inl h_places_c)), (h_hours, .inl (cI, 9, .inl h_hours_c)), (h_weights, .inl (cI, 9, .inl h_weights_c))] sz) [(h, .inr (0, [.int o0, .ref h_kinds, .ref h_prices, .int o1, .int o2, .ref h_persons, .ref h_places, .ref h_hours, .ref h_weights, .int o3, .int o4, .ref h_numbers])), (a1, .inr (1, [.ref a1_letters, .int a1_length])), (a1_letters, .inl (cC, 200, .inl a1_letters_c)), (h_numbers, .inl (cI, 4, .inl o5)), (h_kinds, .inl (cI, 8, .inl o6)), (h_prices, .inl (cI, 8, .inl o7)), (h_persons, .inl (cI, 9, .inl o8)), (h_places, .inl (cI, 9, .inl o9)), (h_hours, .inl (cI, 9, .inl o10)), (h_weights, .inl (cI, 9, .inl o11))]) (va_A [(h, .inr (0, [.int h_pieces, .ref h_kinds, .ref h_prices, .int h_roomsAtFirst, .int h_deeds, .ref h_persons, .ref h_places, .ref h_hours, .ref h_weights, .int h_coins, .int h_law, .ref h_numbers])), (a1, .inr (1, [.ref a1_letters, .int a1_length])), (a1_letters, .inl (cC, 200, .inl a1_letters_c)), (h_numbers, .inl (cI, 4, .inl h_numbers_c)), (h_kinds, .inl (cI, 8, .inl h_kinds_c)), (h_prices, .inl (cI, 8, .inl h_prices_c)), (h_persons, .inl (cI, 9, .inl h_persons_c)), (h_places, .inl (cI, 9, .inl h_places_c)), (h_hours, .inl (cI, 9, .inl h_hours_c)), (h_weights, .inl (cI, 9, .inl h_weights_c))] sz)) 0 0 (va_A [(h, .inr (0, [.int h_pieces, .ref h_kinds, .ref h_prices, .int h_roomsAtFirst, .int h_deeds, .ref h_persons, .ref h_places, .ref h_hours, .ref h_weights, .int h_coins, .int h_law, .ref h_numbers])), (a1, .inr (1, [.ref a1_letters, .int a1_length])), (a1_letters, .inl (cC, 200, .inl a1_letters_c)), (h_numbers, .inl (cI, 4, .inl h_numbers_c)), (h_kinds, .inl (cI, 8, .inl h_kinds_c)), (h_prices, .inl (cI, 8, .inl h_prices_c)), (h_persons, .inl (cI, 9, .inl h_persons_c)), (h_places, .inl (cI, 9, .inl h_places_c)), (h_hours, .inl (cI, 9, .inl h_hours_c)), (h_weights, .inl (cI, 9, .inl h_weights_c))] sz) := by
  refine Met.ofW (cc := cX0_readFrom) (maxL := 4) (ret := (some .int)) (by decide) rfl ?_
  intro p e s m args below meth c s₁ B hml hv
  obtain ⟨rfl, hsz, hP, hK, hD0⟩ := hv
  have hx := B.exec
  have hb := B.bytes
  have hr := B.returns
  have hts := atoms_spec (ws := wsX0_readFrom) B.pre
  have hown : s.vm.findClass RX0 = some m.cls := findClass_of_methodNamed B.named
  have hlocks := B.notSynchronized
  subst hsz
  have hD := hD0.self (sz := s.heap.size)
  generalize hAe : va_A [(h, .inr (0, [.int h_pieces, .ref h_kinds, .ref h_prices, .int h_roomsAtFirst, .int h_deeds, .ref h_persons, .ref h_places, .ref h_hours, .ref h_weights, .int h_coins, .int h_law, .ref h_numbers])), (a1, .inr (1, [.ref a1_letters, .int a1_length])), (a1_letters, .inl (cC, 200, .inl a1_letters_c)), (h_numbers, .inl (cI, 4, .inl h_numbers_c)), (h_kinds, .inl (cI, 8, .inl h_kinds_c)), (h_prices, .inl (cI, 8, .inl h_prices_c)), (h_persons, .inl (cI, 9, .inl h_persons_c)), (h_places, .inl (cI, 9, .inl h_places_c)), (h_hours, .inl (cI, 9, .inl h_hours_c)), (h_weights, .inl (cI, 9, .inl h_weights_c))] s.heap.size = A at hD ⊢
  have hA : ∀ q : Nat, s.heap.size ≤ q → A q := fun q h => by rw [← hAe]; exact Or.inr h
  have hS : va_S A s.heap s.heap [] := va_S.rf
  have hP : va_P D vwCl [(h, .inr (0, [.int h_pieces, .ref h_kinds, .ref h_prices, .int h_roomsAtFirst, .int h_deeds, .ref h_persons, .ref h_places, .ref h_hours, .ref h_weights, .int h_coins, .int h_law, .ref h_numbers])), (a1, .inr (1, [.ref a1_letters, .int a1_length])), (a1_letters, .inl (cC, 200, .inl a1_letters_c)), (h_numbers, .inl (cI, 4, .inl h_numbers_c)), (h_kinds, .inl (cI, 8, .inl h_kinds_c)), (h_prices, .inl (cI, 8, .inl h_prices_c)), (h_persons, .inl (cI, 9, .inl h_persons_c)), (h_places, .inl (cI, 9, .inl h_places_c)), (h_hours, .inl (cI, 9, .inl h_hours_c)), (h_weights, .inl (cI, 9, .inl h_weights_c))] s.heap := hP
  have hl := lv_entry ([.ref h, .ref a1]) (n := 4) (Nat.le_of_ble_eq_true rfl)
  rw [lg_entry_eq]
  generalize (lg_sl ([.ref h, .ref a1]) ++ List.replicate (4 - (lg_sl ([.ref h, .ref a1])).length) Slot.unset).toArray = ls at hl ⊢
  have hl : lv_has ls 4 [(0, .ref h), (1, .ref a1)] := hl
  unfold m_X0_readFrom at hf
  refine lv_aload_n hx hb dX0_readFrom_0 rfl (lv_at hl 0 rfl) ?_
  refine lv_iconst (v := 0) hx hb dX0_readFrom_1 (by decide) ?_
  refine va_put (D := D) (ci := 0) (v := .int 0) (ty := .int) (C := RX0) (T := TX0) (N := 12) hx hb hts uX0_readFrom_X0 tyX0 tyX0_ok nmX0 hown hK hP hD hS 0 rfl rfl 0 (by decide) (hts (.fieldLink RX0 33 "SpeaksForTheChair$House" "pieces" "I") (List.mem_of_getElem? (i := 1) rfl)) (fun _ h9 => h9) rfl (by decide +kernel) rfl rfl (Nat.le_of_ble_eq_true rfl) dX0_readFrom_2 (fun H locs hP hD hS => ?_)
  have hP : va_P D vwCl [(h, .inr (0, [.int 0, .ref h_kinds, .ref h_prices, .int h_roomsAtFirst, .int h_deeds, .ref h_persons, .ref h_places, .ref h_hours, .ref h_weights, .int h_coins, .int h_law, .ref h_numbers])), (a1, .inr (1, [.ref a1_letters, .int a1_length])), (a1_letters, .inl (cC, 200, .inl a1_letters_c)), (h_numbers, .inl (cI, 4, .inl h_numbers_c)), (h_kinds, .inl (cI, 8, .inl h_kinds_c)), (h_prices, .inl (cI, 8, .inl h_prices_c)), (h_persons, .inl (cI, 9, .inl h_persons_c)), (h_places, .inl (cI, 9, .inl h_places_c)), (h_hours, .inl (cI, 9, .inl h_hours_c)), (h_weights, .inl (cI, 9, .inl h_weights_c))] H := hP
  have hD : va_D A [(h, .inr (0, [.int 0, .ref h_kinds, .ref h_prices, .int h_roomsAtFirst, .int h_deeds, .ref h_persons, .ref h_places, .ref h_hours, .ref h_weights, .int h_coins, .int h_law, .ref h_numbers])), (a1, .inr (1, [.ref a1_letters, .int a1_length])), (a1_letters, .inl (cC, 200, .inl a1_letters_c)), (h_numbers, .inl (cI, 4, .inl h_numbers_c)), (h_kinds, .inl (cI, 8, .inl h_kinds_c)), (h_prices, .inl (cI, 8, .inl h_prices_c)), (h_persons, .inl (cI, 9, .inl h_persons_c)), (h_places, .inl (cI, 9, .inl h_places_c)), (h_hours, .inl (cI, 9, .inl h_hours_c)), (h_weights, .inl (cI, 9, .inl h_weights_c))] := hD
  refine lv_aload_n hx hb dX0_readFrom_5 rfl (lv_at hl 0 rfl) ?_
  refine lv_iconst (v := 0) hx hb dX0_readFrom_6 (by decide) ?_
  refine va_put (D := D) (ci := 0) (v := .int 0) (ty := .int) (C := RX0) (T := TX0) (N := 12) hx hb hts uX0_readFrom_X0 tyX0 tyX0_ok nmX0 hown hK hP hD hS 0 rfl rfl 4 (by decide) (hts (.fieldLink RX0 37 "SpeaksForTheChair$House" "deeds" "I") (List.mem_of_getElem? (i := 2) rfl)) (fun _ h9 => h9) rfl (by decide +kernel) rfl rfl (Nat.le_of_ble_eq_true rfl) dX0_readFrom_7 (fun H locs hP hD hS => ?_)
  have hP : va_P D vwCl [(h, .inr (0, [.int 0, .ref h_kinds, .ref h_prices, .int h_roomsAtFirst, .int 0, .ref h_persons, .ref h_places, .ref h_hours, .ref h_weights, .int h_coins, .int h_law, .ref h_numbers])), (a1, .inr (1, [.ref a1_letters, .int a1_length])), (a1_letters, .inl (cC, 200, .inl a1_letters_c)), (h_numbers, .inl (cI, 4, .inl h_numbers_c)), (h_kinds, .inl (cI, 8, .inl h_kinds_c)), (h_prices, .inl (cI, 8, .inl h_prices_c)), (h_persons, .inl (cI, 9, .inl h_persons_c)), (h_places, .inl (cI, 9, .inl h_places_c)), (h_hours, .inl (cI, 9, .inl h_hours_c)), (h_weights, .inl (cI, 9, .inl h_weights_c))] H := hP
  have hD : va_D A [(h, .inr (0, [.int 0, .ref h_kinds, .ref h_prices, .int h_roomsAtFirst, .int 0, .ref h_persons, .ref h_places, .ref h_hours, .ref h_weights, .int h_coins, .int h_law, .ref h_numbers])), (a1, .inr (1, [.ref a1_letters, .int a1_length])), (a1_letters, .inl (cC, 200, .inl a1_letters_c)), (h_numbers, .inl (cI, 4, .inl h_numbers_c)), (h_kinds, .inl (cI, 8, .inl h_kinds_c)), (h_prices, .inl (cI, 8, .inl h_prices_c)), (h_persons, .inl (cI, 9, .inl h_persons_c)), (h_places, .inl (cI, 9, .inl h_places_c)), (h_hours, .inl (cI, 9, .inl h_hours_c)), (h_weights, .inl (cI, 9, .inl h_weights_c))] := hD
  refine lv_aload_n hx hb dX0_readFrom_10 rfl (lv_at hl 0 rfl) ?_
  refine lv_iconst (v := 0) hx hb dX0_readFrom_11 (by decide) ?_
  refine va_put (D := D) (ci := 0) (v := .int 0) (ty := .int) (C := RX0) (T := TX0) (N := 12) hx hb hts uX0_readFrom_X0 tyX0 tyX0_ok nmX0 hown hK hP hD hS 0 rfl rfl 3 (by decide) (hts (.fieldLink RX0 40 "SpeaksForTheChair$House" "roomsAtFirst" "I") (List.mem_of_getElem? (i := 3) rfl)) (fun _ h9 => h9) rfl (by decide +kernel) rfl rfl (Nat.le_of_ble_eq_true rfl) dX0_readFrom_12 (fun H locs hP hD hS => ?_)
  have hP : va_P D vwCl [(h, .inr (0, [.int 0, .ref h_kinds, .ref h_prices, .int 0, .int 0, .ref h_persons, .ref h_places, .ref h_hours, .ref h_weights, .int h_coins, .int h_law, .ref h_numbers])), (a1, .inr (1, [.ref a1_letters, .int a1_length])), (a1_letters, .inl (cC, 200, .inl a1_letters_c)), (h_numbers, .inl (cI, 4, .inl h_numbers_c)), (h_kinds, .inl (cI, 8, .inl h_kinds_c)), (h_prices, .inl (cI, 8, .inl h_prices_c)), (h_persons, .inl (cI, 9, .inl h_persons_c)), (h_places, .inl (cI, 9, .inl h_places_c)), (h_hours, .inl (cI, 9, .inl h_hours_c)), (h_weights, .inl (cI, 9, .inl h_weights_c))] H := hP
  have hD : va_D A [(h, .inr (0, [.int 0, .ref h_kinds, .ref h_prices, .int 0, .int 0, .ref h_persons, .ref h_places, .ref h_hours, .ref h_weights, .int h_coins, .int h_law, .ref h_numbers])), (a1, .inr (1, [.ref a1_letters, .int a1_length])), (a1_letters, .inl (cC, 200, .inl a1_letters_c)), (h_numbers, .inl (cI, 4, .inl h_numbers_c)), (h_kinds, .inl (cI, 8, .inl h_kinds_c)), (h_prices, .inl (cI, 8, .inl h_prices_c)), (h_persons, .inl (cI, 9, .inl h_persons_c)), (h_places, .inl (cI, 9, .inl h_places_c)), (h_hours, .inl (cI, 9, .inl h_hours_c)), (h_weights, .inl (cI, 9, .inl h_weights_c))] := hD
  refine lv_aload_n hx hb dX0_readFrom_15 rfl (lv_at hl 0 rfl) ?_
  refine lv_iconst (v := 0) hx hb dX0_readFrom_16 (by decide) ?_
  refine va_put (D := D) (ci := 0) (v := .int 0) (ty := .int) (C := RX0) (T := TX0) (N := 12) hx hb hts uX0_readFrom_X0 tyX0 tyX0_ok nmX0 hown hK hP hD hS 0 rfl rfl 10 (by decide) (hts (.fieldLink RX0 43 "SpeaksForTheChair$House" "law" "I") (List.mem_of_getElem? (i := 4) rfl)) (fun _ h9 => h9) rfl (by decide +kernel) rfl rfl (Nat.le_of_ble_eq_true rfl) dX0_readFrom_17 (fun H locs hP hD hS => ?_)
  have hP : va_P D vwCl [(h, .inr (0, [.int 0, .ref h_kinds, .ref h_prices, .int 0, .int 0, .ref h_persons, .ref h_places, .ref h_hours, .ref h_weights, .int h_coins, .int 0, .ref h_numbers])), (a1, .inr (1, [.ref a1_letters, .int a1_length])), (a1_letters, .inl (cC, 200, .inl a1_letters_c)), (h_numbers, .inl (cI, 4, .inl h_numbers_c)), (h_kinds, .inl (cI, 8, .inl h_kinds_c)), (h_prices, .inl (cI, 8, .inl h_prices_c)), (h_persons, .inl (cI, 9, .inl h_persons_c)), (h_places, .inl (cI, 9, .inl h_places_c)), (h_hours, .inl (cI, 9, .inl h_hours_c)), (h_weights, .inl (cI, 9, .inl h_weights_c))] H := hP
  have hD : va_D A [(h, .inr (0, [.int 0, .ref h_kinds, .ref h_prices, .int 0, .int 0, .ref h_persons, .ref h_places, .ref h_hours, .ref h_weights, .int h_coins, .int 0, .ref h_numbers])), (a1, .inr (1, [.ref a1_letters, .int a1_length])), (a1_letters, .inl (cC, 200, .inl a1_letters_c)), (h_numbers, .inl (cI, 4, .inl h_numbers_c)), (h_kinds, .inl (cI, 8, .inl h_kinds_c)), (h_prices, .inl (cI, 8, .inl h_prices_c)), (h_persons, .inl (cI, 9, .inl h_persons_c)), (h_places, .inl (cI, 9, .inl h_places_c)), (h_hours, .inl (cI, 9, .inl h_hours_c)), (h_weights, .inl (cI, 9, .inl h_weights_c))] := hD
  refine lv_aload_n hx hb dX0_readFrom_20 rfl (lv_at hl 0 rfl) ?_
  refine lv_bipush (v := 50) hx hb dX0_readFrom_21 (by decide) ?_
  refine va_put (D := D) (ci := 0) (v := .int 50) (ty := .int) (C := RX0) (T := TX0) (N := 12) hx hb hts uX0_readFrom_X0 tyX0 tyX0_ok nmX0 hown hK hP hD hS 0 rfl rfl 9 (by decide) (hts (.fieldLink RX0 46 "SpeaksForTheChair$House" "coins" "I") (List.mem_of_getElem? (i := 5) rfl)) (fun _ h9 => h9) rfl (by decide +kernel) rfl rfl (Nat.le_of_ble_eq_true rfl) dX0_readFrom_23 (fun H locs hP hD hS => ?_)
  have hP : va_P D vwCl [(h, .inr (0, [.int 0, .ref h_kinds, .ref h_prices, .int 0, .int 0, .ref h_persons, .ref h_places, .ref h_hours, .ref h_weights, .int 50, .int 0, .ref h_numbers])), (a1, .inr (1, [.ref a1_letters, .int a1_length])), (a1_letters, .inl (cC, 200, .inl a1_letters_c)), (h_numbers, .inl (cI, 4, .inl h_numbers_c)), (h_kinds, .inl (cI, 8, .inl h_kinds_c)), (h_prices, .inl (cI, 8, .inl h_prices_c)), (h_persons, .inl (cI, 9, .inl h_persons_c)), (h_places, .inl (cI, 9, .inl h_places_c)), (h_hours, .inl (cI, 9, .inl h_hours_c)), (h_weights, .inl (cI, 9, .inl h_weights_c))] H := hP
  have hD : va_D A [(h, .inr (0, [.int 0, .ref h_kinds, .ref h_prices, .int 0, .int 0, .ref h_persons, .ref h_places, .ref h_hours, .ref h_weights, .int 50, .int 0, .ref h_numbers])), (a1, .inr (1, [.ref a1_letters, .int a1_length])), (a1_letters, .inl (cC, 200, .inl a1_letters_c)), (h_numbers, .inl (cI, 4, .inl h_numbers_c)), (h_kinds, .inl (cI, 8, .inl h_kinds_c)), (h_prices, .inl (cI, 8, .inl h_prices_c)), (h_persons, .inl (cI, 9, .inl h_persons_c)), (h_places, .inl (cI, 9, .inl h_places_c)), (h_hours, .inl (cI, 9, .inl h_hours_c)), (h_weights, .inl (cI, 9, .inl h_weights_c))] := hD
  refine lv_iconst (v := 0) hx hb dX0_readFrom_26 (by decide) ?_
  refine lv_istore_n (lv' := [(2, .int 0), (0, .ref h), (1, .ref a1)]) hx hb dX0_readFrom_27 rfl hl (by decide) rfl (fun ls hl => ?_)
  have loop28 : ∀ (n : Nat) (x1 : Int32) (x2 : Int32) (x3 : Int32) (x4 : Int32) (x5 : Int32) (c6 : Nat → Int32) (c7 : Nat → Int32) (c8 : Nat → Int32) (c9 : Nat → Int32) (c10 : Nat → Int32) (c11 : Nat → Int32) (c12 : Nat → Int32) (x13 : Int32), ∀ (H : Heap) (locs : List Loc), va_P D vwCl [(h, .inr (0, [.int x1, .ref h_kinds, .ref h_prices, .int x3, .int x4, .ref h_persons, .ref h_places, .ref h_hours, .ref h_weights, .int x5, .int x2, .ref h_numbers])), (a1, .inr (1, [.ref a1_letters, .int a1_length])), (a1_letters, .inl (cC, 200, .inl a1_letters_c)), (h_numbers, .inl (cI, 4, .inl c8)), (h_kinds, .inl (cI, 8, .inl c7)), (h_prices, .inl (cI, 8, .inl c11)), (h_persons, .inl (cI, 9, .inl c9)), (h_places, .inl (cI, 9, .inl c10)), (h_hours, .inl (cI, 9, .inl c6)), (h_weights, .inl (cI, 9, .inl c12))] H → va_D A [(h, .inr (0, [.int x1, .ref h_kinds, .ref h_prices, .int x3, .int x4, .ref h_persons, .ref h_places, .ref h_hours, .ref h_weights, .int x5, .int x2, .ref h_numbers])), (a1, .inr (1, [.ref a1_letters, .int a1_length])), (a1_letters, .inl (cC, 200, .inl a1_letters_c)), (h_numbers, .inl (cI, 4, .inl c8)), (h_kinds, .inl (cI, 8, .inl c7)), (h_prices, .inl (cI, 8, .inl c11)), (h_persons, .inl (cI, 9, .inl c9)), (h_places, .inl (cI, 9, .inl c10)), (h_hours, .inl (cI, 9, .inl c6)), (h_weights, .inl (cI, 9, .inl c12))] → va_S A s.heap H locs → ∀ (ls : Array Slot), lv_has ls 4 [(0, .ref h), (1, .ref a1), (2, .int x13)] → L_X0_readFrom_28 a1_length a1_letters_c n x1 x2 x3 x4 x5 c6 c7 c8 c9 c10 c11 c12 x13 = some (r, o0, o1, o2, o3, o4, o5, o6, o7, o8, o9, o10, o11) → W p l e (headSpec wsX0_readFrom ({ frames := 3, cells := 0, slots := 0, locals := 71 })).room s m ([.ref h, .ref a1] : List Value).toArray below meth c H locs 0 0 (MQ below (va_Qi (fun r' _ => r' = r) (q_E D vwCl (tyL cI cC cL cB) A [(h, .inr (0, [.int o0, .ref h_kinds, .ref h_prices, .int o1, .int o2, .ref h_persons, .ref h_places, .ref h_hours, .ref h_weights, .int o3, .int o4, .ref h_numbers])), (a1, .inr (1, [.ref a1_letters, .int a1_length])), (a1_letters, .inl (cC, 200, .inl a1_letters_c)), (h_numbers, .inl (cI, 4, .inl o5)), (h_kinds, .inl (cI, 8, .inl o6)), (h_prices, .inl (cI, 8, .inl o7)), (h_persons, .inl (cI, 9, .inl o8)), (h_places, .inl (cI, 9, .inl o9)), (h_hours, .inl (cI, 9, .inl o10)), (h_weights, .inl (cI, 9, .inl o11))]) A) ([.ref h, .ref a1] : List Value).toArray s 0 0 A) (F0 m 28 ls []) := by
    intro n
    induction n with
    | zero =>
      intro x1 x2 x3 x4 x5 c6 c7 c8 c9 c10 c11 c12 x13 H locs hP hD hS ls hl hf
      rw [L_X0_readFrom_28] at hf
      cases hf
    | succ n ih =>
      intro x1 x2 x3 x4 x5 c6 c7 c8 c9 c10 c11 c12 x13 H locs hP hD hS ls hl hf
      rw [L_X0_readFrom_28] at hf
      refine lv_iload_n hx hb dX0_readFrom_28 rfl (lv_at hl 2 rfl) ?_
      refine lv_aload_n hx hb dX0_readFrom_29 rfl (lv_at hl 1 rfl) ?_
      refine va_get (D := D) (ci := 1) (v := .int a1_length) (C := RX1) (T := TX1) (N := 2) hx hb hts uX0_readFrom_X1 hown hK hP 1 rfl rfl 1 (by decide) (hts (.fieldLink RX0 49 "SpeaksForTheChair$Page" "length" "I") (List.mem_of_getElem? (i := 6) rfl)) (fun _ h9 => h9) rfl dX0_readFrom_30 ?_
      refine lv_icmp_ge (tgt := 55) hx hb dX0_readFrom_33 (by decide) (fun c_7 => ?_) (fun c_7 => ?_)
      · have hf := ip c_7 hf
        refine lv_bipush (v := (-4)) hx hb dX0_readFrom_55 (by decide) ?_
        cases hf
        exact W.iret hx hb hr (fun t ht hW => ⟨⟨_, (), rfl, rfl, by rw [ht]; exact hP, va_K.moved hW.alike hK, hD⟩, hS.F ht⟩) hS.2.2 dX0_readFrom_57
      · have hf := im c_7 hf
        refine lv_aload_n hx hb dX0_readFrom_36 rfl (lv_at hl 0 rfl) ?_
        refine lv_aload_n hx hb dX0_readFrom_37 rfl (lv_at hl 1 rfl) ?_
        refine lv_iload_n hx hb dX0_readFrom_38 rfl (lv_at hl 2 rfl) ?_
        obtain ⟨x14, f15, f16, f17, f18, f19, c20, c21, c22, c23, c24, c25, c26, hv_8, hf⟩ := ob13_some hf
        refine q_wVi (As := [.ref a1, .int x13]) (rest := []) (r := x14) (w1 := [(a1, .inr (1, [.ref a1_letters, .int a1_length])), (a1_letters, .inl (cC, 200, .inl a1_letters_c)), (h, .inr (0, [.int f15, .ref h_kinds, .ref h_prices, .int f16, .int f17, .ref h_persons, .ref h_places, .ref h_hours, .ref h_weights, .int f18, .int f19, .ref h_numbers])), (h_numbers, .inl (cI, 4, .inl c20)), (h_kinds, .inl (cI, 8, .inl c21)), (h_prices, .inl (cI, 8, .inl c22)), (h_persons, .inl (cI, 9, .inl c23)), (h_places, .inl (cI, 9, .inl c24)), (h_hours, .inl (cI, 9, .inl c25)), (h_weights, .inl (cI, 9, .inl c26))]) (wr := []) (w2 := [(h, .inr (0, [.int f15, .ref h_kinds, .ref h_prices, .int f16, .int f17, .ref h_persons, .ref h_places, .ref h_hours, .ref h_weights, .int f18, .int f19, .ref h_numbers])), (a1, .inr (1, [.ref a1_letters, .int a1_length])), (a1_letters, .inl (cC, 200, .inl a1_letters_c)), (h_numbers, .inl (cI, 4, .inl c20)), (h_kinds, .inl (cI, 8, .inl c21)), (h_prices, .inl (cI, 8, .inl c22)), (h_persons, .inl (cI, 9, .inl c23)), (h_places, .inl (cI, 9, .inl c24)), (h_hours, .inl (cI, 9, .inl c25)), (h_weights, .inl (cI, 9, .inl c26))]) ⟨hx, hb, hml, hown, hts⟩ (c_X0_readItem l D cI cC cL cB H.size h a1 a1_letters h_kinds h_prices h_persons h_places h_hours h_weights h_numbers x13 a1_length a1_letters_c x1 x3 x4 x5 x2 c8 c7 c11 c9 c10 c6 c12 x14 f15 f16 f17 f18 f19 c20 c21 c22 c23 c24 c25 c26 hv_8) (cwV 2 hts gX0_readFrom_X0_readItem rfl rfl rfl (by decide +kernel) ⟨Nat.le_of_ble_eq_true rfl, Nat.le_of_ble_eq_true rfl⟩) hK hP hD hS hA [1, 2, 0, 3, 4, 5, 6, 7, 8, 9] rfl (by decide) [] rfl (by decide) (by decide) [2, 0, 1, 3, 4, 5, 6, 7, 8, 9] rfl (by decide) (va_recv hK hP (ci := 0) (q0 := 0) rfl rfl) rfl hl.1 rfl (Nat.le_of_ble_eq_true rfl) dX0_readFrom_39 ⟨Nat.le_of_ble_eq_true rfl, Nat.le_of_ble_eq_true rfl⟩ (fun H locs hP hD hS => ?_)
        have hP : va_P D vwCl [(h, .inr (0, [.int f15, .ref h_kinds, .ref h_prices, .int f16, .int f17, .ref h_persons, .ref h_places, .ref h_hours, .ref h_weights, .int f18, .int f19, .ref h_numbers])), (a1, .inr (1, [.ref a1_letters, .int a1_length])), (a1_letters, .inl (cC, 200, .inl a1_letters_c)), (h_numbers, .inl (cI, 4, .inl c20)), (h_kinds, .inl (cI, 8, .inl c21)), (h_prices, .inl (cI, 8, .inl c22)), (h_persons, .inl (cI, 9, .inl c23)), (h_places, .inl (cI, 9, .inl c24)), (h_hours, .inl (cI, 9, .inl c25)), (h_weights, .inl (cI, 9, .inl c26))] H := hP
        have hD : va_D A [(h, .inr (0, [.int f15, .ref h_kinds, .ref h_prices, .int f16, .int f17, .ref h_persons, .ref h_places, .ref h_hours, .ref h_weights, .int f18, .int f19, .ref h_numbers])), (a1, .inr (1, [.ref a1_letters, .int a1_length])), (a1_letters, .inl (cC, 200, .inl a1_letters_c)), (h_numbers, .inl (cI, 4, .inl c20)), (h_kinds, .inl (cI, 8, .inl c21)), (h_prices, .inl (cI, 8, .inl c22)), (h_persons, .inl (cI, 9, .inl c23)), (h_places, .inl (cI, 9, .inl c24)), (h_hours, .inl (cI, 9, .inl c25)), (h_weights, .inl (cI, 9, .inl c26))] := hD
        refine lv_istore_n (lv' := [(3, .int x14), (0, .ref h), (1, .ref a1), (2, .int x13)]) hx hb dX0_readFrom_42 rfl hl (by decide) rfl (fun ls hl => ?_)
        refine lv_iload_n hx hb dX0_readFrom_43 rfl (lv_at hl 0 rfl) ?_
        refine lv_iload_n hx hb dX0_readFrom_44 rfl (lv_at hl 3 rfl) ?_
        refine lv_icmp_gt (tgt := 50) hx hb dX0_readFrom_45 (by decide) (fun c_9 => ?_) (fun c_9 => ?_)
        · have hf := ip c_9 hf
          refine lv_iload_n hx hb dX0_readFrom_50 rfl (lv_at hl 0 rfl) ?_
          refine lv_istore_n (lv' := [(2, .int x14), (3, .int x14), (0, .ref h), (1, .ref a1)]) hx hb dX0_readFrom_51 rfl hl (by decide) rfl (fun ls hl => ?_)
          refine lv_goto (tgt := 28) hx hb dX0_readFrom_52 (by decide) ?_
          exact ih _ _ _ _ _ _ _ _ _ _ _ _ _ _ _ hP hD hS ls (lv_sub hl [2, 3, 0] rfl) hf
        · have hf := im c_9 hf
          refine lv_iload_n hx hb dX0_readFrom_48 rfl (lv_at hl 3 rfl) ?_
          cases hf
          exact W.iret hx hb hr (fun t ht hW => ⟨⟨_, (), rfl, rfl, by rw [ht]; exact hP, va_K.moved hW.alike hK, hD⟩, hS.F ht⟩) hS.2.2 dX0_readFrom_49
  exact loop28 300 _ _ _ _ _ _ _ _ _ _ _ _ _ _ _ hP hD hS ls (lv_sub hl [1, 2, 0] rfl) hf
