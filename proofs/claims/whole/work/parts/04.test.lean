/-! contracts: X5_isWithin, X1_add, X5_write, X0_weightOf, X0_laterOnes, X0_wouldTell, X0_toldBy, X1_letterAt, X0_numbersBehind, X6_copies, X6_asItIs -/
set_option maxHeartbeats 4000000 in
set_option maxRecDepth 100000 in
theorem c_X5_isWithin (l : Launch) (D : va_G) (cI cC cL cB : ClassId) (a1 : Int32) (a2 : Int32) (a3 : Int32) (r : Int32) (hf : m_X5_isWithin a1 a2 a3 = some r) : Met l yX5_isWithin wsX5_isWithin ({ frames := 0, cells := 0, slots := 0, locals := 0 }) (va_Pc [.int a1, .int a2, .int a3] (q_R D vwCl (tyL cI cC cL cB) [])) (vp_Si (fun r' => r' = r)) 0 0 (fun _ => False) := by
  refine Met.ofW (cc := cX5_isWithin) (maxL := 3) (ret := (some .boolean)) (by decide) rfl ?_
  intro p e s m args below meth c s₁ B hml hv
  obtain ⟨rfl, hP, hK⟩ := hv
  have hx := B.exec
  have hb := B.bytes
  have hr := B.returns
  have hts := atoms_spec (ws := wsX5_isWithin) B.pre
  have hown : s.vm.findClass RX5 = some m.cls := findClass_of_methodNamed B.named
  have hlocks := B.notSynchronized
  have hl := lv_entry ([.int a1, .int a2, .int a3]) (n := 3) (Nat.le_of_ble_eq_true rfl)
  rw [lg_entry_eq]
  generalize (lg_sl ([.int a1, .int a2, .int a3]) ++ List.replicate (3 - (lg_sl ([.int a1, .int a2, .int a3])).length) Slot.unset).toArray = ls at hl ⊢
  have hl : lv_has ls 3 [(0, .int a1), (1, .int a2), (2, .int a3)] := hl
  unfold m_X5_isWithin at hf
  refine lv_iload_n hx hb dX5_isWithin_0 rfl (lv_at hl 0 rfl) ?_
  refine lv_iload_n hx hb dX5_isWithin_1 rfl (lv_at hl 1 rfl) ?_
  refine lv_icmp_lt (tgt := 14) hx hb dX5_isWithin_2 (by decide) (fun c_1 => ?_) (fun c_1 => ?_)
  · have hf := ip c_1 hf
    refine lv_iconst (v := 0) hx hb dX5_isWithin_14 (by decide) ?_
    cases hf
    exact W.zret (v := 0) hx hb hr rfl (fun t ht hW => ⟨_, rfl, rfl, ht⟩) (fun _ h => by cases h) dX5_isWithin_15
  · have hf := im c_1 hf
    refine lv_iload_n hx hb dX5_isWithin_5 rfl (lv_at hl 0 rfl) ?_
    refine lv_iload_n hx hb dX5_isWithin_6 rfl (lv_at hl 2 rfl) ?_
    refine lv_icmp_gt (tgt := 14) hx hb dX5_isWithin_7 (by decide) (fun c_2 => ?_) (fun c_2 => ?_)
    · have hf := ip c_2 hf
      refine lv_iconst (v := 0) hx hb dX5_isWithin_14 (by decide) ?_
      cases hf
      exact W.zret (v := 0) hx hb hr rfl (fun t ht hW => ⟨_, rfl, rfl, ht⟩) (fun _ h => by cases h) dX5_isWithin_15
    · have hf := im c_2 hf
      refine lv_iconst (v := 1) hx hb dX5_isWithin_10 (by decide) ?_
      refine lv_goto (tgt := 15) hx hb dX5_isWithin_11 (by decide) ?_
      cases hf
      exact W.zret (v := 1) hx hb hr rfl (fun t ht hW => ⟨_, rfl, rfl, ht⟩) (fun _ h => by cases h) dX5_isWithin_15
theorem uX1_add_X1 : ∀ w ∈ wsX10, w ∈ wsX1_add := fun w h => List.mem_cons_of_mem _ (List.mem_append_right _ h)
set_option maxHeartbeats 4000000 in
set_option maxRecDepth 100000 in
theorem c_X1_add (l : Launch) (D : va_G) (cI cC cL cB : ClassId) (sz : Nat) (h : Nat) (h_letters : Nat) (a1 : Int32) (h_length : Int32) (h_letters_c : Nat → Int32) (r : Int32) (o0 : Int32) (o1 : Nat → Int32) (hf : m_X1_add a1 h_length h_letters_c = some (r, o0, o1)) : Met l yX1_add wsX1_add ({ frames := 0, cells := 0, slots := 0, locals := 0 }) (va_Pc [.ref h, .int a1] (q_W D vwCl (tyL cI cC cL cB) [(h, .inr (1, [.ref h_letters, .int h_length])), (h_letters, .inl (cC, 200, .inl h_letters_c))] sz)) (va_Qi (fun r' _ => r' = r) (q_E D vwCl (tyL cI cC cL cB) (va_A [(h, .inr (1, [.ref h_letters, .int h_length])), (h_letters, .inl (cC, 200, .inl h_letters_c))] sz) [(h, .inr (1, [.ref h_letters, .int o0])), (h_letters, .inl (cC, 200, .inl o1))]) (va_A [(h, .inr (1, [.ref h_letters, .int h_length])), (h_letters, .inl (cC, 200, .inl h_letters_c))] sz)) 0 0 (va_A [(h, .inr (1, [.ref h_letters, .int h_length])), (h_letters, .inl (cC, 200, .inl h_letters_c))] sz) := by
  refine Met.ofW (cc := cX1_add) (maxL := 2) (ret := (some .boolean)) (by decide) rfl ?_
  intro p e s m args below meth c s₁ B hml hv
  obtain ⟨rfl, hsz, hP, hK, hD0⟩ := hv
  have hx := B.exec
  have hb := B.bytes
  have hr := B.returns
  have hts := atoms_spec (ws := wsX1_add) B.pre
  have hown : s.vm.findClass RX1 = some m.cls := findClass_of_methodNamed B.named
  have hlocks := B.notSynchronized
  subst hsz
  have hD := hD0.self (sz := s.heap.size)
  generalize hAe : va_A [(h, .inr (1, [.ref h_letters, .int h_length])), (h_letters, .inl (cC, 200, .inl h_letters_c))] s.heap.size = A at hD ⊢
  have hA : ∀ q : Nat, s.heap.size ≤ q → A q := fun q h => by rw [← hAe]; exact Or.inr h
  have hS : va_S A s.heap s.heap [] := va_S.rf
  have hP : va_P D vwCl [(h, .inr (1, [.ref h_letters, .int h_length])), (h_letters, .inl (cC, 200, .inl h_letters_c))] s.heap := hP
  have hl := lv_entry ([.ref h, .int a1]) (n := 2) (Nat.le_of_ble_eq_true rfl)
  rw [lg_entry_eq]
  generalize (lg_sl ([.ref h, .int a1]) ++ List.replicate (2 - (lg_sl ([.ref h, .int a1])).length) Slot.unset).toArray = ls at hl ⊢
  have hl : lv_has ls 2 [(0, .ref h), (1, .int a1)] := hl
  unfold m_X1_add at hf
  refine lv_aload_n hx hb dX1_add_0 rfl (lv_at hl 0 rfl) ?_
  refine va_get (D := D) (ci := 1) (v := .int h_length) (C := RX1) (T := TX1) (N := 2) hx hb hts uX1_add_X1 hown hK hP 0 rfl rfl 1 (by decide) (hts (.fieldLink RX1 15 "SpeaksForTheChair$Page" "length" "I") (List.mem_of_getElem? (i := 1) rfl)) (fun _ h9 => h9) rfl dX1_add_1 ?_
  refine lv_aload_n hx hb dX1_add_4 rfl (lv_at hl 0 rfl) ?_
  refine va_get (D := D) (ci := 1) (v := .ref h_letters) (C := RX1) (T := TX1) (N := 2) hx hb hts uX1_add_X1 hown hK hP 0 rfl rfl 0 (by decide) (hts (.fieldLink RX1 9 "SpeaksForTheChair$Page" "letters" "[C") (List.mem_of_getElem? (i := 2) rfl)) (fun _ h9 => h9) rfl dX1_add_5 ?_
  refine va_alen (v := 200) hx hb hK hP 1 1 rfl rfl rfl dX1_add_8 ?_
  refine lv_icmp_lt (tgt := 14) hx hb dX1_add_9 (by decide) (fun c_1 => ?_) (fun c_1 => ?_)
  · have hf := ip c_1 hf
    refine lv_aload_n hx hb dX1_add_14 rfl (lv_at hl 0 rfl) ?_
    refine va_get (D := D) (ci := 1) (v := .ref h_letters) (C := RX1) (T := TX1) (N := 2) hx hb hts uX1_add_X1 hown hK hP 0 rfl rfl 0 (by decide) (hts (.fieldLink RX1 9 "SpeaksForTheChair$Page" "letters" "[C") (List.mem_of_getElem? (i := 2) rfl)) (fun _ h9 => h9) rfl dX1_add_15 ?_
    refine lv_aload_n hx hb dX1_add_18 rfl (lv_at hl 0 rfl) ?_
    refine va_get (D := D) (ci := 1) (v := .int h_length) (C := RX1) (T := TX1) (N := 2) hx hb hts uX1_add_X1 hown hK hP 0 rfl rfl 1 (by decide) (hts (.fieldLink RX1 15 "SpeaksForTheChair$Page" "length" "I") (List.mem_of_getElem? (i := 1) rfl)) (fun _ h9 => h9) rfl dX1_add_19 ?_
    refine lv_iload_n hx hb dX1_add_22 rfl (lv_at hl 1 rfl) ?_
    obtain ⟨g_2, hf⟩ := gu_in hf
    refine va_cast hx hb hK hP hD hS 1 1 rfl rfl g_2 dX1_add_23 (fun H locs hP hD hS => ?_)
    obtain ⟨c1, ec1⟩ : ∃ y : Nat → Int32, y = (upd h_letters_c h_length.toNatClampNeg (vp_nar .char a1)) := ⟨_, rfl⟩
    have hf := pv_eq ec1 hf
    rw [← ec1] at hP hD
    have hP : va_P D vwCl [(h, .inr (1, [.ref h_letters, .int h_length])), (h_letters, .inl (cC, 200, .inl c1))] H := hP
    have hD : va_D A [(h, .inr (1, [.ref h_letters, .int h_length])), (h_letters, .inl (cC, 200, .inl c1))] := hD
    refine lv_aload_n hx hb dX1_add_24 rfl (lv_at hl 0 rfl) ?_
    refine lv_dup hx hb dX1_add_25 rfl ?_
    refine va_get (D := D) (ci := 1) (v := .int h_length) (C := RX1) (T := TX1) (N := 2) hx hb hts uX1_add_X1 hown hK hP 0 rfl rfl 1 (by decide) (hts (.fieldLink RX1 15 "SpeaksForTheChair$Page" "length" "I") (List.mem_of_getElem? (i := 1) rfl)) (fun _ h9 => h9) rfl dX1_add_26 ?_
    refine lv_iconst (v := 1) hx hb dX1_add_29 (by decide) ?_
    refine lv_iadd hx hb dX1_add_30 ?_
    refine lv_topi (fun f2 ef2 => ?_)
    have hf := pv_eq ef2 hf
    refine va_put (D := D) (ci := 1) (v := .int f2) (ty := .int) (C := RX1) (T := TX1) (N := 2) hx hb hts uX1_add_X1 tyX1 tyX1_ok nmX1 hown hK hP hD hS 0 rfl rfl 1 (by decide) (hts (.fieldLink RX1 15 "SpeaksForTheChair$Page" "length" "I") (List.mem_of_getElem? (i := 1) rfl)) (fun _ h9 => h9) rfl (by decide +kernel) rfl rfl (Nat.le_of_ble_eq_true rfl) dX1_add_31 (fun H locs hP hD hS => ?_)
    have hP : va_P D vwCl [(h, .inr (1, [.ref h_letters, .int f2])), (h_letters, .inl (cC, 200, .inl c1))] H := hP
    have hD : va_D A [(h, .inr (1, [.ref h_letters, .int f2])), (h_letters, .inl (cC, 200, .inl c1))] := hD
    refine lv_iconst (v := 1) hx hb dX1_add_34 (by decide) ?_
    cases hf
    exact W.zret (v := 1) hx hb hr rfl (fun t ht hW => ⟨⟨_, (), rfl, rfl, by rw [ht]; exact hP, va_K.moved hW.alike hK, hD⟩, hS.F ht⟩) hS.2.2 dX1_add_35
  · have hf := im c_1 hf
    refine lv_iconst (v := 0) hx hb dX1_add_12 (by decide) ?_
    cases hf
    exact W.zret (v := 0) hx hb hr rfl (fun t ht hW => ⟨⟨_, (), rfl, rfl, by rw [ht]; exact hP, va_K.moved hW.alike hK, hD⟩, hS.F ht⟩) hS.2.2 dX1_add_13
theorem uX5_write_X1 : ∀ w ∈ wsX10, w ∈ wsX5_write := fun w h => List.mem_cons_of_mem _ (List.mem_append_right _ h)
theorem uX5_write_X5 : ∀ w ∈ wsX50, w ∈ wsX5_write := fun w h => List.mem_cons_of_mem _ (List.mem_append_left _ (List.mem_append_right _ h))
set_option maxHeartbeats 4000000 in
set_option maxRecDepth 100000 in
theorem c_X5_write (l : Launch) (D : va_G) (cI cC cL cB : ClassId) (sz : Nat) (h : Nat) (h_page : Nat) (h_laid : Nat) (h_draft : Nat) (h_now : Nat) (h_trial : Nat) (h_past : Nat) (h_sightings : Nat) (h_kept : Nat) (h_told : Nat) (h_page_letters : Nat) (a1 : Int32) (h_keptCount : Int32) (h_page_length : Int32) (h_page_letters_c : Nat → Int32) (r : Int32) (o0 : Int32) (o1 : Nat → Int32) (hf : m_X5_write a1 h_page_length h_page_letters_c = some (r, o0, o1)) : Met l yX5_write wsX5_write ({ frames := 1, cells := 0, slots := 0, locals := 22 }) (va_Pc [.ref h, .int a1] (q_W D vwCl (tyL cI cC cL cB) [(h, .inr (5, [.ref h_page, .ref h_laid, .ref h_draft, .ref h_now, .ref h_trial, .ref h_past, .ref h_sightings, .ref h_kept, .int h_keptCount, .ref h_told])), (h_page, .inr (1, [.ref h_page_letters, .int h_page_length])), (h_page_letters, .inl (cC, 200, .inl h_page_letters_c))] sz)) (va_Qi (fun r' _ => r' = r) (q_E D vwCl (tyL cI cC cL cB) (va_A [(h, .inr (5, [.ref h_page, .ref h_laid, .ref h_draft, .ref h_now, .ref h_trial, .ref h_past, .ref h_sightings, .ref h_kept, .int h_keptCount, .ref h_told])), (h_page, .inr (1, [.ref h_page_letters, .int h_page_length])), (h_page_letters, .inl (cC, 200, .inl h_page_letters_c))] sz) [(h, .inr (5, [.ref h_page, .ref h_laid, .ref h_draft, .ref h_now, .ref h_trial, .ref h_past, .ref h_sightings, .ref h_kept, .int h_keptCount, .ref h_told])), (h_page, .inr (1, [.ref h_page_letters, .int o0])), (h_page_letters, .inl (cC, 200, .inl o1))]) (va_A [(h, .inr (5, [.ref h_page, .ref h_laid, .ref h_draft, .ref h_now, .ref h_trial, .ref h_past, .ref h_sightings, .ref h_kept, .int h_keptCount, .ref h_told])), (h_page, .inr (1, [.ref h_page_letters, .int h_page_length])), (h_page_letters, .inl (cC, 200, .inl h_page_letters_c))] sz)) 0 0 (va_A [(h, .inr (5, [.ref h_page, .ref h_laid, .ref h_draft, .ref h_now, .ref h_trial, .ref h_past, .ref h_sightings, .ref h_kept, .int h_keptCount, .ref h_told])), (h_page, .inr (1, [.ref h_page_letters, .int h_page_length])), (h_page_letters, .inl (cC, 200, .inl h_page_letters_c))] sz) := by
  refine Met.ofW (cc := cX5_write) (maxL := 2) (ret := (some .int)) (by decide) rfl ?_
  intro p e s m args below meth c s₁ B hml hv
  obtain ⟨rfl, hsz, hP, hK, hD0⟩ := hv
  have hx := B.exec
  have hb := B.bytes
  have hr := B.returns
  have hts := atoms_spec (ws := wsX5_write) B.pre
  have hown : s.vm.findClass RX5 = some m.cls := findClass_of_methodNamed B.named
  have hlocks := B.notSynchronized
  subst hsz
  have hD := hD0.self (sz := s.heap.size)
  generalize hAe : va_A [(h, .inr (5, [.ref h_page, .ref h_laid, .ref h_draft, .ref h_now, .ref h_trial, .ref h_past, .ref h_sightings, .ref h_kept, .int h_keptCount, .ref h_told])), (h_page, .inr (1, [.ref h_page_letters, .int h_page_length])), (h_page_letters, .inl (cC, 200, .inl h_page_letters_c))] s.heap.size = A at hD ⊢
  have hA : ∀ q : Nat, s.heap.size ≤ q → A q := fun q h => by rw [← hAe]; exact Or.inr h
  have hS : va_S A s.heap s.heap [] := va_S.rf
  have hP : va_P D vwCl [(h, .inr (5, [.ref h_page, .ref h_laid, .ref h_draft, .ref h_now, .ref h_trial, .ref h_past, .ref h_sightings, .ref h_kept, .int h_keptCount, .ref h_told])), (h_page, .inr (1, [.ref h_page_letters, .int h_page_length])), (h_page_letters, .inl (cC, 200, .inl h_page_letters_c))] s.heap := hP
  have hl := lv_entry ([.ref h, .int a1]) (n := 2) (Nat.le_of_ble_eq_true rfl)
  rw [lg_entry_eq]
  generalize (lg_sl ([.ref h, .int a1]) ++ List.replicate (2 - (lg_sl ([.ref h, .int a1])).length) Slot.unset).toArray = ls at hl ⊢
  have hl : lv_has ls 2 [(0, .ref h), (1, .int a1)] := hl
  unfold m_X5_write at hf
  refine lv_iload_n hx hb dX5_write_0 rfl (lv_at hl 1 rfl) ?_
  refine lv_bipush (v := 32) hx hb dX5_write_1 (by decide) ?_
  refine lv_bipush (v := 126) hx hb dX5_write_3 (by decide) ?_
  obtain ⟨x1, hv_1, hf⟩ := ob1_some hf
  refine q_rSi (As := [.int a1, .int 32, .int 126]) (rest := []) (r := x1) ⟨hx, hb, hml, hown, hts⟩ (c_X5_isWithin l D cI cC cL cB a1 ((32 : Int32)) ((126 : Int32)) x1 hv_1) (va_cwS 3 hts gX5_write_X5_isWithin rfl rfl rfl (by decide +kernel) ⟨Nat.le_of_ble_eq_true rfl, Nat.le_of_ble_eq_true rfl⟩) hK hP [] rfl rfl hl.1 rfl (Nat.le_of_ble_eq_true rfl) dX5_write_5 ⟨Nat.zero_le _, Nat.zero_le _⟩ ?_
  refine lv_if_ne (tgt := 13) hx hb dX5_write_8 (by decide) (fun c_2 => ?_) (fun c_2 => ?_)
  · have hf := im c_2 hf
    refine lv_aload_n hx hb dX5_write_13 rfl (lv_at hl 0 rfl) ?_
    refine va_get (D := D) (ci := 5) (v := .ref h_page) (C := RX5) (T := TX5) (N := 10) hx hb hts uX5_write_X5 hown hK hP 0 rfl rfl 0 (by decide) (hts (.fieldLink RX5 10 "SpeaksForTheChair" "page" "LSpeaksForTheChair$Page;") (List.mem_of_getElem? (i := 1) rfl)) (fun _ h9 => h9) rfl dX5_write_14 ?_
    refine lv_iload_n hx hb dX5_write_17 rfl (lv_at hl 1 rfl) ?_
    refine lv_i2c hx hb dX5_write_18 rfl ?_
    obtain ⟨x2, f3, c4, hv_3, hf⟩ := ob3_some hf
    refine q_wVi (As := [.int ((a1 : Int32).toUInt32 % 65536).toInt32]) (rest := []) (r := x2) (w1 := [(h_page, .inr (1, [.ref h_page_letters, .int f3])), (h_page_letters, .inl (cC, 200, .inl c4))]) (wr := [(h, .inr (5, [.ref h_page, .ref h_laid, .ref h_draft, .ref h_now, .ref h_trial, .ref h_past, .ref h_sightings, .ref h_kept, .int h_keptCount, .ref h_told]))]) (w2 := [(h, .inr (5, [.ref h_page, .ref h_laid, .ref h_draft, .ref h_now, .ref h_trial, .ref h_past, .ref h_sightings, .ref h_kept, .int h_keptCount, .ref h_told])), (h_page, .inr (1, [.ref h_page_letters, .int f3])), (h_page_letters, .inl (cC, 200, .inl c4))]) ⟨hx, hb, hml, hown, hts⟩ (c_X1_add l D cI cC cL cB s.heap.size h_page h_page_letters (((a1 : Int32).toUInt32 % 65536).toInt32) h_page_length h_page_letters_c x2 f3 c4 hv_3) (cwV 1 hts gX5_write_X1_add rfl rfl rfl (by decide +kernel) ⟨Nat.le_of_ble_eq_true rfl, Nat.le_of_ble_eq_true rfl⟩) hK hP hD hS hA [1, 2] rfl (by decide) [0] rfl (by decide) (by decide) [0, 1, 2] rfl (by decide) (va_recv hK hP (ci := 1) (q0 := 1) rfl rfl) rfl hl.1 rfl (Nat.le_of_ble_eq_true rfl) dX5_write_19 ⟨Nat.zero_le _, Nat.zero_le _⟩ (fun H locs hP hD hS => ?_)
    have hP : va_P D vwCl [(h, .inr (5, [.ref h_page, .ref h_laid, .ref h_draft, .ref h_now, .ref h_trial, .ref h_past, .ref h_sightings, .ref h_kept, .int h_keptCount, .ref h_told])), (h_page, .inr (1, [.ref h_page_letters, .int f3])), (h_page_letters, .inl (cC, 200, .inl c4))] H := hP
    have hD : va_D A [(h, .inr (5, [.ref h_page, .ref h_laid, .ref h_draft, .ref h_now, .ref h_trial, .ref h_past, .ref h_sightings, .ref h_kept, .int h_keptCount, .ref h_told])), (h_page, .inr (1, [.ref h_page_letters, .int f3])), (h_page_letters, .inl (cC, 200, .inl c4))] := hD
    refine lv_if_eq (tgt := 35) hx hb dX5_write_22 (by decide) (fun c_4 => ?_) (fun c_4 => ?_)
    · have hf := ip c_4 hf
      refine lv_bipush (v := (-3)) hx hb dX5_write_35 (by decide) ?_
      cases hf
      exact W.iret (v := (-3)) hx hb hr (fun t ht hW => ⟨⟨_, (), rfl, rfl, by rw [ht]; exact hP, va_K.moved hW.alike hK, hD⟩, hS.F ht⟩) hS.2.2 dX5_write_37
    · have hf := im c_4 hf
      refine lv_aload_n hx hb dX5_write_25 rfl (lv_at hl 0 rfl) ?_
      refine va_get (D := D) (ci := 5) (v := .ref h_page) (C := RX5) (T := TX5) (N := 10) hx hb hts uX5_write_X5 hown hK hP 0 rfl rfl 0 (by decide) (hts (.fieldLink RX5 10 "SpeaksForTheChair" "page" "LSpeaksForTheChair$Page;") (List.mem_of_getElem? (i := 1) rfl)) (fun _ h9 => h9) rfl dX5_write_26 ?_
      refine va_get (D := D) (ci := 1) (v := .int f3) (C := RX1) (T := TX1) (N := 2) hx hb hts uX5_write_X1 hown hK hP 1 rfl rfl 1 (by decide) (hts (.fieldLink RX5 84 "SpeaksForTheChair$Page" "length" "I") (List.mem_of_getElem? (i := 2) rfl)) (fun _ h9 => h9) rfl dX5_write_29 ?_
      refine lv_goto (tgt := 37) hx hb dX5_write_32 (by decide) ?_
      cases hf
      exact W.iret (v := f3) hx hb hr (fun t ht hW => ⟨⟨_, (), rfl, rfl, by rw [ht]; exact hP, va_K.moved hW.alike hK, hD⟩, hS.F ht⟩) hS.2.2 dX5_write_37
  · have hf := ip c_2 hf
    refine lv_iconst (v := (-1)) hx hb dX5_write_11 (by decide) ?_
    cases hf
    exact W.iret (v := (-1)) hx hb hr (fun t ht hW => ⟨⟨_, (), rfl, rfl, by rw [ht]; exact hP, va_K.moved hW.alike hK, hD⟩, hS.F ht⟩) hS.2.2 dX5_write_12
theorem uX1_letterAt_X1 : ∀ w ∈ wsX10, w ∈ wsX1_letterAt := fun w h => List.mem_cons_of_mem _ (List.mem_append_right _ h)
set_option maxHeartbeats 4000000 in
set_option maxRecDepth 100000 in
theorem c_X1_letterAt (l : Launch) (D : va_G) (cI cC cL cB : ClassId) (h : Nat) (h_letters : Nat) (a1 : Int32) (h_length : Int32) (h_letters_c : Nat → Int32) (r : Int32) (hf : m_X1_letterAt a1 h_length h_letters_c = some r) : Met l yX1_letterAt wsX1_letterAt ({ frames := 0, cells := 0, slots := 0, locals := 0 }) (va_Pc [.ref h, .int a1] (q_R D vwCl (tyL cI cC cL cB) [(h, .inr (1, [.ref h_letters, .int h_length])), (h_letters, .inl (cC, 200, .inl h_letters_c))])) (vp_Si (fun r' => r' = r)) 0 0 (fun _ => False) := by
  refine Met.ofW (cc := cX1_letterAt) (maxL := 2) (ret := (some .int)) (by decide) rfl ?_
  intro p e s m args below meth c s₁ B hml hv
  obtain ⟨rfl, hP, hK⟩ := hv
  have hx := B.exec
  have hb := B.bytes
  have hr := B.returns
  have hts := atoms_spec (ws := wsX1_letterAt) B.pre
  have hown : s.vm.findClass RX1 = some m.cls := findClass_of_methodNamed B.named
  have hlocks := B.notSynchronized
  have hl := lv_entry ([.ref h, .int a1]) (n := 2) (Nat.le_of_ble_eq_true rfl)
  rw [lg_entry_eq]
  generalize (lg_sl ([.ref h, .int a1]) ++ List.replicate (2 - (lg_sl ([.ref h, .int a1])).length) Slot.unset).toArray = ls at hl ⊢
  have hl : lv_has ls 2 [(0, .ref h), (1, .int a1)] := hl
  unfold m_X1_letterAt at hf
  refine lv_iload_n hx hb dX1_letterAt_0 rfl (lv_at hl 1 rfl) ?_
  refine lv_if_lt (tgt := 21) hx hb dX1_letterAt_1 (by decide) (fun c_1 => ?_) (fun c_1 => ?_)
  · have hf := ip c_1 hf
    refine lv_iconst (v := 0) hx hb dX1_letterAt_21 (by decide) ?_
    cases hf
    exact W.iret (v := 0) hx hb hr (fun t ht hW => ⟨_, rfl, rfl, ht⟩) (fun _ h => by cases h) dX1_letterAt_22
  · have hf := im c_1 hf
    refine lv_iload_n hx hb dX1_letterAt_4 rfl (lv_at hl 1 rfl) ?_
    refine lv_aload_n hx hb dX1_letterAt_5 rfl (lv_at hl 0 rfl) ?_
    refine va_get (D := D) (ci := 1) (v := .int h_length) (C := RX1) (T := TX1) (N := 2) hx hb hts uX1_letterAt_X1 hown hK hP 0 rfl rfl 1 (by decide) (hts (.fieldLink RX1 15 "SpeaksForTheChair$Page" "length" "I") (List.mem_of_getElem? (i := 1) rfl)) (fun _ h9 => h9) rfl dX1_letterAt_6 ?_
    refine lv_icmp_ge (tgt := 21) hx hb dX1_letterAt_9 (by decide) (fun c_2 => ?_) (fun c_2 => ?_)
    · have hf := ip c_2 hf
      refine lv_iconst (v := 0) hx hb dX1_letterAt_21 (by decide) ?_
      cases hf
      exact W.iret (v := 0) hx hb hr (fun t ht hW => ⟨_, rfl, rfl, ht⟩) (fun _ h => by cases h) dX1_letterAt_22
    · have hf := im c_2 hf
      refine lv_aload_n hx hb dX1_letterAt_12 rfl (lv_at hl 0 rfl) ?_
      refine va_get (D := D) (ci := 1) (v := .ref h_letters) (C := RX1) (T := TX1) (N := 2) hx hb hts uX1_letterAt_X1 hown hK hP 0 rfl rfl 0 (by decide) (hts (.fieldLink RX1 9 "SpeaksForTheChair$Page" "letters" "[C") (List.mem_of_getElem? (i := 2) rfl)) (fun _ h9 => h9) rfl dX1_letterAt_13 ?_
      refine lv_iload_n hx hb dX1_letterAt_16 rfl (lv_at hl 1 rfl) ?_
      obtain ⟨g_3, hf⟩ := gu_in hf
      refine va_cald hx hb hK hP 1 1 rfl rfl g_3 dX1_letterAt_17 ?_
      refine lv_goto (tgt := 22) hx hb dX1_letterAt_18 (by decide) ?_
      cases hf
      exact W.iret (v := (h_letters_c a1.toNatClampNeg)) hx hb hr (fun t ht hW => ⟨_, rfl, rfl, ht⟩) (fun _ h => by cases h) dX1_letterAt_22
set_option maxHeartbeats 4000000 in
set_option maxRecDepth 100000 in
theorem c_X0_numbersBehind (l : Launch) (D : va_G) (cI cC cL cB : ClassId) (a1 : Int32) (r : Int32) (hf : m_X0_numbersBehind a1 = some r) : Met l yX0_numbersBehind wsX0_numbersBehind ({ frames := 0, cells := 0, slots := 0, locals := 0 }) (va_Pc [.int a1] (q_R D vwCl (tyL cI cC cL cB) [])) (vp_Si (fun r' => r' = r)) 0 0 (fun _ => False) := by
  refine Met.ofW (cc := cX0_numbersBehind) (maxL := 1) (ret := (some .int)) (by decide) rfl ?_
  intro p e s m args below meth c s₁ B hml hv
  obtain ⟨rfl, hP, hK⟩ := hv
  have hx := B.exec
  have hb := B.bytes
  have hr := B.returns
  have hts := atoms_spec (ws := wsX0_numbersBehind) B.pre
  have hown : s.vm.findClass RX0 = some m.cls := findClass_of_methodNamed B.named
  have hlocks := B.notSynchronized
  have hl := lv_entry ([.int a1]) (n := 1) (Nat.le_of_ble_eq_true rfl)
  rw [lg_entry_eq]
  generalize (lg_sl ([.int a1]) ++ List.replicate (1 - (lg_sl ([.int a1])).length) Slot.unset).toArray = ls at hl ⊢
  have hl : lv_has ls 1 [(0, .int a1)] := hl
  unfold m_X0_numbersBehind at hf
  refine lv_iload_n hx hb dX0_numbersBehind_0 rfl (lv_at hl 0 rfl) ?_
  by_cases k0 : a1 = 100
  · have hf := ip k0 hf
    refine lv_lookup (tgt := 46) hx hb dX0_numbersBehind_1 (by decide) (by rw [k0]; rfl) (by decide) ?_
    refine lv_iconst (v := 4) hx hb dX0_numbersBehind_46 (by decide) ?_
    cases hf
    exact W.iret (v := 4) hx hb hr (fun t ht hW => ⟨_, rfl, rfl, ht⟩) (fun _ h => by cases h) dX0_numbersBehind_47
  · have hf := im k0 hf
    by_cases k1 : a1 = 108
    · have hf := ip k1 hf
      refine lv_lookup (tgt := 50) hx hb dX0_numbersBehind_1 (by decide) (by rw [k1]; rfl) (by decide) ?_
      refine lv_iconst (v := 1) hx hb dX0_numbersBehind_50 (by decide) ?_
      cases hf
      exact W.iret (v := 1) hx hb hr (fun t ht hW => ⟨_, rfl, rfl, ht⟩) (fun _ h => by cases h) dX0_numbersBehind_51
    · have hf := im k1 hf
      by_cases k2 : a1 = 109
      · have hf := ip k2 hf
        refine lv_lookup (tgt := 48) hx hb dX0_numbersBehind_1 (by decide) (by rw [k2]; rfl) (by decide) ?_
        refine lv_iconst (v := 1) hx hb dX0_numbersBehind_48 (by decide) ?_
        cases hf
        exact W.iret (v := 1) hx hb hr (fun t ht hW => ⟨_, rfl, rfl, ht⟩) (fun _ h => by cases h) dX0_numbersBehind_49
      · have hf := im k2 hf
        by_cases k3 : a1 = 112
        · have hf := ip k3 hf
          refine lv_lookup (tgt := 44) hx hb dX0_numbersBehind_1 (by decide) (by rw [k3]; rfl) (by decide) ?_
          refine lv_iconst (v := 3) hx hb dX0_numbersBehind_44 (by decide) ?_
          cases hf
          exact W.iret (v := 3) hx hb hr (fun t ht hW => ⟨_, rfl, rfl, ht⟩) (fun _ h => by cases h) dX0_numbersBehind_45
        · have hf := im k3 hf
          refine lv_lookup (tgt := 52) hx hb dX0_numbersBehind_1 (by decide) (by rw [show Op.lookupswitch.offset _ _ _ = _ from (lv_osw k0 rfl).trans ( (lv_osw k1 rfl).trans ( (lv_osw k2 rfl).trans ( (lv_osw k3 rfl).trans (rfl))))]) (by decide) ?_
          refine lv_iconst (v := 0) hx hb dX0_numbersBehind_52 (by decide) ?_
          cases hf
          exact W.iret (v := 0) hx hb hr (fun t ht hW => ⟨_, rfl, rfl, ht⟩) (fun _ h => by cases h) dX0_numbersBehind_53
theorem uX0_laterOnes_X0 : ∀ w ∈ wsX00, w ∈ wsX0_laterOnes := fun w h => List.mem_cons_of_mem _ (List.mem_append_right _ h)
set_option maxHeartbeats 4000000 in
set_option maxRecDepth 100000 in
theorem c_X0_laterOnes (l : Launch) (D : va_G) (cI cC cL cB : ClassId) (h : Nat) (h_kinds : Nat) (h_prices : Nat) (h_persons : Nat) (h_places : Nat) (h_hours : Nat) (h_weights : Nat) (h_numbers : Nat) (a1 : Int32) (a2 : Int32) (a3 : Int32) (h_pieces : Int32) (h_roomsAtFirst : Int32) (h_deeds : Int32) (h_coins : Int32) (h_law : Int32) (h_hours_c : Nat → Int32) (h_places_c : Nat → Int32) (r : Int32) (hf : m_X0_laterOnes a1 a2 a3 h_deeds h_hours_c h_places_c = some r) : Met l yX0_laterOnes wsX0_laterOnes ({ frames := 0, cells := 0, slots := 0, locals := 0 }) (va_Pc [.ref h, .int a1, .int a2, .int a3] (q_R D vwCl (tyL cI cC cL cB) [(h, .inr (0, [.int h_pieces, .ref h_kinds, .ref h_prices, .int h_roomsAtFirst, .int h_deeds, .ref h_persons, .ref h_places, .ref h_hours, .ref h_weights, .int h_coins, .int h_law, .ref h_numbers])), (h_hours, .inl (cI, 9, .inl h_hours_c)), (h_places, .inl (cI, 9, .inl h_places_c))])) (vp_Si (fun r' => r' = r)) 0 0 (fun _ => False) := by
  refine Met.ofW (cc := cX0_laterOnes) (maxL := 7) (ret := (some .int)) (by decide) rfl ?_
  intro p e s m args below meth c s₁ B hml hv
  obtain ⟨rfl, hP, hK⟩ := hv
  have hx := B.exec
  have hb := B.bytes
  have hr := B.returns
  have hts := atoms_spec (ws := wsX0_laterOnes) B.pre
  have hown : s.vm.findClass RX0 = some m.cls := findClass_of_methodNamed B.named
  have hlocks := B.notSynchronized
  have hl := lv_entry ([.ref h, .int a1, .int a2, .int a3]) (n := 7) (Nat.le_of_ble_eq_true rfl)
  rw [lg_entry_eq]
  generalize (lg_sl ([.ref h, .int a1, .int a2, .int a3]) ++ List.replicate (7 - (lg_sl ([.ref h, .int a1, .int a2, .int a3])).length) Slot.unset).toArray = ls at hl ⊢
  have hl : lv_has ls 7 [(0, .ref h), (1, .int a1), (2, .int a2), (3, .int a3)] := hl
  unfold m_X0_laterOnes at hf
  refine lv_iconst (v := 0) hx hb dX0_laterOnes_0 (by decide) ?_
  refine lv_istore (lv' := [(4, .int 0), (0, .ref h), (1, .int a1), (2, .int a2), (3, .int a3)]) hx hb dX0_laterOnes_1 hl (by decide) rfl (fun ls hl => ?_)
  refine lv_iconst (v := 0) hx hb dX0_laterOnes_3 (by decide) ?_
  refine lv_istore (lv' := [(5, .int 0), (4, .int 0), (0, .ref h), (1, .int a1), (2, .int a2), (3, .int a3)]) hx hb dX0_laterOnes_4 hl (by decide) rfl (fun ls hl => ?_)
  have loop6 : ∀ (n : Nat) (x1 : Int32) (x2 : Int32), ∀ (ls : Array Slot), lv_has ls 7 [(0, .ref h), (1, .int a1), (2, .int a2), (3, .int a3), (4, .int x1), (5, .int x2)] → ∀ (x3 : Int32), L_X0_laterOnes_6 h_deeds a3 h_hours_c a2 h_places_c a1 n x1 x2 = some x3 → (∀ (ls : Array Slot), lv_has ls 7 [(4, .int x3)] → W p l e (headSpec wsX0_laterOnes ({ frames := 0, cells := 0, slots := 0, locals := 0 })).room s m ([.ref h, .int a1, .int a2, .int a3] : List Value).toArray below meth c s.heap [] 0 0 (MQ below (vp_Si (fun r' => r' = r)) ([.ref h, .int a1, .int a2, .int a3] : List Value).toArray s 0 0 (fun _ => False)) (F0 m 81 ls [])) → W p l e (headSpec wsX0_laterOnes ({ frames := 0, cells := 0, slots := 0, locals := 0 })).room s m ([.ref h, .int a1, .int a2, .int a3] : List Value).toArray below meth c s.heap [] 0 0 (MQ below (vp_Si (fun r' => r' = r)) ([.ref h, .int a1, .int a2, .int a3] : List Value).toArray s 0 0 (fun _ => False)) (F0 m 6 ls []) := by
    intro n
    induction n with
    | zero =>
      intro x1 x2 ls hl x3 hf KX
      rw [L_X0_laterOnes_6] at hf
      cases hf
    | succ n ih =>
      intro x1 x2 ls hl x3 hf KX
      rw [L_X0_laterOnes_6] at hf
      refine lv_iload hx hb dX0_laterOnes_6 (lv_at hl 5 rfl) ?_
      refine lv_aload_n hx hb dX0_laterOnes_8 rfl (lv_at hl 0 rfl) ?_
      refine va_get (D := D) (ci := 0) (v := .int h_deeds) (C := RX0) (T := TX0) (N := 12) hx hb hts uX0_laterOnes_X0 hown hK hP 0 rfl rfl 4 (by decide) (hts (.fieldLink RX0 37 "SpeaksForTheChair$House" "deeds" "I") (List.mem_of_getElem? (i := 1) rfl)) (fun _ h9 => h9) rfl dX0_laterOnes_9 ?_
      refine lv_icmp_ge (tgt := 81) hx hb dX0_laterOnes_12 (by decide) (fun c_23 => ?_) (fun c_23 => ?_)
      · have hf := ip c_23 hf
        cases hf
        exact KX ls (lv_sub hl [4] rfl)
      · have hf := im c_23 hf
        refine lv_aload_n hx hb dX0_laterOnes_15 rfl (lv_at hl 0 rfl) ?_
        refine va_get (D := D) (ci := 0) (v := .ref h_hours) (C := RX0) (T := TX0) (N := 12) hx hb hts uX0_laterOnes_X0 hown hK hP 0 rfl rfl 7 (by decide) (hts (.fieldLink RX0 24 "SpeaksForTheChair$House" "hours" "[I") (List.mem_of_getElem? (i := 2) rfl)) (fun _ h9 => h9) rfl dX0_laterOnes_16 ?_
        refine lv_iload hx hb dX0_laterOnes_19 (lv_at hl 5 rfl) ?_
        obtain ⟨g_24, hf⟩ := gu_in hf
        refine va_iald hx hb hK hP 1 0 rfl rfl g_24 dX0_laterOnes_21 ?_
        refine lv_iload_n hx hb dX0_laterOnes_22 rfl (lv_at hl 3 rfl) ?_
        obtain ⟨x4, hr48, hf⟩ := ob1_some hf
        refine q_jn (pcJ := 48) (nL := 7) (vs := [(0, .ref h), (1, .int a1), (2, .int a2), (3, .int a3), (4, .int x1), (5, .int x2)]) (st := [.int x4]) (fun ls hl => ?_) (fun J48 => ?_)
        · clear hr48
          refine lv_istore (lv' := [(6, .int x4), (0, .ref h), (1, .int a1), (2, .int a2), (3, .int a3), (4, .int x1), (5, .int x2)]) hx hb dX0_laterOnes_48 hl (by decide) rfl (fun ls hl => ?_)
          refine lv_iload hx hb dX0_laterOnes_50 (lv_at hl 6 rfl) ?_
          refine lv_iload_n hx hb dX0_laterOnes_52 rfl (lv_at hl 3 rfl) ?_
          refine lv_icmp_eq (tgt := 75) hx hb dX0_laterOnes_53 (by decide) (fun c_29 => ?_) (fun c_29 => ?_)
          · have hf := ip c_29 hf
            obtain ⟨x5, ex5⟩ : ∃ y : Int32, y = (x2 + 1) := ⟨_, rfl⟩
            have hf := pv_eq ex5 hf
            refine lv_iinc (v := x5) (lv' := [(5, .int x5), (6, .int x4), (0, .ref h), (1, .int a1), (2, .int a2), (3, .int a3), (4, .int x1)]) hx hb dX0_laterOnes_75 hl (k := 6) rfl (by rw [ex5]; rfl) (by decide) rfl (fun ls hl => ?_)
            refine lv_goto (tgt := 6) hx hb dX0_laterOnes_78 (by decide) ?_
            exact ih _ _ ls (lv_sub hl [2, 3, 4, 5, 6, 0] rfl) _ hf KX
          · have hf := im c_29 hf
            refine lv_aload_n hx hb dX0_laterOnes_56 rfl (lv_at hl 1 rfl) ?_
            refine va_get (D := D) (ci := 0) (v := .ref h_places) (C := RX0) (T := TX0) (N := 12) hx hb hts uX0_laterOnes_X0 hown hK hP 0 rfl rfl 6 (by decide) (hts (.fieldLink RX0 21 "SpeaksForTheChair$House" "places" "[I") (List.mem_of_getElem? (i := 3) rfl)) (fun _ h9 => h9) rfl dX0_laterOnes_57 ?_
            refine lv_iload hx hb dX0_laterOnes_60 (lv_at hl 6 rfl) ?_
            obtain ⟨g_30, hf⟩ := gu_in hf
            refine va_iald hx hb hK hP 2 0 rfl rfl g_30 dX0_laterOnes_62 ?_
            refine lv_iload_n hx hb dX0_laterOnes_63 rfl (lv_at hl 2 rfl) ?_
            refine lv_icmp_ne (tgt := 75) hx hb dX0_laterOnes_64 (by decide) (fun c_31 => ?_) (fun c_31 => ?_)
            · have hf := im c_31 hf
              obtain ⟨x6, ex6⟩ : ∃ y : Int32, y = (x2 + 1) := ⟨_, rfl⟩
              have hf := pv_eq ex6 hf
              refine lv_iinc (v := x6) (lv' := [(5, .int x6), (6, .int x4), (0, .ref h), (1, .int a1), (2, .int a2), (3, .int a3), (4, .int x1)]) hx hb dX0_laterOnes_75 hl (k := 6) rfl (by rw [ex6]; rfl) (by decide) rfl (fun ls hl => ?_)
              refine lv_goto (tgt := 6) hx hb dX0_laterOnes_78 (by decide) ?_
              exact ih _ _ ls (lv_sub hl [2, 3, 4, 5, 6, 0] rfl) _ hf KX
            · have hf := ip c_31 hf
              refine lv_iload hx hb dX0_laterOnes_67 (lv_at hl 0 rfl) ?_
              refine lv_if_eq (tgt := 75) hx hb dX0_laterOnes_69 (by decide) (fun c_32 => ?_) (fun c_32 => ?_)
              · have hf := ip c_32 hf
                obtain ⟨x7, ex7⟩ : ∃ y : Int32, y = (x2 + 1) := ⟨_, rfl⟩
                have hf := pv_eq ex7 hf
                refine lv_iinc (v := x7) (lv' := [(5, .int x7), (6, .int x4), (0, .ref h), (1, .int a1), (2, .int a2), (3, .int a3), (4, .int x1)]) hx hb dX0_laterOnes_75 hl (k := 6) rfl (by rw [ex7]; rfl) (by decide) rfl (fun ls hl => ?_)
                refine lv_goto (tgt := 6) hx hb dX0_laterOnes_78 (by decide) ?_
                exact ih _ _ ls (lv_sub hl [2, 3, 4, 5, 6, 0] rfl) _ hf KX
              · have hf := im c_32 hf
                obtain ⟨x8, ex8⟩ : ∃ y : Int32, y = (x1 + 1) := ⟨_, rfl⟩
                have hf := pv_eq ex8 hf
                refine lv_iinc (v := x8) (lv' := [(4, .int x8), (6, .int x4), (0, .ref h), (1, .int a1), (2, .int a2), (3, .int a3), (5, .int x2)]) hx hb dX0_laterOnes_72 hl (k := 5) rfl (by rw [ex8]; rfl) (by decide) rfl (fun ls hl => ?_)
                obtain ⟨x9, ex9⟩ : ∃ y : Int32, y = (x2 + 1) := ⟨_, rfl⟩
                have hf := pv_eq ex9 hf
                refine lv_iinc (v := x9) (lv' := [(5, .int x9), (4, .int x8), (6, .int x4), (0, .ref h), (1, .int a1), (2, .int a2), (3, .int a3)]) hx hb dX0_laterOnes_75 hl (k := 6) rfl (by rw [ex9]; rfl) (by decide) rfl (fun ls hl => ?_)
                refine lv_goto (tgt := 6) hx hb dX0_laterOnes_78 (by decide) ?_
                exact ih _ _ ls (lv_sub hl [3, 4, 5, 6, 1, 0] rfl) _ hf KX
        · replace hf := hr48
          refine lv_icmp_gt (tgt := 43) hx hb dX0_laterOnes_23 (by decide) (fun c_25 => ?_) (fun c_25 => ?_)
          · have hf := ip c_25 hf
            refine lv_iconst (v := 1) hx hb dX0_laterOnes_43 (by decide) ?_
            refine lv_goto (tgt := 48) hx hb dX0_laterOnes_44 (by decide) ?_
            cases hf
            exact J48 ls (lv_sub hl [0, 1, 2, 3, 4, 5] rfl)
          · have hf := im c_25 hf
            refine lv_aload_n hx hb dX0_laterOnes_26 rfl (lv_at hl 0 rfl) ?_
            refine va_get (D := D) (ci := 0) (v := .ref h_hours) (C := RX0) (T := TX0) (N := 12) hx hb hts uX0_laterOnes_X0 hown hK hP 0 rfl rfl 7 (by decide) (hts (.fieldLink RX0 24 "SpeaksForTheChair$House" "hours" "[I") (List.mem_of_getElem? (i := 2) rfl)) (fun _ h9 => h9) rfl dX0_laterOnes_27 ?_
            refine lv_iload hx hb dX0_laterOnes_30 (lv_at hl 5 rfl) ?_
            obtain ⟨g_33, hf⟩ := gu_in hf
            refine va_iald hx hb hK hP 1 0 rfl rfl g_33 dX0_laterOnes_32 ?_
            refine lv_iload_n hx hb dX0_laterOnes_33 rfl (lv_at hl 3 rfl) ?_
            refine lv_icmp_ne (tgt := 47) hx hb dX0_laterOnes_34 (by decide) (fun c_34 => ?_) (fun c_34 => ?_)
            · have hf := im c_34 hf
              refine lv_iconst (v := 0) hx hb dX0_laterOnes_47 (by decide) ?_
              cases hf
              exact J48 ls (lv_sub hl [0, 1, 2, 3, 4, 5] rfl)
            · have hf := ip c_34 hf
              refine lv_iload hx hb dX0_laterOnes_37 (lv_at hl 5 rfl) ?_
              refine lv_iload_n hx hb dX0_laterOnes_39 rfl (lv_at hl 2 rfl) ?_
              refine lv_icmp_le (tgt := 47) hx hb dX0_laterOnes_40 (by decide) (fun c_35 => ?_) (fun c_35 => ?_)
              · have hf := ip c_35 hf
                refine lv_iconst (v := 0) hx hb dX0_laterOnes_47 (by decide) ?_
                cases hf
                exact J48 ls (lv_sub hl [0, 1, 2, 3, 4, 5] rfl)
              · have hf := im c_35 hf
                refine lv_iconst (v := 1) hx hb dX0_laterOnes_43 (by decide) ?_
                refine lv_goto (tgt := 48) hx hb dX0_laterOnes_44 (by decide) ?_
                cases hf
                exact J48 ls (lv_sub hl [0, 1, 2, 3, 4, 5] rfl)
  obtain ⟨x3, hr6, hf⟩ := ob1_some hf
  refine loop6 300 _ _ ls (lv_sub hl [2, 3, 4, 5, 1, 0] rfl) _ hr6 (fun ls hl => ?_)
  refine lv_iload hx hb dX0_laterOnes_81 (lv_at hl 0 rfl) ?_
  cases hf
  exact W.iret (v := x3) hx hb hr (fun t ht hW => ⟨_, rfl, rfl, ht⟩) (fun _ h => by cases h) dX0_laterOnes_83
set_option maxHeartbeats 4000000 in
set_option maxRecDepth 100000 in
theorem c_X0_wouldTell (l : Launch) (D : va_G) (cI cC cL cB : ClassId) (h : Nat) (h_kinds : Nat) (h_prices : Nat) (h_persons : Nat) (h_places : Nat) (h_hours : Nat) (h_weights : Nat) (h_numbers : Nat) (a1 : Int32) (a2 : Int32) (a3 : Int32) (a4 : Int32) (a5 : Int32) (h_pieces : Int32) (h_roomsAtFirst : Int32) (h_deeds : Int32) (h_coins : Int32) (h_law : Int32) (h_hours_c : Nat → Int32) (h_places_c : Nat → Int32) (r : Int32) (hf : m_X0_wouldTell a1 a2 a3 a4 a5 h_deeds h_hours_c h_places_c = some r) : Met l yX0_wouldTell wsX0_wouldTell ({ frames := 1, cells := 0, slots := 0, locals := 26 }) (va_Pc [.ref h, .int a1, .int a2, .int a3, .int a4, .int a5] (q_R D vwCl (tyL cI cC cL cB) [(h, .inr (0, [.int h_pieces, .ref h_kinds, .ref h_prices, .int h_roomsAtFirst, .int h_deeds, .ref h_persons, .ref h_places, .ref h_hours, .ref h_weights, .int h_coins, .int h_law, .ref h_numbers])), (h_hours, .inl (cI, 9, .inl h_hours_c)), (h_places, .inl (cI, 9, .inl h_places_c))])) (vp_Si (fun r' => r' = r)) 0 0 (fun _ => False) := by
  refine Met.ofW (cc := cX0_wouldTell) (maxL := 6) (ret := (some .boolean)) (by decide) rfl ?_
  intro p e s m args below meth c s₁ B hml hv
  obtain ⟨rfl, hP, hK⟩ := hv
  have hx := B.exec
  have hb := B.bytes
  have hr := B.returns
  have hts := atoms_spec (ws := wsX0_wouldTell) B.pre
  have hown : s.vm.findClass RX0 = some m.cls := findClass_of_methodNamed B.named
  have hlocks := B.notSynchronized
  have hl := lv_entry ([.ref h, .int a1, .int a2, .int a3, .int a4, .int a5]) (n := 6) (Nat.le_of_ble_eq_true rfl)
  rw [lg_entry_eq]
  generalize (lg_sl ([.ref h, .int a1, .int a2, .int a3, .int a4, .int a5]) ++ List.replicate (6 - (lg_sl ([.ref h, .int a1, .int a2, .int a3, .int a4, .int a5])).length) Slot.unset).toArray = ls at hl ⊢
  have hl : lv_has ls 6 [(0, .ref h), (1, .int a1), (2, .int a2), (3, .int a3), (4, .int a4), (5, .int a5)] := hl
  unfold m_X0_wouldTell at hf
  refine lv_iload_n hx hb dX0_wouldTell_0 rfl (lv_at hl 1 rfl) ?_
  by_cases k0 : a1 = 0
  · have hf := ip k0 hf
    refine lv_tableIn (tgt := 32) hx hb dX0_wouldTell_1 (by rw [k0]; decide) (by rw [k0]; decide) (by rw [k0]; rfl) (by decide) ?_
    refine lv_iconst (v := 1) hx hb dX0_wouldTell_32 (by decide) ?_
    cases hf
    exact W.zret (v := 1) hx hb hr rfl (fun t ht hW => ⟨_, rfl, rfl, ht⟩) (fun _ h => by cases h) dX0_wouldTell_33
  · have hf := im k0 hf
    by_cases k1 : a1 = 1
    · have hf := ip k1 hf
      refine lv_tableIn (tgt := 34) hx hb dX0_wouldTell_1 (by rw [k1]; decide) (by rw [k1]; decide) (by rw [k1]; rfl) (by decide) ?_
      refine lv_iload hx hb dX0_wouldTell_34 (lv_at hl 4 rfl) ?_
      refine lv_bipush (v := 12) hx hb dX0_wouldTell_36 (by decide) ?_
      refine lv_icmp_lt (tgt := 45) hx hb dX0_wouldTell_38 (by decide) (fun c_5 => ?_) (fun c_5 => ?_)
      · have hf := ip c_5 hf
        refine lv_iconst (v := 0) hx hb dX0_wouldTell_45 (by decide) ?_
        cases hf
        exact W.zret (v := 0) hx hb hr rfl (fun t ht hW => ⟨_, rfl, rfl, ht⟩) (fun _ h => by cases h) dX0_wouldTell_46
      · have hf := im c_5 hf
        refine lv_iconst (v := 1) hx hb dX0_wouldTell_41 (by decide) ?_
        refine lv_goto (tgt := 46) hx hb dX0_wouldTell_42 (by decide) ?_
        cases hf
        exact W.zret (v := 1) hx hb hr rfl (fun t ht hW => ⟨_, rfl, rfl, ht⟩) (fun _ h => by cases h) dX0_wouldTell_46
    · have hf := im k1 hf
      by_cases k2 : a1 = 2
      · have hf := ip k2 hf
        refine lv_tableIn (tgt := 47) hx hb dX0_wouldTell_1 (by rw [k2]; decide) (by rw [k2]; decide) (by rw [k2]; rfl) (by decide) ?_
        refine lv_aload_n hx hb dX0_wouldTell_47 rfl (lv_at hl 0 rfl) ?_
        refine lv_iload_n hx hb dX0_wouldTell_48 rfl (lv_at hl 2 rfl) ?_
        refine lv_iload_n hx hb dX0_wouldTell_49 rfl (lv_at hl 3 rfl) ?_
        refine lv_iload hx hb dX0_wouldTell_50 (lv_at hl 4 rfl) ?_
        obtain ⟨x1, hv_3, hf⟩ := ob1_some hf
        refine q_rVi (As := [.int a2, .int a3, .int a4]) (rest := []) (r := x1) ⟨hx, hb, hml, hown, hts⟩ (c_X0_laterOnes l D cI cC cL cB h h_kinds h_prices h_persons h_places h_hours h_weights h_numbers a2 a3 a4 h_pieces h_roomsAtFirst h_deeds h_coins h_law h_hours_c h_places_c x1 hv_3) (cwV 3 hts gX0_wouldTell_X0_laterOnes rfl rfl rfl (by decide +kernel) ⟨Nat.le_of_ble_eq_true rfl, Nat.le_of_ble_eq_true rfl⟩) hK hP [0, 1, 2] rfl (va_recv hK hP (ci := 0) (q0 := 0) rfl rfl) rfl hl.1 rfl (Nat.le_of_ble_eq_true rfl) dX0_wouldTell_52 ⟨Nat.zero_le _, Nat.zero_le _⟩ ?_
        refine lv_iconst (v := 2) hx hb dX0_wouldTell_55 (by decide) ?_
        refine lv_icmp_ge (tgt := 63) hx hb dX0_wouldTell_56 (by decide) (fun c_4 => ?_) (fun c_4 => ?_)
        · have hf := ip c_4 hf
          refine lv_iconst (v := 0) hx hb dX0_wouldTell_63 (by decide) ?_
          cases hf
          exact W.zret (v := 0) hx hb hr rfl (fun t ht hW => ⟨_, rfl, rfl, ht⟩) (fun _ h => by cases h) dX0_wouldTell_64
        · have hf := im c_4 hf
          refine lv_iconst (v := 1) hx hb dX0_wouldTell_59 (by decide) ?_
          refine lv_goto (tgt := 64) hx hb dX0_wouldTell_60 (by decide) ?_
          cases hf
          exact W.zret (v := 1) hx hb hr rfl (fun t ht hW => ⟨_, rfl, rfl, ht⟩) (fun _ h => by cases h) dX0_wouldTell_64
      · have hf := im k2 hf
        by_cases k3 : a1 = 3
        · have hf := ip k3 hf
          refine lv_tableIn (tgt := 65) hx hb dX0_wouldTell_1 (by rw [k3]; decide) (by rw [k3]; decide) (by rw [k3]; rfl) (by decide) ?_
          refine lv_iload hx hb dX0_wouldTell_65 (lv_at hl 4 rfl) ?_
          refine lv_bipush (v := 12) hx hb dX0_wouldTell_67 (by decide) ?_
          refine lv_icmp_ge (tgt := 83) hx hb dX0_wouldTell_69 (by decide) (fun c_1 => ?_) (fun c_1 => ?_)
          · have hf := ip c_1 hf
            refine lv_iconst (v := 0) hx hb dX0_wouldTell_83 (by decide) ?_
            cases hf
            exact W.zret (v := 0) hx hb hr rfl (fun t ht hW => ⟨_, rfl, rfl, ht⟩) (fun _ h => by cases h) dX0_wouldTell_84
          · have hf := im c_1 hf
            refine lv_iload hx hb dX0_wouldTell_72 (lv_at hl 5 rfl) ?_
            refine lv_bipush (v := 10) hx hb dX0_wouldTell_74 (by decide) ?_
            refine lv_icmp_gt (tgt := 83) hx hb dX0_wouldTell_76 (by decide) (fun c_2 => ?_) (fun c_2 => ?_)
            · have hf := ip c_2 hf
              refine lv_iconst (v := 0) hx hb dX0_wouldTell_83 (by decide) ?_
              cases hf
              exact W.zret (v := 0) hx hb hr rfl (fun t ht hW => ⟨_, rfl, rfl, ht⟩) (fun _ h => by cases h) dX0_wouldTell_84
            · have hf := im c_2 hf
              refine lv_iconst (v := 1) hx hb dX0_wouldTell_79 (by decide) ?_
              refine lv_goto (tgt := 84) hx hb dX0_wouldTell_80 (by decide) ?_
              cases hf
              exact W.zret (v := 1) hx hb hr rfl (fun t ht hW => ⟨_, rfl, rfl, ht⟩) (fun _ h => by cases h) dX0_wouldTell_84
        · have hf := im k3 hf
          refine lv_tableOut (tgt := 85) hx hb dX0_wouldTell_1 (sw_out 4 (fun k hk => ?_)) (by decide) ?_
          · rcases (show k = 0 ∨ k = 1 ∨ k = 2 ∨ k = 3 by omega) with rfl | rfl | rfl | rfl
            · exact lv_neT k0 rfl
            · exact lv_neT k1 rfl
            · exact lv_neT k2 rfl
            · exact lv_neT k3 rfl
          · refine lv_iconst (v := 0) hx hb dX0_wouldTell_85 (by decide) ?_
            cases hf
            exact W.zret (v := 0) hx hb hr rfl (fun t ht hW => ⟨_, rfl, rfl, ht⟩) (fun _ h => by cases h) dX0_wouldTell_86
theorem uX0_toldBy_X0 : ∀ w ∈ wsX00, w ∈ wsX0_toldBy := fun w h => List.mem_cons_of_mem _ (List.mem_append_right _ h)
set_option maxHeartbeats 4000000 in
set_option maxRecDepth 100000 in
theorem c_X0_toldBy (l : Launch) (D : va_G) (cI cC cL cB : ClassId) (h : Nat) (h_kinds : Nat) (h_prices : Nat) (h_persons : Nat) (h_places : Nat) (h_hours : Nat) (h_weights : Nat) (h_numbers : Nat) (a1 : Int32) (a2 : Int32) (h_pieces : Int32) (h_roomsAtFirst : Int32) (h_deeds : Int32) (h_coins : Int32) (h_law : Int32) (h_places_c : Nat → Int32) (h_kinds_c : Nat → Int32) (h_hours_c : Nat → Int32) (h_weights_c : Nat → Int32) (r : Int32) (hf : m_X0_toldBy a1 a2 h_deeds h_places_c h_kinds_c h_hours_c h_weights_c = some r) : Met l yX0_toldBy wsX0_toldBy ({ frames := 2, cells := 0, slots := 0, locals := 51 }) (va_Pc [.ref h, .int a1, .int a2] (q_R D vwCl (tyL cI cC cL cB) [(h, .inr (0, [.int h_pieces, .ref h_kinds, .ref h_prices, .int h_roomsAtFirst, .int h_deeds, .ref h_persons, .ref h_places, .ref h_hours, .ref h_weights, .int h_coins, .int h_law, .ref h_numbers])), (h_places, .inl (cI, 9, .inl h_places_c)), (h_kinds, .inl (cI, 8, .inl h_kinds_c)), (h_hours, .inl (cI, 9, .inl h_hours_c)), (h_weights, .inl (cI, 9, .inl h_weights_c))])) (vp_Si (fun r' => r' = r)) 0 0 (fun _ => False) := by
  refine Met.ofW (cc := cX0_toldBy) (maxL := 5) (ret := (some .int)) (by decide) rfl ?_
  intro p e s m args below meth c s₁ B hml hv
  obtain ⟨rfl, hP, hK⟩ := hv
  have hx := B.exec
  have hb := B.bytes
  have hr := B.returns
  have hts := atoms_spec (ws := wsX0_toldBy) B.pre
  have hown : s.vm.findClass RX0 = some m.cls := findClass_of_methodNamed B.named
  have hlocks := B.notSynchronized
  have hl := lv_entry ([.ref h, .int a1, .int a2]) (n := 5) (Nat.le_of_ble_eq_true rfl)
  rw [lg_entry_eq]
  generalize (lg_sl ([.ref h, .int a1, .int a2]) ++ List.replicate (5 - (lg_sl ([.ref h, .int a1, .int a2])).length) Slot.unset).toArray = ls at hl ⊢
  have hl : lv_has ls 5 [(0, .ref h), (1, .int a1), (2, .int a2)] := hl
  unfold m_X0_toldBy at hf
  refine lv_iconst (v := 0) hx hb dX0_toldBy_0 (by decide) ?_
  refine lv_istore_n (lv' := [(3, .int 0), (0, .ref h), (1, .int a1), (2, .int a2)]) hx hb dX0_toldBy_1 rfl hl (by decide) rfl (fun ls hl => ?_)
  refine lv_iconst (v := 0) hx hb dX0_toldBy_2 (by decide) ?_
  refine lv_istore (lv' := [(4, .int 0), (3, .int 0), (0, .ref h), (1, .int a1), (2, .int a2)]) hx hb dX0_toldBy_3 hl (by decide) rfl (fun ls hl => ?_)
  have loop5 : ∀ (n : Nat) (x1 : Int32) (x2 : Int32), ∀ (ls : Array Slot), lv_has ls 5 [(0, .ref h), (1, .int a1), (2, .int a2), (3, .int x1), (4, .int x2)] → ∀ (x3 : Int32), L_X0_toldBy_5 h_deeds h_places_c a2 a1 h_kinds_c h_hours_c h_weights_c n x1 x2 = some x3 → (∀ (ls : Array Slot), lv_has ls 5 [(3, .int x3)] → W p l e (headSpec wsX0_toldBy ({ frames := 2, cells := 0, slots := 0, locals := 51 })).room s m ([.ref h, .int a1, .int a2] : List Value).toArray below meth c s.heap [] 0 0 (MQ below (vp_Si (fun r' => r' = r)) ([.ref h, .int a1, .int a2] : List Value).toArray s 0 0 (fun _ => False)) (F0 m 68 ls [])) → W p l e (headSpec wsX0_toldBy ({ frames := 2, cells := 0, slots := 0, locals := 51 })).room s m ([.ref h, .int a1, .int a2] : List Value).toArray below meth c s.heap [] 0 0 (MQ below (vp_Si (fun r' => r' = r)) ([.ref h, .int a1, .int a2] : List Value).toArray s 0 0 (fun _ => False)) (F0 m 5 ls []) := by
    intro n
    induction n with
    | zero =>
      intro x1 x2 ls hl x3 hf KX
      rw [L_X0_toldBy_5] at hf
      cases hf
    | succ n ih =>
      intro x1 x2 ls hl x3 hf KX
      rw [L_X0_toldBy_5] at hf
      refine lv_iload hx hb dX0_toldBy_5 (lv_at hl 4 rfl) ?_
      refine lv_aload_n hx hb dX0_toldBy_7 rfl (lv_at hl 0 rfl) ?_
      refine va_get (D := D) (ci := 0) (v := .int h_deeds) (C := RX0) (T := TX0) (N := 12) hx hb hts uX0_toldBy_X0 hown hK hP 0 rfl rfl 4 (by decide) (hts (.fieldLink RX0 37 "SpeaksForTheChair$House" "deeds" "I") (List.mem_of_getElem? (i := 1) rfl)) (fun _ h9 => h9) rfl dX0_toldBy_8 ?_
      refine lv_icmp_ge (tgt := 68) hx hb dX0_toldBy_11 (by decide) (fun c_14 => ?_) (fun c_14 => ?_)
      · have hf := ip c_14 hf
        cases hf
        exact KX ls (lv_sub hl [3] rfl)
      · have hf := im c_14 hf
        refine lv_aload_n hx hb dX0_toldBy_14 rfl (lv_at hl 0 rfl) ?_
        refine va_get (D := D) (ci := 0) (v := .ref h_places) (C := RX0) (T := TX0) (N := 12) hx hb hts uX0_toldBy_X0 hown hK hP 0 rfl rfl 6 (by decide) (hts (.fieldLink RX0 21 "SpeaksForTheChair$House" "places" "[I") (List.mem_of_getElem? (i := 2) rfl)) (fun _ h9 => h9) rfl dX0_toldBy_15 ?_
        refine lv_iload hx hb dX0_toldBy_18 (lv_at hl 4 rfl) ?_
        obtain ⟨g_15, hf⟩ := gu_in hf
        refine va_iald hx hb hK hP 1 0 rfl rfl g_15 dX0_toldBy_20 ?_
        refine lv_iload_n hx hb dX0_toldBy_21 rfl (lv_at hl 2 rfl) ?_
        refine lv_icmp_ne (tgt := 62) hx hb dX0_toldBy_22 (by decide) (fun c_16 => ?_) (fun c_16 => ?_)
        · have hf := im c_16 hf
          obtain ⟨x4, ex4⟩ : ∃ y : Int32, y = (x2 + 1) := ⟨_, rfl⟩
          have hf := pv_eq ex4 hf
          refine lv_iinc (v := x4) (lv' := [(4, .int x4), (0, .ref h), (1, .int a1), (2, .int a2), (3, .int x1)]) hx hb dX0_toldBy_62 hl (k := 4) rfl (by rw [ex4]; rfl) (by decide) rfl (fun ls hl => ?_)
          refine lv_goto (tgt := 5) hx hb dX0_toldBy_65 (by decide) ?_
          exact ih _ _ ls (lv_sub hl [1, 2, 3, 4, 0] rfl) _ hf KX
        · have hf := ip c_16 hf
          refine lv_aload_n hx hb dX0_toldBy_25 rfl (lv_at hl 0 rfl) ?_
          refine lv_aload_n hx hb dX0_toldBy_26 rfl (lv_at hl 0 rfl) ?_
          refine va_get (D := D) (ci := 0) (v := .ref h_kinds) (C := RX0) (T := TX0) (N := 12) hx hb hts uX0_toldBy_X0 hown hK hP 0 rfl rfl 1 (by decide) (hts (.fieldLink RX0 9 "SpeaksForTheChair$House" "kinds" "[I") (List.mem_of_getElem? (i := 3) rfl)) (fun _ h9 => h9) rfl dX0_toldBy_27 ?_
          refine lv_iload_n hx hb dX0_toldBy_30 rfl (lv_at hl 1 rfl) ?_
          obtain ⟨g_17, hf⟩ := gu_in hf
          refine va_iald hx hb hK hP 2 0 rfl rfl g_17 dX0_toldBy_31 ?_
          refine lv_iload_n hx hb dX0_toldBy_32 rfl (lv_at hl 2 rfl) ?_
          refine lv_iload hx hb dX0_toldBy_33 (lv_at hl 4 rfl) ?_
          refine lv_aload_n hx hb dX0_toldBy_35 rfl (lv_at hl 0 rfl) ?_
          refine va_get (D := D) (ci := 0) (v := .ref h_hours) (C := RX0) (T := TX0) (N := 12) hx hb hts uX0_toldBy_X0 hown hK hP 0 rfl rfl 7 (by decide) (hts (.fieldLink RX0 24 "SpeaksForTheChair$House" "hours" "[I") (List.mem_of_getElem? (i := 4) rfl)) (fun _ h9 => h9) rfl dX0_toldBy_36 ?_
          refine lv_iload hx hb dX0_toldBy_39 (lv_at hl 4 rfl) ?_
          obtain ⟨g_18, hf⟩ := gu_in hf
          refine va_iald hx hb hK hP 3 0 rfl rfl g_18 dX0_toldBy_41 ?_
          refine lv_aload_n hx hb dX0_toldBy_42 rfl (lv_at hl 0 rfl) ?_
          refine va_get (D := D) (ci := 0) (v := .ref h_weights) (C := RX0) (T := TX0) (N := 12) hx hb hts uX0_toldBy_X0 hown hK hP 0 rfl rfl 8 (by decide) (hts (.fieldLink RX0 27 "SpeaksForTheChair$House" "weights" "[I") (List.mem_of_getElem? (i := 5) rfl)) (fun _ h9 => h9) rfl dX0_toldBy_43 ?_
          refine lv_iload hx hb dX0_toldBy_46 (lv_at hl 4 rfl) ?_
          obtain ⟨g_19, hf⟩ := gu_in hf
          refine va_iald hx hb hK hP 4 0 rfl rfl g_19 dX0_toldBy_48 ?_
          obtain ⟨x5, hv_20, hf⟩ := ob1_some hf
          refine q_rVi (As := [.int (h_kinds_c a1.toNatClampNeg), .int a2, .int x2, .int (h_hours_c x2.toNatClampNeg), .int (h_weights_c x2.toNatClampNeg)]) (rest := []) (r := x5) ⟨hx, hb, hml, hown, hts⟩ (c_X0_wouldTell l D cI cC cL cB h h_kinds h_prices h_persons h_places h_hours h_weights h_numbers ((h_kinds_c a1.toNatClampNeg)) a2 x2 ((h_hours_c x2.toNatClampNeg)) ((h_weights_c x2.toNatClampNeg)) h_pieces h_roomsAtFirst h_deeds h_coins h_law h_hours_c h_places_c x5 hv_20) (cwV 5 hts gX0_toldBy_X0_wouldTell rfl rfl rfl (by decide +kernel) ⟨Nat.le_of_ble_eq_true rfl, Nat.le_of_ble_eq_true rfl⟩) hK hP [0, 3, 1] rfl (va_recv hK hP (ci := 0) (q0 := 0) rfl rfl) rfl hl.1 rfl (Nat.le_of_ble_eq_true rfl) dX0_toldBy_49 ⟨Nat.zero_le _, Nat.zero_le _⟩ ?_
          refine lv_if_eq (tgt := 62) hx hb dX0_toldBy_52 (by decide) (fun c_21 => ?_) (fun c_21 => ?_)
          · have hf := ip c_21 hf
            obtain ⟨x6, ex6⟩ : ∃ y : Int32, y = (x2 + 1) := ⟨_, rfl⟩
            have hf := pv_eq ex6 hf
            refine lv_iinc (v := x6) (lv' := [(4, .int x6), (0, .ref h), (1, .int a1), (2, .int a2), (3, .int x1)]) hx hb dX0_toldBy_62 hl (k := 4) rfl (by rw [ex6]; rfl) (by decide) rfl (fun ls hl => ?_)
            refine lv_goto (tgt := 5) hx hb dX0_toldBy_65 (by decide) ?_
            exact ih _ _ ls (lv_sub hl [1, 2, 3, 4, 0] rfl) _ hf KX
          · have hf := im c_21 hf
            refine lv_iload_n hx hb dX0_toldBy_55 rfl (lv_at hl 3 rfl) ?_
            refine lv_iconst (v := 1) hx hb dX0_toldBy_56 (by decide) ?_
            refine lv_iload hx hb dX0_toldBy_57 (lv_at hl 4 rfl) ?_
            refine lv_ishl hx hb dX0_toldBy_59 ?_
            refine lv_ior hx hb dX0_toldBy_60 ?_
            refine lv_topi (fun x7 ex7 => ?_)
            have hf := pv_eq ex7 hf
            refine lv_istore_n (lv' := [(3, .int x7), (0, .ref h), (1, .int a1), (2, .int a2), (4, .int x2)]) hx hb dX0_toldBy_61 rfl hl (by decide) rfl (fun ls hl => ?_)
            obtain ⟨x8, ex8⟩ : ∃ y : Int32, y = (x2 + 1) := ⟨_, rfl⟩
            have hf := pv_eq ex8 hf
            refine lv_iinc (v := x8) (lv' := [(4, .int x8), (3, .int x7), (0, .ref h), (1, .int a1), (2, .int a2)]) hx hb dX0_toldBy_62 hl (k := 4) rfl (by rw [ex8]; rfl) (by decide) rfl (fun ls hl => ?_)
            refine lv_goto (tgt := 5) hx hb dX0_toldBy_65 (by decide) ?_
            exact ih _ _ ls (lv_sub hl [2, 3, 4, 1, 0] rfl) _ hf KX
  obtain ⟨x3, hr5, hf⟩ := ob1_some hf
  refine loop5 300 _ _ ls (lv_sub hl [2, 3, 4, 1, 0] rfl) _ hr5 (fun ls hl => ?_)
  refine lv_iload_n hx hb dX0_toldBy_68 rfl (lv_at hl 0 rfl) ?_
  cases hf
  exact W.iret (v := x3) hx hb hr (fun t ht hW => ⟨_, rfl, rfl, ht⟩) (fun _ h => by cases h) dX0_toldBy_69
theorem uX0_weightOf_X0 : ∀ w ∈ wsX00, w ∈ wsX0_weightOf := fun w h => List.mem_cons_of_mem _ (List.mem_append_right _ h)
set_option maxHeartbeats 4000000 in
set_option maxRecDepth 100000 in
theorem c_X0_weightOf (l : Launch) (D : va_G) (cI cC cL cB : ClassId) (h : Nat) (h_kinds : Nat) (h_prices : Nat) (h_persons : Nat) (h_places : Nat) (h_hours : Nat) (h_weights : Nat) (h_numbers : Nat) (a1 : Int32) (h_pieces : Int32) (h_roomsAtFirst : Int32) (h_deeds : Int32) (h_coins : Int32) (h_law : Int32) (h_weights_c : Nat → Int32) (r : Int32) (hf : m_X0_weightOf a1 h_deeds h_weights_c = some r) : Met l yX0_weightOf wsX0_weightOf ({ frames := 0, cells := 0, slots := 0, locals := 0 }) (va_Pc [.ref h, .int a1] (q_R D vwCl (tyL cI cC cL cB) [(h, .inr (0, [.int h_pieces, .ref h_kinds, .ref h_prices, .int h_roomsAtFirst, .int h_deeds, .ref h_persons, .ref h_places, .ref h_hours, .ref h_weights, .int h_coins, .int h_law, .ref h_numbers])), (h_weights, .inl (cI, 9, .inl h_weights_c))])) (vp_Si (fun r' => r' = r)) 0 0 (fun _ => False) := by
  refine Met.ofW (cc := cX0_weightOf) (maxL := 4) (ret := (some .int)) (by decide) rfl ?_
  intro p e s m args below meth c s₁ B hml hv
  obtain ⟨rfl, hP, hK⟩ := hv
  have hx := B.exec
  have hb := B.bytes
  have hr := B.returns
  have hts := atoms_spec (ws := wsX0_weightOf) B.pre
  have hown : s.vm.findClass RX0 = some m.cls := findClass_of_methodNamed B.named
  have hlocks := B.notSynchronized
  have hl := lv_entry ([.ref h, .int a1]) (n := 4) (Nat.le_of_ble_eq_true rfl)
  rw [lg_entry_eq]
  generalize (lg_sl ([.ref h, .int a1]) ++ List.replicate (4 - (lg_sl ([.ref h, .int a1])).length) Slot.unset).toArray = ls at hl ⊢
  have hl : lv_has ls 4 [(0, .ref h), (1, .int a1)] := hl
  unfold m_X0_weightOf at hf
  refine lv_iconst (v := 0) hx hb dX0_weightOf_0 (by decide) ?_
  refine lv_istore_n (lv' := [(2, .int 0), (0, .ref h), (1, .int a1)]) hx hb dX0_weightOf_1 rfl hl (by decide) rfl (fun ls hl => ?_)
  refine lv_iconst (v := 0) hx hb dX0_weightOf_2 (by decide) ?_
  refine lv_istore_n (lv' := [(3, .int 0), (2, .int 0), (0, .ref h), (1, .int a1)]) hx hb dX0_weightOf_3 rfl hl (by decide) rfl (fun ls hl => ?_)
  have loop4 : ∀ (n : Nat) (x1 : Int32) (x2 : Int32), ∀ (ls : Array Slot), lv_has ls 4 [(0, .ref h), (1, .int a1), (2, .int x1), (3, .int x2)] → ∀ (x3 : Int32), L_X0_weightOf_4 h_deeds a1 h_weights_c n x1 x2 = some x3 → (∀ (ls : Array Slot), lv_has ls 4 [(2, .int x3)] → W p l e (headSpec wsX0_weightOf ({ frames := 0, cells := 0, slots := 0, locals := 0 })).room s m ([.ref h, .int a1] : List Value).toArray below meth c s.heap [] 0 0 (MQ below (vp_Si (fun r' => r' = r)) ([.ref h, .int a1] : List Value).toArray s 0 0 (fun _ => False)) (F0 m 36 ls [])) → W p l e (headSpec wsX0_weightOf ({ frames := 0, cells := 0, slots := 0, locals := 0 })).room s m ([.ref h, .int a1] : List Value).toArray below meth c s.heap [] 0 0 (MQ below (vp_Si (fun r' => r' = r)) ([.ref h, .int a1] : List Value).toArray s 0 0 (fun _ => False)) (F0 m 4 ls []) := by
    intro n
    induction n with
    | zero =>
      intro x1 x2 ls hl x3 hf KX
      rw [L_X0_weightOf_4] at hf
      cases hf
    | succ n ih =>
      intro x1 x2 ls hl x3 hf KX
      rw [L_X0_weightOf_4] at hf
      refine lv_iload_n hx hb dX0_weightOf_4 rfl (lv_at hl 3 rfl) ?_
      refine lv_aload_n hx hb dX0_weightOf_5 rfl (lv_at hl 0 rfl) ?_
      refine va_get (D := D) (ci := 0) (v := .int h_deeds) (C := RX0) (T := TX0) (N := 12) hx hb hts uX0_weightOf_X0 hown hK hP 0 rfl rfl 4 (by decide) (hts (.fieldLink RX0 37 "SpeaksForTheChair$House" "deeds" "I") (List.mem_of_getElem? (i := 1) rfl)) (fun _ h9 => h9) rfl dX0_weightOf_6 ?_
      refine lv_icmp_ge (tgt := 36) hx hb dX0_weightOf_9 (by decide) (fun c_6 => ?_) (fun c_6 => ?_)
      · have hf := ip c_6 hf
        cases hf
        exact KX ls (lv_sub hl [2] rfl)
      · have hf := im c_6 hf
        refine lv_iload_n hx hb dX0_weightOf_12 rfl (lv_at hl 1 rfl) ?_
        refine lv_iload_n hx hb dX0_weightOf_13 rfl (lv_at hl 3 rfl) ?_
        refine lv_ishr hx hb dX0_weightOf_14 ?_
        refine lv_iconst (v := 1) hx hb dX0_weightOf_15 (by decide) ?_
        refine lv_iand hx hb dX0_weightOf_16 ?_
        refine lv_iconst (v := 1) hx hb dX0_weightOf_17 (by decide) ?_
        refine lv_icmp_ne (tgt := 30) hx hb dX0_weightOf_18 (by decide) (fun c_7 => ?_) (fun c_7 => ?_)
        · have hf := im c_7 hf
          obtain ⟨x4, ex4⟩ : ∃ y : Int32, y = (x2 + 1) := ⟨_, rfl⟩
          have hf := pv_eq ex4 hf
          refine lv_iinc (v := x4) (lv' := [(3, .int x4), (0, .ref h), (1, .int a1), (2, .int x1)]) hx hb dX0_weightOf_30 hl (k := 3) rfl (by rw [ex4]; rfl) (by decide) rfl (fun ls hl => ?_)
          refine lv_goto (tgt := 4) hx hb dX0_weightOf_33 (by decide) ?_
          exact ih _ _ ls (lv_sub hl [1, 2, 3, 0] rfl) _ hf KX
        · have hf := ip c_7 hf
          refine lv_iload_n hx hb dX0_weightOf_21 rfl (lv_at hl 2 rfl) ?_
          refine lv_aload_n hx hb dX0_weightOf_22 rfl (lv_at hl 0 rfl) ?_
          refine va_get (D := D) (ci := 0) (v := .ref h_weights) (C := RX0) (T := TX0) (N := 12) hx hb hts uX0_weightOf_X0 hown hK hP 0 rfl rfl 8 (by decide) (hts (.fieldLink RX0 27 "SpeaksForTheChair$House" "weights" "[I") (List.mem_of_getElem? (i := 2) rfl)) (fun _ h9 => h9) rfl dX0_weightOf_23 ?_
          refine lv_iload_n hx hb dX0_weightOf_26 rfl (lv_at hl 3 rfl) ?_
          obtain ⟨g_8, hf⟩ := gu_in hf
          refine va_iald hx hb hK hP 1 0 rfl rfl g_8 dX0_weightOf_27 ?_
          refine lv_iadd hx hb dX0_weightOf_28 ?_
          refine lv_topi (fun x5 ex5 => ?_)
          have hf := pv_eq ex5 hf
          refine lv_istore_n (lv' := [(2, .int x5), (0, .ref h), (1, .int a1), (3, .int x2)]) hx hb dX0_weightOf_29 rfl hl (by decide) rfl (fun ls hl => ?_)
          obtain ⟨x6, ex6⟩ : ∃ y : Int32, y = (x2 + 1) := ⟨_, rfl⟩
          have hf := pv_eq ex6 hf
          refine lv_iinc (v := x6) (lv' := [(3, .int x6), (2, .int x5), (0, .ref h), (1, .int a1)]) hx hb dX0_weightOf_30 hl (k := 3) rfl (by rw [ex6]; rfl) (by decide) rfl (fun ls hl => ?_)
          refine lv_goto (tgt := 4) hx hb dX0_weightOf_33 (by decide) ?_
          exact ih _ _ ls (lv_sub hl [2, 3, 1, 0] rfl) _ hf KX
  obtain ⟨x3, hr4, hf⟩ := ob1_some hf
  refine loop4 300 _ _ ls (lv_sub hl [2, 3, 1, 0] rfl) _ hr4 (fun ls hl => ?_)
  refine lv_iload_n hx hb dX0_weightOf_36 rfl (lv_at hl 0 rfl) ?_
  cases hf
  exact W.iret (v := x3) hx hb hr (fun t ht hW => ⟨_, rfl, rfl, ht⟩) (fun _ h => by cases h) dX0_weightOf_37
set_option maxHeartbeats 4000000 in
set_option maxRecDepth 100000 in
theorem c_X6_copies (l : Launch) (D : va_G) (cI cC cL cB : ClassId) (sz : Nat) (a1 : Nat) (a3 : Nat) (a2 : Int32) (a4 : Int32) (a5 : Int32) (a3_n : Nat) (a3_c : Nat → Int32) (a1_n : Nat) (a1_c : Nat → Int32) (o0 : Nat → Int32) (hf : m_X6_copies a2 a4 a5 a3_n a3_c a1_n a1_c = some o0) : Met l yX6_copies wsX6_copies ({ frames := 0, cells := 0, slots := 0, locals := 0 }) (va_Pc [.ref a1, .int a2, .ref a3, .int a4, .int a5] (q_W D vwCl (tyL cI cC cL cB) [(a3, .inl (cI, a3_n, .inl a3_c)), (a1, .inl (cI, a1_n, .inl a1_c))] sz)) (va_Qv (fun _ : Unit => True) (q_E D vwCl (tyL cI cC cL cB) (va_A [(a3, .inl (cI, a3_n, .inl a3_c)), (a1, .inl (cI, a1_n, .inl a1_c))] sz) [(a3, .inl (cI, a3_n, .inl a3_c)), (a1, .inl (cI, a1_n, .inl o0))]) (va_A [(a3, .inl (cI, a3_n, .inl a3_c)), (a1, .inl (cI, a1_n, .inl a1_c))] sz)) 0 0 (va_A [(a3, .inl (cI, a3_n, .inl a3_c)), (a1, .inl (cI, a1_n, .inl a1_c))] sz) := by
  refine Met.ofW (cc := cX6_copies) (maxL := 6) (ret := none) (by decide) rfl ?_
  intro p e s m args below meth c s₁ B hml hv
  obtain ⟨rfl, hsz, hP, hK, hD0⟩ := hv
  have hx := B.exec
  have hb := B.bytes
  have hr := B.returns
  have hts := atoms_spec (ws := wsX6_copies) B.pre
  have hown : s.vm.findClass RX6 = some m.cls := findClass_of_methodNamed B.named
  have hlocks := B.notSynchronized
  subst hsz
  have hD := hD0.self (sz := s.heap.size)
  generalize hAe : va_A [(a3, .inl (cI, a3_n, .inl a3_c)), (a1, .inl (cI, a1_n, .inl a1_c))] s.heap.size = A at hD ⊢
  have hA : ∀ q : Nat, s.heap.size ≤ q → A q := fun q h => by rw [← hAe]; exact Or.inr h
  have hS : va_S A s.heap s.heap [] := va_S.rf
  have hP : va_P D vwCl [(a3, .inl (cI, a3_n, .inl a3_c)), (a1, .inl (cI, a1_n, .inl a1_c))] s.heap := hP
  have hl := lv_entry ([.ref a1, .int a2, .ref a3, .int a4, .int a5]) (n := 6) (Nat.le_of_ble_eq_true rfl)
  rw [lg_entry_eq]
  generalize (lg_sl ([.ref a1, .int a2, .ref a3, .int a4, .int a5]) ++ List.replicate (6 - (lg_sl ([.ref a1, .int a2, .ref a3, .int a4, .int a5])).length) Slot.unset).toArray = ls at hl ⊢
  have hl : lv_has ls 6 [(0, .ref a1), (1, .int a2), (2, .ref a3), (3, .int a4), (4, .int a5)] := hl
  unfold m_X6_copies at hf
  refine lv_iconst (v := 0) hx hb dX6_copies_0 (by decide) ?_
  refine lv_istore (lv' := [(5, .int 0), (0, .ref a1), (1, .int a2), (2, .ref a3), (3, .int a4), (4, .int a5)]) hx hb dX6_copies_1 hl (by decide) rfl (fun ls hl => ?_)
  have loop3 : ∀ (n : Nat) (c1 : Nat → Int32) (x2 : Int32), ∀ (H : Heap) (locs : List Loc), va_P D vwCl [(a3, .inl (cI, a3_n, .inl a3_c)), (a1, .inl (cI, a1_n, .inl c1))] H → va_D A [(a3, .inl (cI, a3_n, .inl a3_c)), (a1, .inl (cI, a1_n, .inl c1))] → va_S A s.heap H locs → ∀ (ls : Array Slot), lv_has ls 6 [(0, .ref a1), (1, .int a2), (2, .ref a3), (3, .int a4), (4, .int a5), (5, .int x2)] → ∀ (c3 : Nat → Int32), L_X6_copies_3 a5 a4 a3_n a2 a1_n a3_c n c1 x2 = some c3 → (∀ (H : Heap) (locs : List Loc), va_P D vwCl [(a3, .inl (cI, a3_n, .inl a3_c)), (a1, .inl (cI, a1_n, .inl c3))] H → va_D A [(a3, .inl (cI, a3_n, .inl a3_c)), (a1, .inl (cI, a1_n, .inl c3))] → va_S A s.heap H locs → ∀ (ls : Array Slot), lv_has ls 6 [] → W p l e (headSpec wsX6_copies ({ frames := 0, cells := 0, slots := 0, locals := 0 })).room s m ([.ref a1, .int a2, .ref a3, .int a4, .int a5] : List Value).toArray below meth c H locs 0 0 (MQ below (va_Qv (fun _ : Unit => True) (q_E D vwCl (tyL cI cC cL cB) A [(a3, .inl (cI, a3_n, .inl a3_c)), (a1, .inl (cI, a1_n, .inl o0))]) A) ([.ref a1, .int a2, .ref a3, .int a4, .int a5] : List Value).toArray s 0 0 A) (F0 m 28 ls [])) → W p l e (headSpec wsX6_copies ({ frames := 0, cells := 0, slots := 0, locals := 0 })).room s m ([.ref a1, .int a2, .ref a3, .int a4, .int a5] : List Value).toArray below meth c H locs 0 0 (MQ below (va_Qv (fun _ : Unit => True) (q_E D vwCl (tyL cI cC cL cB) A [(a3, .inl (cI, a3_n, .inl a3_c)), (a1, .inl (cI, a1_n, .inl o0))]) A) ([.ref a1, .int a2, .ref a3, .int a4, .int a5] : List Value).toArray s 0 0 A) (F0 m 3 ls []) := by
    intro n
    induction n with
    | zero =>
      intro c1 x2 H locs hP hD hS ls hl c3 hf KX
      rw [L_X6_copies_3] at hf
      cases hf
    | succ n ih =>
      intro c1 x2 H locs hP hD hS ls hl c3 hf KX
      rw [L_X6_copies_3] at hf
      refine lv_iload hx hb dX6_copies_3 (lv_at hl 5 rfl) ?_
      refine lv_iload hx hb dX6_copies_5 (lv_at hl 4 rfl) ?_
      refine lv_icmp_ge (tgt := 28) hx hb dX6_copies_7 (by decide) (fun c_7 => ?_) (fun c_7 => ?_)
      · have hf := ip c_7 hf
        cases hf
        exact KX _ _ hP hD hS ls (lv_sub hl [] rfl)
      · have hf := im c_7 hf
        refine lv_aload_n hx hb dX6_copies_10 rfl (lv_at hl 0 rfl) ?_
        refine lv_iload_n hx hb dX6_copies_11 rfl (lv_at hl 1 rfl) ?_
        refine lv_iload hx hb dX6_copies_12 (lv_at hl 5 rfl) ?_
        refine lv_iadd hx hb dX6_copies_14 ?_
        refine lv_aload_n hx hb dX6_copies_15 rfl (lv_at hl 2 rfl) ?_
        refine lv_iload_n hx hb dX6_copies_16 rfl (lv_at hl 3 rfl) ?_
        refine lv_iload hx hb dX6_copies_17 (lv_at hl 5 rfl) ?_
        refine lv_iadd hx hb dX6_copies_19 ?_
        obtain ⟨g_8, hf⟩ := gu_in hf
        refine va_iald hx hb hK hP 0 0 rfl rfl g_8 dX6_copies_20 ?_
        obtain ⟨g_9, hf⟩ := gu_in hf
        refine va_iast hx hb hK hP hD hS 1 0 rfl rfl g_9 dX6_copies_21 (fun H locs hP hD hS => ?_)
        obtain ⟨c4, ec4⟩ : ∃ y : Nat → Int32, y = (upd c1 ((a2 + x2) : Int32).toNatClampNeg (a3_c ((a4 + x2) : Int32).toNatClampNeg)) := ⟨_, rfl⟩
        have hf := pv_eq ec4 hf
        rw [← ec4] at hP hD
        have hP : va_P D vwCl [(a3, .inl (cI, a3_n, .inl a3_c)), (a1, .inl (cI, a1_n, .inl c4))] H := hP
        have hD : va_D A [(a3, .inl (cI, a3_n, .inl a3_c)), (a1, .inl (cI, a1_n, .inl c4))] := hD
        obtain ⟨x5, ex5⟩ : ∃ y : Int32, y = (x2 + 1) := ⟨_, rfl⟩
        have hf := pv_eq ex5 hf
        refine lv_iinc (v := x5) (lv' := [(5, .int x5), (0, .ref a1), (1, .int a2), (2, .ref a3), (3, .int a4), (4, .int a5)]) hx hb dX6_copies_22 hl (k := 5) rfl (by rw [ex5]; rfl) (by decide) rfl (fun ls hl => ?_)
        refine lv_goto (tgt := 3) hx hb dX6_copies_25 (by decide) ?_
        exact ih _ _ _ _ hP hD hS ls (lv_sub hl [1, 2, 3, 4, 5, 0] rfl) _ hf KX
  obtain ⟨c3, hr3, hf⟩ := ob1_some hf
  refine loop3 300 _ _ _ _ hP hD hS ls (lv_sub hl [1, 2, 3, 4, 5, 0] rfl) _ hr3 (fun H locs hP hD hS ls hl => ?_)
  cases hf
  exact W.vret hx hb hr (fun t ht hW => ⟨⟨(), rfl, trivial, by rw [ht]; exact hP, va_K.moved hW.alike hK, hD⟩, hS.F ht⟩) hS.2.2 dX6_copies_28
theorem uX6_asItIs_X6 : ∀ w ∈ wsX60, w ∈ wsX6_asItIs := fun w h => List.mem_cons_of_mem _ (List.mem_append_right _ h)
set_option maxHeartbeats 4000000 in
set_option maxRecDepth 100000 in
theorem c_X6_asItIs (l : Launch) (D : va_G) (cI cC cL cB : ClassId) (sz : Nat) (h : Nat) (h_piece : Nat) (h_deed : Nat) (h_st : Nat) (h_was : Nat) (h_kept : Nat) (h_seen : Nat) (h_text : Nat) (h_told : Nat) (h_readPiece : Nat) (h_readRoom : Nat) (h_readDeed : Nat) (h_now : Nat) (h_pieces : Int32) (h_deeds : Int32) (h_law : Int32) (h_acts : Int32) (h_keeps : Int32) (h_seens : Int32) (h_texted : Int32) (h_at : Int32) (h_readPieces : Int32) (h_readDeeds : Int32) (h_readCoins : Int32) (h_readLaw : Int32) (h_st_c : Nat → Int32) (h_now_c : Nat → Int32) (o0 : Nat → Int32) (hf : m_X6_asItIs h_st_c h_now_c = some o0) : Met l yX6_asItIs wsX6_asItIs ({ frames := 1, cells := 0, slots := 0, locals := 25 }) (va_Pc [.ref h] (q_W D vwCl (tyL cI cC cL cB) [(h, .inr (6, [.int h_pieces, .ref h_piece, .int h_deeds, .ref h_deed, .int h_law, .ref h_st, .int h_acts, .ref h_was, .int h_keeps, .ref h_kept, .int h_seens, .ref h_seen, .ref h_text, .int h_texted, .int h_at, .ref h_told, .int h_readPieces, .ref h_readPiece, .ref h_readRoom, .int h_readDeeds, .ref h_readDeed, .int h_readCoins, .int h_readLaw, .ref h_now])), (h_st, .inl (cI, 18, .inl h_st_c)), (h_now, .inl (cI, 18, .inl h_now_c))] sz)) (va_Qv (fun _ : Unit => True) (q_E D vwCl (tyL cI cC cL cB) (va_A [(h, .inr (6, [.int h_pieces, .ref h_piece, .int h_deeds, .ref h_deed, .int h_law, .ref h_st, .int h_acts, .ref h_was, .int h_keeps, .ref h_kept, .int h_seens, .ref h_seen, .ref h_text, .int h_texted, .int h_at, .ref h_told, .int h_readPieces, .ref h_readPiece, .ref h_readRoom, .int h_readDeeds, .ref h_readDeed, .int h_readCoins, .int h_readLaw, .ref h_now])), (h_st, .inl (cI, 18, .inl h_st_c)), (h_now, .inl (cI, 18, .inl h_now_c))] sz) [(h, .inr (6, [.int h_pieces, .ref h_piece, .int h_deeds, .ref h_deed, .int h_law, .ref h_st, .int h_acts, .ref h_was, .int h_keeps, .ref h_kept, .int h_seens, .ref h_seen, .ref h_text, .int h_texted, .int h_at, .ref h_told, .int h_readPieces, .ref h_readPiece, .ref h_readRoom, .int h_readDeeds, .ref h_readDeed, .int h_readCoins, .int h_readLaw, .ref h_now])), (h_st, .inl (cI, 18, .inl h_st_c)), (h_now, .inl (cI, 18, .inl o0))]) (va_A [(h, .inr (6, [.int h_pieces, .ref h_piece, .int h_deeds, .ref h_deed, .int h_law, .ref h_st, .int h_acts, .ref h_was, .int h_keeps, .ref h_kept, .int h_seens, .ref h_seen, .ref h_text, .int h_texted, .int h_at, .ref h_told, .int h_readPieces, .ref h_readPiece, .ref h_readRoom, .int h_readDeeds, .ref h_readDeed, .int h_readCoins, .int h_readLaw, .ref h_now])), (h_st, .inl (cI, 18, .inl h_st_c)), (h_now, .inl (cI, 18, .inl h_now_c))] sz)) 0 0 (va_A [(h, .inr (6, [.int h_pieces, .ref h_piece, .int h_deeds, .ref h_deed, .int h_law, .ref h_st, .int h_acts, .ref h_was, .int h_keeps, .ref h_kept, .int h_seens, .ref h_seen, .ref h_text, .int h_texted, .int h_at, .ref h_told, .int h_readPieces, .ref h_readPiece, .ref h_readRoom, .int h_readDeeds, .ref h_readDeed, .int h_readCoins, .int h_readLaw, .ref h_now])), (h_st, .inl (cI, 18, .inl h_st_c)), (h_now, .inl (cI, 18, .inl h_now_c))] sz) := by
  refine Met.ofW (cc := cX6_asItIs) (maxL := 1) (ret := none) (by decide) rfl ?_
  intro p e s m args below meth c s₁ B hml hv
  obtain ⟨rfl, hsz, hP, hK, hD0⟩ := hv
  have hx := B.exec
  have hb := B.bytes
  have hr := B.returns
  have hts := atoms_spec (ws := wsX6_asItIs) B.pre
  have hown : s.vm.findClass RX6 = some m.cls := findClass_of_methodNamed B.named
  have hlocks := B.notSynchronized
  subst hsz
  have hD := hD0.self (sz := s.heap.size)
  generalize hAe : va_A [(h, .inr (6, [.int h_pieces, .ref h_piece, .int h_deeds, .ref h_deed, .int h_law, .ref h_st, .int h_acts, .ref h_was, .int h_keeps, .ref h_kept, .int h_seens, .ref h_seen, .ref h_text, .int h_texted, .int h_at, .ref h_told, .int h_readPieces, .ref h_readPiece, .ref h_readRoom, .int h_readDeeds, .ref h_readDeed, .int h_readCoins, .int h_readLaw, .ref h_now])), (h_st, .inl (cI, 18, .inl h_st_c)), (h_now, .inl (cI, 18, .inl h_now_c))] s.heap.size = A at hD ⊢
  have hA : ∀ q : Nat, s.heap.size ≤ q → A q := fun q h => by rw [← hAe]; exact Or.inr h
  have hS : va_S A s.heap s.heap [] := va_S.rf
  have hP : va_P D vwCl [(h, .inr (6, [.int h_pieces, .ref h_piece, .int h_deeds, .ref h_deed, .int h_law, .ref h_st, .int h_acts, .ref h_was, .int h_keeps, .ref h_kept, .int h_seens, .ref h_seen, .ref h_text, .int h_texted, .int h_at, .ref h_told, .int h_readPieces, .ref h_readPiece, .ref h_readRoom, .int h_readDeeds, .ref h_readDeed, .int h_readCoins, .int h_readLaw, .ref h_now])), (h_st, .inl (cI, 18, .inl h_st_c)), (h_now, .inl (cI, 18, .inl h_now_c))] s.heap := hP
  have hl := lv_entry ([.ref h]) (n := 1) (Nat.le_of_ble_eq_true rfl)
  rw [lg_entry_eq]
  generalize (lg_sl ([.ref h]) ++ List.replicate (1 - (lg_sl ([.ref h])).length) Slot.unset).toArray = ls at hl ⊢
  have hl : lv_has ls 1 [(0, .ref h)] := hl
  unfold m_X6_asItIs at hf
  refine lv_aload_n hx hb dX6_asItIs_0 rfl (lv_at hl 0 rfl) ?_
  refine va_get (D := D) (ci := 6) (v := .ref h_now) (C := RX6) (T := TX6) (N := 24) hx hb hts uX6_asItIs_X6 hown hK hP 0 rfl rfl 23 (by decide) (hts (.fieldLink RX6 43 "SpeaksForTheChairModel" "now" "[I") (List.mem_of_getElem? (i := 1) rfl)) (fun _ h9 => h9) rfl dX6_asItIs_1 ?_
  refine lv_iconst (v := 0) hx hb dX6_asItIs_4 (by decide) ?_
  refine lv_aload_n hx hb dX6_asItIs_5 rfl (lv_at hl 0 rfl) ?_
  refine va_get (D := D) (ci := 6) (v := .ref h_st) (C := RX6) (T := TX6) (N := 24) hx hb hts uX6_asItIs_X6 hown hK hP 0 rfl rfl 5 (by decide) (hts (.fieldLink RX6 16 "SpeaksForTheChairModel" "st" "[I") (List.mem_of_getElem? (i := 2) rfl)) (fun _ h9 => h9) rfl dX6_asItIs_6 ?_
  refine lv_iconst (v := 0) hx hb dX6_asItIs_9 (by decide) ?_
  refine lv_bipush (v := 18) hx hb dX6_asItIs_10 (by decide) ?_
  obtain ⟨c1, hv_1, hf⟩ := ob1_some hf
  refine q_wSv (As := [.ref h_now, .int 0, .ref h_st, .int 0, .int 18]) (rest := []) (w1 := [(h_st, .inl (cI, 18, .inl h_st_c)), (h_now, .inl (cI, 18, .inl c1))]) (wr := [(h, .inr (6, [.int h_pieces, .ref h_piece, .int h_deeds, .ref h_deed, .int h_law, .ref h_st, .int h_acts, .ref h_was, .int h_keeps, .ref h_kept, .int h_seens, .ref h_seen, .ref h_text, .int h_texted, .int h_at, .ref h_told, .int h_readPieces, .ref h_readPiece, .ref h_readRoom, .int h_readDeeds, .ref h_readDeed, .int h_readCoins, .int h_readLaw, .ref h_now]))]) (w2 := [(h, .inr (6, [.int h_pieces, .ref h_piece, .int h_deeds, .ref h_deed, .int h_law, .ref h_st, .int h_acts, .ref h_was, .int h_keeps, .ref h_kept, .int h_seens, .ref h_seen, .ref h_text, .int h_texted, .int h_at, .ref h_told, .int h_readPieces, .ref h_readPiece, .ref h_readRoom, .int h_readDeeds, .ref h_readDeed, .int h_readCoins, .int h_readLaw, .ref h_now])), (h_st, .inl (cI, 18, .inl h_st_c)), (h_now, .inl (cI, 18, .inl c1))]) ⟨hx, hb, hml, hown, hts⟩ (c_X6_copies l D cI cC cL cB s.heap.size h_now h_st ((0 : Int32)) ((0 : Int32)) ((18 : Int32)) ((18 : Nat)) h_st_c ((18 : Nat)) h_now_c c1 hv_1) (va_cwS 5 hts gX6_asItIs_X6_copies rfl rfl rfl (by decide +kernel) ⟨Nat.le_of_ble_eq_true rfl, Nat.le_of_ble_eq_true rfl⟩) hK hP hD hS hA [1, 2] rfl (by decide) [0] rfl (by decide) (by decide) [0, 1, 2] rfl (by decide) rfl hl.1 rfl (Nat.le_of_ble_eq_true rfl) dX6_asItIs_12 ⟨Nat.zero_le _, Nat.zero_le _⟩ (fun H locs hP hD hS => ?_)
  have hP : va_P D vwCl [(h, .inr (6, [.int h_pieces, .ref h_piece, .int h_deeds, .ref h_deed, .int h_law, .ref h_st, .int h_acts, .ref h_was, .int h_keeps, .ref h_kept, .int h_seens, .ref h_seen, .ref h_text, .int h_texted, .int h_at, .ref h_told, .int h_readPieces, .ref h_readPiece, .ref h_readRoom, .int h_readDeeds, .ref h_readDeed, .int h_readCoins, .int h_readLaw, .ref h_now])), (h_st, .inl (cI, 18, .inl h_st_c)), (h_now, .inl (cI, 18, .inl c1))] H := hP
  have hD : va_D A [(h, .inr (6, [.int h_pieces, .ref h_piece, .int h_deeds, .ref h_deed, .int h_law, .ref h_st, .int h_acts, .ref h_was, .int h_keeps, .ref h_kept, .int h_seens, .ref h_seen, .ref h_text, .int h_texted, .int h_at, .ref h_told, .int h_readPieces, .ref h_readPiece, .ref h_readRoom, .int h_readDeeds, .ref h_readDeed, .int h_readCoins, .int h_readLaw, .ref h_now])), (h_st, .inl (cI, 18, .inl h_st_c)), (h_now, .inl (cI, 18, .inl c1))] := hD
  cases hf
  exact W.vret hx hb hr (fun t ht hW => ⟨⟨(), rfl, trivial, by rw [ht]; exact hP, va_K.moved hW.alike hK, hD⟩, hS.F ht⟩) hS.2.2 dX6_asItIs_15
