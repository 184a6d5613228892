/-! contracts: X2_push, J6_bitCount_0f7a4, X4_letSpeak, X5_speak, X5_canBeBought, X4_sell, X5_buy, X4_move, X5_carry, X2_pop, X4_unpack, X5_undo, X0_priceOf, X5_silence, X5_hush, X0_deedsAsHeavyAs, X5_hushAll, X5_isPerson, X0_deedsOf -/
theorem uX2_push_X2 : ∀ w ∈ wsX20, w ∈ wsX2_push := fun w h => List.mem_cons_of_mem _ (List.mem_append_right _ h)
set_option maxHeartbeats 4000000 in
set_option maxRecDepth 100000 in
theorem c_X2_push (l : Launch) (D : va_G) (cI cC cL cB : ClassId) (sz : Nat) (h : Nat) (h_ring : Nat) (a1 : Int64) (h_next : Int32) (h_depth : Int32) (h_ring_c : Nat → Int64) (o0 : Int32) (o1 : Int32) (o2 : Nat → Int64) (hf : m_X2_push a1 h_next h_depth h_ring_c = some (o0, o1, o2)) : Met l yX2_push wsX2_push ({ frames := 1, cells := 0, slots := 0, locals := 21 }) (va_Pc [.ref h, .long a1] (q_W D vwCl (tyL cI cC cL cB) [(h, .inr (2, [.ref h_ring, .int h_next, .int h_depth])), (h_ring, .inl (cL, 8, .inr (.inl h_ring_c)))] sz)) (va_Qv (fun _ : Unit => True) (q_E D vwCl (tyL cI cC cL cB) (va_A [(h, .inr (2, [.ref h_ring, .int h_next, .int h_depth])), (h_ring, .inl (cL, 8, .inr (.inl h_ring_c)))] sz) [(h, .inr (2, [.ref h_ring, .int o0, .int o1])), (h_ring, .inl (cL, 8, .inr (.inl o2)))]) (va_A [(h, .inr (2, [.ref h_ring, .int h_next, .int h_depth])), (h_ring, .inl (cL, 8, .inr (.inl h_ring_c)))] sz)) 0 0 (va_A [(h, .inr (2, [.ref h_ring, .int h_next, .int h_depth])), (h_ring, .inl (cL, 8, .inr (.inl h_ring_c)))] sz) := by
  refine Met.ofW (cc := cX2_push) (maxL := 3) (ret := none) (by decide) rfl ?_
  intro p e s m args below meth c s₁ B hml hv
  obtain ⟨rfl, hsz, hP, hK, hD0⟩ := hv
  have hx := B.exec
  have hb := B.bytes
  have hr := B.returns
  have hts := atoms_spec (ws := wsX2_push) B.pre
  have hown : s.vm.findClass RX2 = some m.cls := findClass_of_methodNamed B.named
  have hlocks := B.notSynchronized
  subst hsz
  have hD := hD0.self (sz := s.heap.size)
  generalize hAe : va_A [(h, .inr (2, [.ref h_ring, .int h_next, .int h_depth])), (h_ring, .inl (cL, 8, .inr (.inl h_ring_c)))] s.heap.size = A at hD ⊢
  have hA : ∀ q : Nat, s.heap.size ≤ q → A q := fun q h => by rw [← hAe]; exact Or.inr h
  have hS : va_S A s.heap s.heap [] := va_S.rf
  have hP : va_P D vwCl [(h, .inr (2, [.ref h_ring, .int h_next, .int h_depth])), (h_ring, .inl (cL, 8, .inr (.inl h_ring_c)))] s.heap := hP
  have hl := lv_entry ([.ref h, .long a1]) (n := 3) (Nat.le_of_ble_eq_true rfl)
  rw [lg_entry_eq]
  generalize (lg_sl ([.ref h, .long a1]) ++ List.replicate (3 - (lg_sl ([.ref h, .long a1])).length) Slot.unset).toArray = ls at hl ⊢
  have hl : lv_has ls 3 [(0, .ref h), (1, .long a1)] := hl
  unfold m_X2_push at hf
  refine lv_aload_n hx hb dX2_push_0 rfl (lv_at hl 0 rfl) ?_
  refine va_get (D := D) (ci := 2) (v := .ref h_ring) (C := RX2) (T := TX2) (N := 3) hx hb hts uX2_push_X2 hown hK hP 0 rfl rfl 0 (by decide) (hts (.fieldLink RX2 9 "SpeaksForTheChair$Past" "ring" "[J") (List.mem_of_getElem? (i := 1) rfl)) (fun _ h9 => h9) rfl dX2_push_1 ?_
  refine lv_aload_n hx hb dX2_push_4 rfl (lv_at hl 0 rfl) ?_
  refine va_get (D := D) (ci := 2) (v := .int h_next) (C := RX2) (T := TX2) (N := 3) hx hb hts uX2_push_X2 hown hK hP 0 rfl rfl 1 (by decide) (hts (.fieldLink RX2 15 "SpeaksForTheChair$Past" "next" "I") (List.mem_of_getElem? (i := 2) rfl)) (fun _ h9 => h9) rfl dX2_push_5 ?_
  refine lv_lload_n hx hb dX2_push_8 rfl (lv_at hl 1 rfl) ?_
  obtain ⟨g_1, hf⟩ := gu_in hf
  refine va_last hx hb hK hP hD hS 1 2 rfl rfl g_1 dX2_push_9 (fun H locs hP hD hS => ?_)
  obtain ⟨c1, ec1⟩ : ∃ y : Nat → Int64, y = (vp_updL h_ring_c h_next.toNatClampNeg a1) := ⟨_, rfl⟩
  have hf := pv_eq ec1 hf
  rw [← ec1] at hP hD
  have hP : va_P D vwCl [(h, .inr (2, [.ref h_ring, .int h_next, .int h_depth])), (h_ring, .inl (cL, 8, .inr (.inl c1)))] H := hP
  have hD : va_D A [(h, .inr (2, [.ref h_ring, .int h_next, .int h_depth])), (h_ring, .inl (cL, 8, .inr (.inl c1)))] := hD
  refine lv_aload_n hx hb dX2_push_10 rfl (lv_at hl 0 rfl) ?_
  refine lv_aload_n hx hb dX2_push_11 rfl (lv_at hl 0 rfl) ?_
  refine va_get (D := D) (ci := 2) (v := .int h_next) (C := RX2) (T := TX2) (N := 3) hx hb hts uX2_push_X2 hown hK hP 0 rfl rfl 1 (by decide) (hts (.fieldLink RX2 15 "SpeaksForTheChair$Past" "next" "I") (List.mem_of_getElem? (i := 2) rfl)) (fun _ h9 => h9) rfl dX2_push_12 ?_
  refine lv_iconst (v := 1) hx hb dX2_push_15 (by decide) ?_
  refine lv_iadd hx hb dX2_push_16 ?_
  refine lv_bipush (v := 8) hx hb dX2_push_17 (by decide) ?_
  obtain ⟨x2, hr32, hf⟩ := ob1_some hf
  refine q_jn (pcJ := 32) (nL := 3) (vs := [(0, .ref h)]) (st := [.int x2, .ref h]) (fun ls hl => ?_) (fun J32 => ?_)
  · clear hr32
    refine va_put (D := D) (ci := 2) (v := .int x2) (ty := .int) (C := RX2) (T := TX2) (N := 3) hx hb hts uX2_push_X2 tyX2 tyX2_ok nmX2 hown hK hP hD hS 0 rfl rfl 1 (by decide) (hts (.fieldLink RX2 15 "SpeaksForTheChair$Past" "next" "I") (List.mem_of_getElem? (i := 2) rfl)) (fun _ h9 => h9) rfl (by decide +kernel) rfl rfl (Nat.le_of_ble_eq_true rfl) dX2_push_32 (fun H locs hP hD hS => ?_)
    have hP : va_P D vwCl [(h, .inr (2, [.ref h_ring, .int x2, .int h_depth])), (h_ring, .inl (cL, 8, .inr (.inl c1)))] H := hP
    have hD : va_D A [(h, .inr (2, [.ref h_ring, .int x2, .int h_depth])), (h_ring, .inl (cL, 8, .inr (.inl c1)))] := hD
    refine lv_aload_n hx hb dX2_push_35 rfl (lv_at hl 0 rfl) ?_
    refine lv_aload_n hx hb dX2_push_36 rfl (lv_at hl 0 rfl) ?_
    refine va_get (D := D) (ci := 2) (v := .int h_depth) (C := RX2) (T := TX2) (N := 3) hx hb hts uX2_push_X2 hown hK hP 0 rfl rfl 2 (by decide) (hts (.fieldLink RX2 19 "SpeaksForTheChair$Past" "depth" "I") (List.mem_of_getElem? (i := 3) rfl)) (fun _ h9 => h9) rfl dX2_push_37 ?_
    refine lv_iconst (v := 1) hx hb dX2_push_40 (by decide) ?_
    refine lv_iadd hx hb dX2_push_41 ?_
    refine lv_bipush (v := 8) hx hb dX2_push_42 (by decide) ?_
    refine va_mmin hx hb (by rw [hml]; exact hl.1.symm) hown (hts (.methodLink RX2 22 Lib.Math.min.name) (List.mem_of_getElem? (i := 4) rfl)) (hts (.static Lib.Math.min.name) (List.mem_of_getElem? (i := 5) rfl)) (hts (.initialized "java/lang/Math") (List.mem_of_getElem? (i := 6) rfl)) (hts (.code Lib.Math.min.name Lib.Math.min.code 2 (some .int)) (List.mem_of_getElem? (i := 7) rfl)) (Nat.le_of_ble_eq_true rfl) (Nat.le_of_ble_eq_true rfl) (Nat.le_of_ble_eq_true rfl) (Nat.le_of_ble_eq_true rfl) dX2_push_44 ?_
    refine lv_topi (fun f3 ef3 => ?_)
    have hf := pv_eq ef3 hf
    refine va_put (D := D) (ci := 2) (v := .int f3) (ty := .int) (C := RX2) (T := TX2) (N := 3) hx hb hts uX2_push_X2 tyX2 tyX2_ok nmX2 hown hK hP hD hS 0 rfl rfl 2 (by decide) (hts (.fieldLink RX2 19 "SpeaksForTheChair$Past" "depth" "I") (List.mem_of_getElem? (i := 3) rfl)) (fun _ h9 => h9) rfl (by decide +kernel) rfl rfl (Nat.le_of_ble_eq_true rfl) dX2_push_47 (fun H locs hP hD hS => ?_)
    have hP : va_P D vwCl [(h, .inr (2, [.ref h_ring, .int x2, .int f3])), (h_ring, .inl (cL, 8, .inr (.inl c1)))] H := hP
    have hD : va_D A [(h, .inr (2, [.ref h_ring, .int x2, .int f3])), (h_ring, .inl (cL, 8, .inr (.inl c1)))] := hD
    cases hf
    exact W.vret hx hb hr (fun t ht hW => ⟨⟨(), rfl, trivial, by rw [ht]; exact hP, va_K.moved hW.alike hK, hD⟩, hS.F ht⟩) hS.2.2 dX2_push_50
  · replace hf := hr32
    refine lv_icmp_ge (tgt := 31) hx hb dX2_push_19 (by decide) (fun c_2 => ?_) (fun c_2 => ?_)
    · have hf := ip c_2 hf
      refine lv_iconst (v := 0) hx hb dX2_push_31 (by decide) ?_
      cases hf
      exact J32 ls (lv_sub hl [0] rfl)
    · have hf := im c_2 hf
      refine lv_aload_n hx hb dX2_push_22 rfl (lv_at hl 0 rfl) ?_
      refine va_get (D := D) (ci := 2) (v := .int h_next) (C := RX2) (T := TX2) (N := 3) hx hb hts uX2_push_X2 hown hK hP 0 rfl rfl 1 (by decide) (hts (.fieldLink RX2 15 "SpeaksForTheChair$Past" "next" "I") (List.mem_of_getElem? (i := 2) rfl)) (fun _ h9 => h9) rfl dX2_push_23 ?_
      refine lv_iconst (v := 1) hx hb dX2_push_26 (by decide) ?_
      refine lv_iadd hx hb dX2_push_27 ?_
      refine lv_goto (tgt := 32) hx hb dX2_push_28 (by decide) ?_
      cases hf
      exact J32 ls (lv_sub hl [0] rfl)
set_option maxHeartbeats 4000000 in
set_option maxRecDepth 100000 in
theorem c_J6_bitCount_0f7a4 (l : Launch) (D : va_G) (cI cC cL cB : ClassId) (a1 : Int32) (r : Int32) (hf : m_J6_bitCount_0f7a4 a1 = some r) : Met l yJ6_bitCount_0f7a4 wsJ6_bitCount_0f7a4 ({ frames := 0, cells := 0, slots := 0, locals := 0 }) (va_Pc [.int a1] (q_R D vwCl (tyL cI cC cL cB) [])) (vp_Si (fun r' => r' = r)) 0 0 (fun _ => False) := by
  refine Met.ofW (cc := cJ6_bitCount_0f7a4) (maxL := 1) (ret := (some .int)) (by decide) rfl ?_
  intro p e s m args below meth c s₁ B hml hv
  obtain ⟨rfl, hP, hK⟩ := hv
  have hx := B.exec
  have hb := B.bytes
  have hr := B.returns
  have hts := atoms_spec (ws := wsJ6_bitCount_0f7a4) B.pre
  have hown : s.vm.findClass RJ6 = some m.cls := findClass_of_methodNamed B.named
  have hlocks := B.notSynchronized
  have hl := lv_entry ([.int a1]) (n := 1) (Nat.le_of_ble_eq_true rfl)
  rw [lg_entry_eq]
  generalize (lg_sl ([.int a1]) ++ List.replicate (1 - (lg_sl ([.int a1])).length) Slot.unset).toArray = ls at hl ⊢
  have hl : lv_has ls 1 [(0, .int a1)] := hl
  unfold m_J6_bitCount_0f7a4 at hf
  refine lv_iload_n hx hb dJ6_bitCount_0f7a4_0 rfl (lv_at hl 0 rfl) ?_
  refine lv_iload_n hx hb dJ6_bitCount_0f7a4_1 rfl (lv_at hl 0 rfl) ?_
  refine lv_iconst (v := 1) hx hb dJ6_bitCount_0f7a4_2 (by decide) ?_
  refine lv_iushr hx hb dJ6_bitCount_0f7a4_3 rfl ?_
  refine lv_ldcw (v := 1431655765) hx hb hown (hts (.constant RJ6 265 (1431655765)) (List.mem_of_getElem? (i := 1) rfl)) dJ6_bitCount_0f7a4_4 ?_
  refine lv_iand hx hb dJ6_bitCount_0f7a4_7 ?_
  refine lv_isub hx hb dJ6_bitCount_0f7a4_8 ?_
  refine lv_topi (fun x1 ex1 => ?_)
  have hf := pv_eq ex1 hf
  refine lv_istore_n (lv' := [(0, .int x1)]) hx hb dJ6_bitCount_0f7a4_9 rfl hl (by decide) rfl (fun ls hl => ?_)
  refine lv_iload_n hx hb dJ6_bitCount_0f7a4_10 rfl (lv_at hl 0 rfl) ?_
  refine lv_ldcw (v := 858993459) hx hb hown (hts (.constant RJ6 266 (858993459)) (List.mem_of_getElem? (i := 2) rfl)) dJ6_bitCount_0f7a4_11 ?_
  refine lv_iand hx hb dJ6_bitCount_0f7a4_14 ?_
  refine lv_iload_n hx hb dJ6_bitCount_0f7a4_15 rfl (lv_at hl 0 rfl) ?_
  refine lv_iconst (v := 2) hx hb dJ6_bitCount_0f7a4_16 (by decide) ?_
  refine lv_iushr hx hb dJ6_bitCount_0f7a4_17 rfl ?_
  refine lv_ldcw (v := 858993459) hx hb hown (hts (.constant RJ6 266 (858993459)) (List.mem_of_getElem? (i := 2) rfl)) dJ6_bitCount_0f7a4_18 ?_
  refine lv_iand hx hb dJ6_bitCount_0f7a4_21 ?_
  refine lv_iadd hx hb dJ6_bitCount_0f7a4_22 ?_
  refine lv_topi (fun x2 ex2 => ?_)
  have hf := pv_eq ex2 hf
  refine lv_istore_n (lv' := [(0, .int x2)]) hx hb dJ6_bitCount_0f7a4_23 rfl hl (by decide) rfl (fun ls hl => ?_)
  refine lv_iload_n hx hb dJ6_bitCount_0f7a4_24 rfl (lv_at hl 0 rfl) ?_
  refine lv_iload_n hx hb dJ6_bitCount_0f7a4_25 rfl (lv_at hl 0 rfl) ?_
  refine lv_iconst (v := 4) hx hb dJ6_bitCount_0f7a4_26 (by decide) ?_
  refine lv_iushr hx hb dJ6_bitCount_0f7a4_27 rfl ?_
  refine lv_iadd hx hb dJ6_bitCount_0f7a4_28 ?_
  refine lv_ldcw (v := 252645135) hx hb hown (hts (.constant RJ6 267 (252645135)) (List.mem_of_getElem? (i := 3) rfl)) dJ6_bitCount_0f7a4_29 ?_
  refine lv_iand hx hb dJ6_bitCount_0f7a4_32 ?_
  refine lv_topi (fun x3 ex3 => ?_)
  have hf := pv_eq ex3 hf
  refine lv_istore_n (lv' := [(0, .int x3)]) hx hb dJ6_bitCount_0f7a4_33 rfl hl (by decide) rfl (fun ls hl => ?_)
  refine lv_iload_n hx hb dJ6_bitCount_0f7a4_34 rfl (lv_at hl 0 rfl) ?_
  refine lv_iload_n hx hb dJ6_bitCount_0f7a4_35 rfl (lv_at hl 0 rfl) ?_
  refine lv_bipush (v := 8) hx hb dJ6_bitCount_0f7a4_36 (by decide) ?_
  refine lv_iushr hx hb dJ6_bitCount_0f7a4_38 rfl ?_
  refine lv_iadd hx hb dJ6_bitCount_0f7a4_39 ?_
  refine lv_topi (fun x4 ex4 => ?_)
  have hf := pv_eq ex4 hf
  refine lv_istore_n (lv' := [(0, .int x4)]) hx hb dJ6_bitCount_0f7a4_40 rfl hl (by decide) rfl (fun ls hl => ?_)
  refine lv_iload_n hx hb dJ6_bitCount_0f7a4_41 rfl (lv_at hl 0 rfl) ?_
  refine lv_iload_n hx hb dJ6_bitCount_0f7a4_42 rfl (lv_at hl 0 rfl) ?_
  refine lv_bipush (v := 16) hx hb dJ6_bitCount_0f7a4_43 (by decide) ?_
  refine lv_iushr hx hb dJ6_bitCount_0f7a4_45 rfl ?_
  refine lv_iadd hx hb dJ6_bitCount_0f7a4_46 ?_
  refine lv_topi (fun x5 ex5 => ?_)
  have hf := pv_eq ex5 hf
  refine lv_istore_n (lv' := [(0, .int x5)]) hx hb dJ6_bitCount_0f7a4_47 rfl hl (by decide) rfl (fun ls hl => ?_)
  refine lv_iload_n hx hb dJ6_bitCount_0f7a4_48 rfl (lv_at hl 0 rfl) ?_
  refine lv_bipush (v := 63) hx hb dJ6_bitCount_0f7a4_49 (by decide) ?_
  refine lv_iand hx hb dJ6_bitCount_0f7a4_51 ?_
  cases hf
  exact W.iret hx hb hr (fun t ht hW => ⟨_, rfl, rfl, ht⟩) (fun _ h => by cases h) dJ6_bitCount_0f7a4_52
theorem uX4_letSpeak_X4 : ∀ w ∈ wsX40, w ∈ wsX4_letSpeak := fun w h => List.mem_cons_of_mem _ (List.mem_append_right _ h)
set_option maxHeartbeats 4000000 in
set_option maxRecDepth 100000 in
theorem c_X4_letSpeak (l : Launch) (D : va_G) (cI cC cL cB : ClassId) (sz : Nat) (h : Nat) (a1 : Int32) (a2 : Int32) (h_rooms : Int32) (h_bought : Int32) (h_spoken : Int32) (h_out : Int32) (h_coins : Int32) (r : Int32) (o0 : Int32) (o1 : Int32) (hf : m_X4_letSpeak a1 a2 h_spoken h_out = some (r, o0, o1)) : Met l yX4_letSpeak wsX4_letSpeak ({ frames := 1, cells := 0, slots := 0, locals := 20 }) (va_Pc [.ref h, .int a1, .int a2] (q_W D vwCl (tyL cI cC cL cB) [(h, .inr (4, [.int h_rooms, .int h_bought, .int h_spoken, .int h_out, .int h_coins]))] sz)) (va_Qi (fun r' _ => r' = r) (q_E D vwCl (tyL cI cC cL cB) (va_A [(h, .inr (4, [.int h_rooms, .int h_bought, .int h_spoken, .int h_out, .int h_coins]))] sz) [(h, .inr (4, [.int h_rooms, .int h_bought, .int o0, .int o1, .int h_coins]))]) (va_A [(h, .inr (4, [.int h_rooms, .int h_bought, .int h_spoken, .int h_out, .int h_coins]))] sz)) 0 0 (va_A [(h, .inr (4, [.int h_rooms, .int h_bought, .int h_spoken, .int h_out, .int h_coins]))] sz) := by
  refine Met.ofW (cc := cX4_letSpeak) (maxL := 4) (ret := (some .int)) (by decide) rfl ?_
  intro p e s m args below meth c s₁ B hml hv
  obtain ⟨rfl, hsz, hP, hK, hD0⟩ := hv
  have hx := B.exec
  have hb := B.bytes
  have hr := B.returns
  have hts := atoms_spec (ws := wsX4_letSpeak) B.pre
  have hown : s.vm.findClass RX4 = some m.cls := findClass_of_methodNamed B.named
  have hlocks := B.notSynchronized
  subst hsz
  have hD := hD0.self (sz := s.heap.size)
  generalize hAe : va_A [(h, .inr (4, [.int h_rooms, .int h_bought, .int h_spoken, .int h_out, .int h_coins]))] s.heap.size = A at hD ⊢
  have hA : ∀ q : Nat, s.heap.size ≤ q → A q := fun q h => by rw [← hAe]; exact Or.inr h
  have hS : va_S A s.heap s.heap [] := va_S.rf
  have hP : va_P D vwCl [(h, .inr (4, [.int h_rooms, .int h_bought, .int h_spoken, .int h_out, .int h_coins]))] s.heap := hP
  have hl := lv_entry ([.ref h, .int a1, .int a2]) (n := 4) (Nat.le_of_ble_eq_true rfl)
  rw [lg_entry_eq]
  generalize (lg_sl ([.ref h, .int a1, .int a2]) ++ List.replicate (4 - (lg_sl ([.ref h, .int a1, .int a2])).length) Slot.unset).toArray = ls at hl ⊢
  have hl : lv_has ls 4 [(0, .ref h), (1, .int a1), (2, .int a2)] := hl
  unfold m_X4_letSpeak at hf
  refine lv_iload_n hx hb dX4_letSpeak_0 rfl (lv_at hl 2 rfl) ?_
  refine lv_aload_n hx hb dX4_letSpeak_1 rfl (lv_at hl 0 rfl) ?_
  refine va_get (D := D) (ci := 4) (v := .int h_out) (C := RX4) (T := TX4) (N := 5) hx hb hts uX4_letSpeak_X4 hown hK hP 0 rfl rfl 3 (by decide) (hts (.fieldLink RX4 21 "SpeaksForTheChair$Standing" "out" "I") (List.mem_of_getElem? (i := 1) rfl)) (fun _ h9 => h9) rfl dX4_letSpeak_2 ?_
  refine lv_iconst (v := (-1)) hx hb dX4_letSpeak_5 (by decide) ?_
  refine lv_ixor hx hb dX4_letSpeak_6 ?_
  refine lv_iand hx hb dX4_letSpeak_7 ?_
  refine lv_topi (fun x1 ex1 => ?_)
  have hf := pv_eq ex1 hf
  refine lv_istore_n (lv' := [(3, .int x1), (0, .ref h), (1, .int a1), (2, .int a2)]) hx hb dX4_letSpeak_8 rfl hl (by decide) rfl (fun ls hl => ?_)
  refine lv_aload_n hx hb dX4_letSpeak_9 rfl (lv_at hl 1 rfl) ?_
  refine lv_dup hx hb dX4_letSpeak_10 rfl ?_
  refine va_get (D := D) (ci := 4) (v := .int h_out) (C := RX4) (T := TX4) (N := 5) hx hb hts uX4_letSpeak_X4 hown hK hP 0 rfl rfl 3 (by decide) (hts (.fieldLink RX4 21 "SpeaksForTheChair$Standing" "out" "I") (List.mem_of_getElem? (i := 1) rfl)) (fun _ h9 => h9) rfl dX4_letSpeak_11 ?_
  refine lv_iload_n hx hb dX4_letSpeak_14 rfl (lv_at hl 3 rfl) ?_
  refine lv_ior hx hb dX4_letSpeak_15 ?_
  refine lv_topi (fun f2 ef2 => ?_)
  have hf := pv_eq ef2 hf
  refine va_put (D := D) (ci := 4) (v := .int f2) (ty := .int) (C := RX4) (T := TX4) (N := 5) hx hb hts uX4_letSpeak_X4 tyX4 tyX4_ok nmX4 hown hK hP hD hS 0 rfl rfl 3 (by decide) (hts (.fieldLink RX4 21 "SpeaksForTheChair$Standing" "out" "I") (List.mem_of_getElem? (i := 1) rfl)) (fun _ h9 => h9) rfl (by decide +kernel) rfl rfl (Nat.le_of_ble_eq_true rfl) dX4_letSpeak_16 (fun H locs hP hD hS => ?_)
  have hP : va_P D vwCl [(h, .inr (4, [.int h_rooms, .int h_bought, .int h_spoken, .int f2, .int h_coins]))] H := hP
  have hD : va_D A [(h, .inr (4, [.int h_rooms, .int h_bought, .int h_spoken, .int f2, .int h_coins]))] := hD
  refine lv_aload_n hx hb dX4_letSpeak_19 rfl (lv_at hl 1 rfl) ?_
  refine lv_dup hx hb dX4_letSpeak_20 rfl ?_
  refine va_get (D := D) (ci := 4) (v := .int h_spoken) (C := RX4) (T := TX4) (N := 5) hx hb hts uX4_letSpeak_X4 hown hK hP 0 rfl rfl 2 (by decide) (hts (.fieldLink RX4 18 "SpeaksForTheChair$Standing" "spoken" "I") (List.mem_of_getElem? (i := 2) rfl)) (fun _ h9 => h9) rfl dX4_letSpeak_21 ?_
  refine lv_iconst (v := 1) hx hb dX4_letSpeak_24 (by decide) ?_
  refine lv_iload_n hx hb dX4_letSpeak_25 rfl (lv_at hl 2 rfl) ?_
  refine lv_ishl hx hb dX4_letSpeak_26 ?_
  refine lv_ior hx hb dX4_letSpeak_27 ?_
  refine lv_topi (fun f3 ef3 => ?_)
  have hf := pv_eq ef3 hf
  refine va_put (D := D) (ci := 4) (v := .int f3) (ty := .int) (C := RX4) (T := TX4) (N := 5) hx hb hts uX4_letSpeak_X4 tyX4 tyX4_ok nmX4 hown hK hP hD hS 0 rfl rfl 2 (by decide) (hts (.fieldLink RX4 18 "SpeaksForTheChair$Standing" "spoken" "I") (List.mem_of_getElem? (i := 2) rfl)) (fun _ h9 => h9) rfl (by decide +kernel) rfl rfl (Nat.le_of_ble_eq_true rfl) dX4_letSpeak_28 (fun H locs hP hD hS => ?_)
  have hP : va_P D vwCl [(h, .inr (4, [.int h_rooms, .int h_bought, .int f3, .int f2, .int h_coins]))] H := hP
  have hD : va_D A [(h, .inr (4, [.int h_rooms, .int h_bought, .int f3, .int f2, .int h_coins]))] := hD
  refine lv_iload_n hx hb dX4_letSpeak_31 rfl (lv_at hl 0 rfl) ?_
  obtain ⟨x4, hv_1, hf⟩ := ob1_some hf
  refine q_rSi (As := [.int x1]) (rest := []) (r := x4) ⟨hx, hb, hml, hown, hts⟩ (c_J6_bitCount_0f7a4 l D cI cC cL cB x1 x4 hv_1) (va_cwS 1 hts gX4_letSpeak_J6_bitCount_0f7a4 rfl rfl rfl (by decide +kernel) ⟨Nat.le_of_ble_eq_true rfl, Nat.le_of_ble_eq_true rfl⟩) hK hP [] rfl rfl hl.1 rfl (Nat.le_of_ble_eq_true rfl) dX4_letSpeak_32 ⟨Nat.le_of_ble_eq_true rfl, Nat.le_of_ble_eq_true rfl⟩ ?_
  cases hf
  exact W.iret hx hb hr (fun t ht hW => ⟨⟨_, (), rfl, rfl, by rw [ht]; exact hP, va_K.moved hW.alike hK, hD⟩, hS.F ht⟩) hS.2.2 dX4_letSpeak_35
theorem uX5_speak_X5 : ∀ w ∈ wsX50, w ∈ wsX5_speak := fun w h => List.mem_cons_of_mem _ (List.mem_append_left _ (List.mem_append_left _ (List.mem_append_left _ (List.mem_append_right _ h))))
set_option maxHeartbeats 4000000 in
set_option maxRecDepth 100000 in
theorem c_X5_speak (l : Launch) (D : va_G) (cI cC cL cB : ClassId) (sz : Nat) (h : Nat) (h_page : Nat) (h_laid : Nat) (h_draft : Nat) (h_now : Nat) (h_trial : Nat) (h_past : Nat) (h_sightings : Nat) (h_kept : Nat) (h_told : Nat) (h_laid_kinds : Nat) (h_laid_prices : Nat) (h_laid_persons : Nat) (h_laid_places : Nat) (h_laid_hours : Nat) (h_laid_weights : Nat) (h_laid_numbers : Nat) (h_past_ring : Nat) (a1 : Int32) (h_keptCount : Int32) (h_laid_pieces : Int32) (h_laid_roomsAtFirst : Int32) (h_laid_deeds : Int32) (h_laid_coins : Int32) (h_laid_law : Int32) (h_now_rooms : Int32) (h_now_bought : Int32) (h_now_spoken : Int32) (h_now_out : Int32) (h_now_coins : Int32) (h_laid_kinds_c : Nat → Int32) (h_past_next : Int32) (h_past_depth : Int32) (h_past_ring_c : Nat → Int64) (h_laid_places_c : Nat → Int32) (h_laid_hours_c : Nat → Int32) (h_laid_weights_c : Nat → Int32) (r : Int32) (o0 : Int32) (o1 : Int32) (o2 : Int32) (o3 : Int32) (o4 : Nat → Int64) (hf : m_X5_speak a1 h_laid_pieces h_laid_deeds h_laid_law h_now_rooms h_now_bought h_now_spoken h_now_out h_now_coins h_laid_kinds_c h_past_next h_past_depth h_past_ring_c h_laid_places_c h_laid_hours_c h_laid_weights_c = some (r, o0, o1, o2, o3, o4)) : Met l yX5_speak wsX5_speak ({ frames := 3, cells := 0, slots := 0, locals := 75 }) (va_Pc [.ref h, .int a1] (q_W D vwCl (tyL cI cC cL cB) [(h, .inr (5, [.ref h_page, .ref h_laid, .ref h_draft, .ref h_now, .ref h_trial, .ref h_past, .ref h_sightings, .ref h_kept, .int h_keptCount, .ref h_told])), (h_laid, .inr (0, [.int h_laid_pieces, .ref h_laid_kinds, .ref h_laid_prices, .int h_laid_roomsAtFirst, .int h_laid_deeds, .ref h_laid_persons, .ref h_laid_places, .ref h_laid_hours, .ref h_laid_weights, .int h_laid_coins, .int h_laid_law, .ref h_laid_numbers])), (h_now, .inr (4, [.int h_now_rooms, .int h_now_bought, .int h_now_spoken, .int h_now_out, .int h_now_coins])), (h_laid_kinds, .inl (cI, 8, .inl h_laid_kinds_c)), (h_past, .inr (2, [.ref h_past_ring, .int h_past_next, .int h_past_depth])), (h_past_ring, .inl (cL, 8, .inr (.inl h_past_ring_c))), (h_laid_places, .inl (cI, 9, .inl h_laid_places_c)), (h_laid_hours, .inl (cI, 9, .inl h_laid_hours_c)), (h_laid_weights, .inl (cI, 9, .inl h_laid_weights_c))] sz)) (va_Qi (fun r' _ => r' = r) (q_E D vwCl (tyL cI cC cL cB) (va_A [(h, .inr (5, [.ref h_page, .ref h_laid, .ref h_draft, .ref h_now, .ref h_trial, .ref h_past, .ref h_sightings, .ref h_kept, .int h_keptCount, .ref h_told])), (h_laid, .inr (0, [.int h_laid_pieces, .ref h_laid_kinds, .ref h_laid_prices, .int h_laid_roomsAtFirst, .int h_laid_deeds, .ref h_laid_persons, .ref h_laid_places, .ref h_laid_hours, .ref h_laid_weights, .int h_laid_coins, .int h_laid_law, .ref h_laid_numbers])), (h_now, .inr (4, [.int h_now_rooms, .int h_now_bought, .int h_now_spoken, .int h_now_out, .int h_now_coins])), (h_laid_kinds, .inl (cI, 8, .inl h_laid_kinds_c)), (h_past, .inr (2, [.ref h_past_ring, .int h_past_next, .int h_past_depth])), (h_past_ring, .inl (cL, 8, .inr (.inl h_past_ring_c))), (h_laid_places, .inl (cI, 9, .inl h_laid_places_c)), (h_laid_hours, .inl (cI, 9, .inl h_laid_hours_c)), (h_laid_weights, .inl (cI, 9, .inl h_laid_weights_c))] sz) [(h, .inr (5, [.ref h_page, .ref h_laid, .ref h_draft, .ref h_now, .ref h_trial, .ref h_past, .ref h_sightings, .ref h_kept, .int h_keptCount, .ref h_told])), (h_laid, .inr (0, [.int h_laid_pieces, .ref h_laid_kinds, .ref h_laid_prices, .int h_laid_roomsAtFirst, .int h_laid_deeds, .ref h_laid_persons, .ref h_laid_places, .ref h_laid_hours, .ref h_laid_weights, .int h_laid_coins, .int h_laid_law, .ref h_laid_numbers])), (h_now, .inr (4, [.int h_now_rooms, .int h_now_bought, .int o0, .int o1, .int h_now_coins])), (h_laid_kinds, .inl (cI, 8, .inl h_laid_kinds_c)), (h_past, .inr (2, [.ref h_past_ring, .int o2, .int o3])), (h_past_ring, .inl (cL, 8, .inr (.inl o4))), (h_laid_places, .inl (cI, 9, .inl h_laid_places_c)), (h_laid_hours, .inl (cI, 9, .inl h_laid_hours_c)), (h_laid_weights, .inl (cI, 9, .inl h_laid_weights_c))]) (va_A [(h, .inr (5, [.ref h_page, .ref h_laid, .ref h_draft, .ref h_now, .ref h_trial, .ref h_past, .ref h_sightings, .ref h_kept, .int h_keptCount, .ref h_told])), (h_laid, .inr (0, [.int h_laid_pieces, .ref h_laid_kinds, .ref h_laid_prices, .int h_laid_roomsAtFirst, .int h_laid_deeds, .ref h_laid_persons, .ref h_laid_places, .ref h_laid_hours, .ref h_laid_weights, .int h_laid_coins, .int h_laid_law, .ref h_laid_numbers])), (h_now, .inr (4, [.int h_now_rooms, .int h_now_bought, .int h_now_spoken, .int h_now_out, .int h_now_coins])), (h_laid_kinds, .inl (cI, 8, .inl h_laid_kinds_c)), (h_past, .inr (2, [.ref h_past_ring, .int h_past_next, .int h_past_depth])), (h_past_ring, .inl (cL, 8, .inr (.inl h_past_ring_c))), (h_laid_places, .inl (cI, 9, .inl h_laid_places_c)), (h_laid_hours, .inl (cI, 9, .inl h_laid_hours_c)), (h_laid_weights, .inl (cI, 9, .inl h_laid_weights_c))] sz)) 0 0 (va_A [(h, .inr (5, [.ref h_page, .ref h_laid, .ref h_draft, .ref h_now, .ref h_trial, .ref h_past, .ref h_sightings, .ref h_kept, .int h_keptCount, .ref h_told])), (h_laid, .inr (0, [.int h_laid_pieces, .ref h_laid_kinds, .ref h_laid_prices, .int h_laid_roomsAtFirst, .int h_laid_deeds, .ref h_laid_persons, .ref h_laid_places, .ref h_laid_hours, .ref h_laid_weights, .int h_laid_coins, .int h_laid_law, .ref h_laid_numbers])), (h_now, .inr (4, [.int h_now_rooms, .int h_now_bought, .int h_now_spoken, .int h_now_out, .int h_now_coins])), (h_laid_kinds, .inl (cI, 8, .inl h_laid_kinds_c)), (h_past, .inr (2, [.ref h_past_ring, .int h_past_next, .int h_past_depth])), (h_past_ring, .inl (cL, 8, .inr (.inl h_past_ring_c))), (h_laid_places, .inl (cI, 9, .inl h_laid_places_c)), (h_laid_hours, .inl (cI, 9, .inl h_laid_hours_c)), (h_laid_weights, .inl (cI, 9, .inl h_laid_weights_c))] sz) := by
  refine Met.ofW (cc := cX5_speak) (maxL := 2) (ret := (some .int)) (by decide) rfl ?_
  intro p e s m args below meth c s₁ B hml hv
  obtain ⟨rfl, hsz, hP, hK, hD0⟩ := hv
  have hx := B.exec
  have hb := B.bytes
  have hr := B.returns
  have hts := atoms_spec (ws := wsX5_speak) B.pre
  have hown : s.vm.findClass RX5 = some m.cls := findClass_of_methodNamed B.named
  have hlocks := B.notSynchronized
  subst hsz
  have hD := hD0.self (sz := s.heap.size)
  generalize hAe : va_A [(h, .inr (5, [.ref h_page, .ref h_laid, .ref h_draft, .ref h_now, .ref h_trial, .ref h_past, .ref h_sightings, .ref h_kept, .int h_keptCount, .ref h_told])), (h_laid, .inr (0, [.int h_laid_pieces, .ref h_laid_kinds, .ref h_laid_prices, .int h_laid_roomsAtFirst, .int h_laid_deeds, .ref h_laid_persons, .ref h_laid_places, .ref h_laid_hours, .ref h_laid_weights, .int h_laid_coins, .int h_laid_law, .ref h_laid_numbers])), (h_now, .inr (4, [.int h_now_rooms, .int h_now_bought, .int h_now_spoken, .int h_now_out, .int h_now_coins])), (h_laid_kinds, .inl (cI, 8, .inl h_laid_kinds_c)), (h_past, .inr (2, [.ref h_past_ring, .int h_past_next, .int h_past_depth])), (h_past_ring, .inl (cL, 8, .inr (.inl h_past_ring_c))), (h_laid_places, .inl (cI, 9, .inl h_laid_places_c)), (h_laid_hours, .inl (cI, 9, .inl h_laid_hours_c)), (h_laid_weights, .inl (cI, 9, .inl h_laid_weights_c))] s.heap.size = A at hD ⊢
  have hA : ∀ q : Nat, s.heap.size ≤ q → A q := fun q h => by rw [← hAe]; exact Or.inr h
  have hS : va_S A s.heap s.heap [] := va_S.rf
  have hP : va_P D vwCl [(h, .inr (5, [.ref h_page, .ref h_laid, .ref h_draft, .ref h_now, .ref h_trial, .ref h_past, .ref h_sightings, .ref h_kept, .int h_keptCount, .ref h_told])), (h_laid, .inr (0, [.int h_laid_pieces, .ref h_laid_kinds, .ref h_laid_prices, .int h_laid_roomsAtFirst, .int h_laid_deeds, .ref h_laid_persons, .ref h_laid_places, .ref h_laid_hours, .ref h_laid_weights, .int h_laid_coins, .int h_laid_law, .ref h_laid_numbers])), (h_now, .inr (4, [.int h_now_rooms, .int h_now_bought, .int h_now_spoken, .int h_now_out, .int h_now_coins])), (h_laid_kinds, .inl (cI, 8, .inl h_laid_kinds_c)), (h_past, .inr (2, [.ref h_past_ring, .int h_past_next, .int h_past_depth])), (h_past_ring, .inl (cL, 8, .inr (.inl h_past_ring_c))), (h_laid_places, .inl (cI, 9, .inl h_laid_places_c)), (h_laid_hours, .inl (cI, 9, .inl h_laid_hours_c)), (h_laid_weights, .inl (cI, 9, .inl h_laid_weights_c))] s.heap := hP
  have hl := lv_entry ([.ref h, .int a1]) (n := 2) (Nat.le_of_ble_eq_true rfl)
  rw [lg_entry_eq]
  generalize (lg_sl ([.ref h, .int a1]) ++ List.replicate (2 - (lg_sl ([.ref h, .int a1])).length) Slot.unset).toArray = ls at hl ⊢
  have hl : lv_has ls 2 [(0, .ref h), (1, .int a1)] := hl
  unfold m_X5_speak at hf
  refine lv_aload_n hx hb dX5_speak_0 rfl (lv_at hl 0 rfl) ?_
  refine lv_iload_n hx hb dX5_speak_1 rfl (lv_at hl 1 rfl) ?_
  obtain ⟨x1, hv_1, hf⟩ := ob1_some hf
  refine q_rVi (As := [.int a1]) (rest := []) (r := x1) ⟨hx, hb, hml, hown, hts⟩ (c_X5_isPiece l D cI cC cL cB h h_page h_laid h_draft h_now h_trial h_past h_sightings h_kept h_told h_laid_kinds h_laid_prices h_laid_persons h_laid_places h_laid_hours h_laid_weights h_laid_numbers a1 h_keptCount h_laid_pieces h_laid_roomsAtFirst h_laid_deeds h_laid_coins h_laid_law x1 hv_1) (cwV 1 hts gX5_speak_X5_isPiece rfl rfl rfl (by decide +kernel) ⟨Nat.le_of_ble_eq_true rfl, Nat.le_of_ble_eq_true rfl⟩) hK hP [0, 1] rfl (va_recv hK hP (ci := 5) (q0 := 0) rfl rfl) rfl hl.1 rfl (Nat.le_of_ble_eq_true rfl) dX5_speak_2 ⟨Nat.le_of_ble_eq_true rfl, Nat.le_of_ble_eq_true rfl⟩ ?_
  refine lv_if_ne (tgt := 10) hx hb dX5_speak_5 (by decide) (fun c_2 => ?_) (fun c_2 => ?_)
  · have hf := im c_2 hf
    refine lv_aload_n hx hb dX5_speak_10 rfl (lv_at hl 0 rfl) ?_
    refine lv_aload_n hx hb dX5_speak_11 rfl (lv_at hl 0 rfl) ?_
    refine va_get (D := D) (ci := 5) (v := .ref h_now) (C := RX5) (T := TX5) (N := 10) hx hb hts uX5_speak_X5 hown hK hP 0 rfl rfl 3 (by decide) (hts (.fieldLink RX5 29 "SpeaksForTheChair" "now" "LSpeaksForTheChair$Standing;") (List.mem_of_getElem? (i := 1) rfl)) (fun _ h9 => h9) rfl dX5_speak_12 ?_
    refine lv_iload_n hx hb dX5_speak_15 rfl (lv_at hl 1 rfl) ?_
    obtain ⟨x2, hv_3, hf⟩ := ob1_some hf
    refine q_rVi (As := [.ref h_now, .int a1]) (rest := []) (r := x2) ⟨hx, hb, hml, hown, hts⟩ (c_X5_isLoose l D cI cC cL cB h h_now h_page h_laid h_draft h_now h_trial h_past h_sightings h_kept h_told h_laid_kinds h_laid_prices h_laid_persons h_laid_places h_laid_hours h_laid_weights h_laid_numbers a1 h_now_rooms h_now_bought h_now_spoken h_now_out h_now_coins h_keptCount h_laid_pieces h_laid_roomsAtFirst h_laid_deeds h_laid_coins h_laid_law h_laid_kinds_c x2 hv_3) (cwV 2 hts gX5_speak_X5_isLoose rfl rfl rfl (by decide +kernel) ⟨Nat.le_of_ble_eq_true rfl, Nat.le_of_ble_eq_true rfl⟩) hK hP [2, 0, 1, 3] rfl (va_recv hK hP (ci := 5) (q0 := 0) rfl rfl) rfl hl.1 rfl (Nat.le_of_ble_eq_true rfl) dX5_speak_16 ⟨Nat.le_of_ble_eq_true rfl, Nat.le_of_ble_eq_true rfl⟩ ?_
    refine lv_if_ne (tgt := 25) hx hb dX5_speak_19 (by decide) (fun c_4 => ?_) (fun c_4 => ?_)
    · have hf := im c_4 hf
      refine lv_aload_n hx hb dX5_speak_25 rfl (lv_at hl 0 rfl) ?_
      refine va_get (D := D) (ci := 5) (v := .ref h_past) (C := RX5) (T := TX5) (N := 10) hx hb hts uX5_speak_X5 hown hK hP 0 rfl rfl 5 (by decide) (hts (.fieldLink RX5 39 "SpeaksForTheChair" "past" "LSpeaksForTheChair$Past;") (List.mem_of_getElem? (i := 2) rfl)) (fun _ h9 => h9) rfl dX5_speak_26 ?_
      refine lv_aload_n hx hb dX5_speak_29 rfl (lv_at hl 0 rfl) ?_
      refine va_get (D := D) (ci := 5) (v := .ref h_now) (C := RX5) (T := TX5) (N := 10) hx hb hts uX5_speak_X5 hown hK hP 0 rfl rfl 3 (by decide) (hts (.fieldLink RX5 29 "SpeaksForTheChair" "now" "LSpeaksForTheChair$Standing;") (List.mem_of_getElem? (i := 1) rfl)) (fun _ h9 => h9) rfl dX5_speak_30 ?_
      obtain ⟨x3, hv_5, hf⟩ := ob1_some hf
      refine q_rVl (As := []) (rest := [.ref h_past]) (r := x3) ⟨hx, hb, hml, hown, hts⟩ (c_X4_packed l D cI cC cL cB h_now h_now_rooms h_now_bought h_now_spoken h_now_out h_now_coins x3 hv_5) (cwV 0 hts gX5_speak_X4_packed rfl rfl rfl (by decide +kernel) ⟨Nat.le_of_ble_eq_true rfl, Nat.le_of_ble_eq_true rfl⟩) hK hP [2] rfl (va_recv hK hP (ci := 4) (q0 := 2) rfl rfl) rfl hl.1 rfl (Nat.le_of_ble_eq_true rfl) dX5_speak_33 ⟨Nat.le_of_ble_eq_true rfl, Nat.le_of_ble_eq_true rfl⟩ ?_
      obtain ⟨f4, f5, c6, hv_6, hf⟩ := ob3_some hf
      refine q_wVv (As := [.long x3]) (rest := []) (w1 := [(h_past, .inr (2, [.ref h_past_ring, .int f4, .int f5])), (h_past_ring, .inl (cL, 8, .inr (.inl c6)))]) (wr := [(h, .inr (5, [.ref h_page, .ref h_laid, .ref h_draft, .ref h_now, .ref h_trial, .ref h_past, .ref h_sightings, .ref h_kept, .int h_keptCount, .ref h_told])), (h_laid, .inr (0, [.int h_laid_pieces, .ref h_laid_kinds, .ref h_laid_prices, .int h_laid_roomsAtFirst, .int h_laid_deeds, .ref h_laid_persons, .ref h_laid_places, .ref h_laid_hours, .ref h_laid_weights, .int h_laid_coins, .int h_laid_law, .ref h_laid_numbers])), (h_now, .inr (4, [.int h_now_rooms, .int h_now_bought, .int h_now_spoken, .int h_now_out, .int h_now_coins])), (h_laid_kinds, .inl (cI, 8, .inl h_laid_kinds_c)), (h_laid_places, .inl (cI, 9, .inl h_laid_places_c)), (h_laid_hours, .inl (cI, 9, .inl h_laid_hours_c)), (h_laid_weights, .inl (cI, 9, .inl h_laid_weights_c))]) (w2 := [(h, .inr (5, [.ref h_page, .ref h_laid, .ref h_draft, .ref h_now, .ref h_trial, .ref h_past, .ref h_sightings, .ref h_kept, .int h_keptCount, .ref h_told])), (h_laid, .inr (0, [.int h_laid_pieces, .ref h_laid_kinds, .ref h_laid_prices, .int h_laid_roomsAtFirst, .int h_laid_deeds, .ref h_laid_persons, .ref h_laid_places, .ref h_laid_hours, .ref h_laid_weights, .int h_laid_coins, .int h_laid_law, .ref h_laid_numbers])), (h_now, .inr (4, [.int h_now_rooms, .int h_now_bought, .int h_now_spoken, .int h_now_out, .int h_now_coins])), (h_laid_kinds, .inl (cI, 8, .inl h_laid_kinds_c)), (h_past, .inr (2, [.ref h_past_ring, .int f4, .int f5])), (h_past_ring, .inl (cL, 8, .inr (.inl c6))), (h_laid_places, .inl (cI, 9, .inl h_laid_places_c)), (h_laid_hours, .inl (cI, 9, .inl h_laid_hours_c)), (h_laid_weights, .inl (cI, 9, .inl h_laid_weights_c))]) ⟨hx, hb, hml, hown, hts⟩ (c_X2_push l D cI cC cL cB s.heap.size h_past h_past_ring x3 h_past_next h_past_depth h_past_ring_c f4 f5 c6 hv_6) (cwV 1 hts gX5_speak_X2_push rfl rfl rfl (by decide +kernel) ⟨Nat.le_of_ble_eq_true rfl, Nat.le_of_ble_eq_true rfl⟩) hK hP hD hS hA [4, 5] rfl (by decide) [0, 1, 2, 3, 6, 7, 8] rfl (by decide) (by decide) [0, 1, 2, 3, 7, 8, 4, 5, 6] rfl (by decide) (va_recv hK hP (ci := 2) (q0 := 4) rfl rfl) rfl hl.1 rfl (Nat.le_of_ble_eq_true rfl) dX5_speak_36 ⟨Nat.le_of_ble_eq_true rfl, Nat.le_of_ble_eq_true rfl⟩ (fun H locs hP hD hS => ?_)
      have hP : va_P D vwCl [(h, .inr (5, [.ref h_page, .ref h_laid, .ref h_draft, .ref h_now, .ref h_trial, .ref h_past, .ref h_sightings, .ref h_kept, .int h_keptCount, .ref h_told])), (h_laid, .inr (0, [.int h_laid_pieces, .ref h_laid_kinds, .ref h_laid_prices, .int h_laid_roomsAtFirst, .int h_laid_deeds, .ref h_laid_persons, .ref h_laid_places, .ref h_laid_hours, .ref h_laid_weights, .int h_laid_coins, .int h_laid_law, .ref h_laid_numbers])), (h_now, .inr (4, [.int h_now_rooms, .int h_now_bought, .int h_now_spoken, .int h_now_out, .int h_now_coins])), (h_laid_kinds, .inl (cI, 8, .inl h_laid_kinds_c)), (h_past, .inr (2, [.ref h_past_ring, .int f4, .int f5])), (h_past_ring, .inl (cL, 8, .inr (.inl c6))), (h_laid_places, .inl (cI, 9, .inl h_laid_places_c)), (h_laid_hours, .inl (cI, 9, .inl h_laid_hours_c)), (h_laid_weights, .inl (cI, 9, .inl h_laid_weights_c))] H := hP
      have hD : va_D A [(h, .inr (5, [.ref h_page, .ref h_laid, .ref h_draft, .ref h_now, .ref h_trial, .ref h_past, .ref h_sightings, .ref h_kept, .int h_keptCount, .ref h_told])), (h_laid, .inr (0, [.int h_laid_pieces, .ref h_laid_kinds, .ref h_laid_prices, .int h_laid_roomsAtFirst, .int h_laid_deeds, .ref h_laid_persons, .ref h_laid_places, .ref h_laid_hours, .ref h_laid_weights, .int h_laid_coins, .int h_laid_law, .ref h_laid_numbers])), (h_now, .inr (4, [.int h_now_rooms, .int h_now_bought, .int h_now_spoken, .int h_now_out, .int h_now_coins])), (h_laid_kinds, .inl (cI, 8, .inl h_laid_kinds_c)), (h_past, .inr (2, [.ref h_past_ring, .int f4, .int f5])), (h_past_ring, .inl (cL, 8, .inr (.inl c6))), (h_laid_places, .inl (cI, 9, .inl h_laid_places_c)), (h_laid_hours, .inl (cI, 9, .inl h_laid_hours_c)), (h_laid_weights, .inl (cI, 9, .inl h_laid_weights_c))] := hD
      refine lv_aload_n hx hb dX5_speak_39 rfl (lv_at hl 0 rfl) ?_
      refine va_get (D := D) (ci := 5) (v := .ref h_now) (C := RX5) (T := TX5) (N := 10) hx hb hts uX5_speak_X5 hown hK hP 0 rfl rfl 3 (by decide) (hts (.fieldLink RX5 29 "SpeaksForTheChair" "now" "LSpeaksForTheChair$Standing;") (List.mem_of_getElem? (i := 1) rfl)) (fun _ h9 => h9) rfl dX5_speak_40 ?_
      refine lv_iload_n hx hb dX5_speak_43 rfl (lv_at hl 1 rfl) ?_
      refine lv_aload_n hx hb dX5_speak_44 rfl (lv_at hl 0 rfl) ?_
      refine va_get (D := D) (ci := 5) (v := .ref h_laid) (C := RX5) (T := TX5) (N := 10) hx hb hts uX5_speak_X5 hown hK hP 0 rfl rfl 1 (by decide) (hts (.fieldLink RX5 19 "SpeaksForTheChair" "laid" "LSpeaksForTheChair$House;") (List.mem_of_getElem? (i := 3) rfl)) (fun _ h9 => h9) rfl dX5_speak_45 ?_
      refine lv_iload_n hx hb dX5_speak_48 rfl (lv_at hl 1 rfl) ?_
      refine lv_aload_n hx hb dX5_speak_49 rfl (lv_at hl 0 rfl) ?_
      refine va_get (D := D) (ci := 5) (v := .ref h_now) (C := RX5) (T := TX5) (N := 10) hx hb hts uX5_speak_X5 hown hK hP 0 rfl rfl 3 (by decide) (hts (.fieldLink RX5 29 "SpeaksForTheChair" "now" "LSpeaksForTheChair$Standing;") (List.mem_of_getElem? (i := 1) rfl)) (fun _ h9 => h9) rfl dX5_speak_50 ?_
      refine lv_iload_n hx hb dX5_speak_53 rfl (lv_at hl 1 rfl) ?_
      obtain ⟨x7, hv_7, hf⟩ := ob1_some hf
      refine q_rVi (As := [.int a1]) (rest := [.int a1, .ref h_laid, .int a1, .ref h_now]) (r := x7) ⟨hx, hb, hml, hown, hts⟩ (c_X4_roomOf l D cI cC cL cB h_now a1 h_now_rooms h_now_bought h_now_spoken h_now_out h_now_coins x7 hv_7) (cwV 1 hts gX5_speak_X4_roomOf rfl rfl rfl (by decide +kernel) ⟨Nat.le_of_ble_eq_true rfl, Nat.le_of_ble_eq_true rfl⟩) hK hP [2] rfl (va_recv hK hP (ci := 4) (q0 := 2) rfl rfl) rfl hl.1 rfl (Nat.le_of_ble_eq_true rfl) dX5_speak_54 ⟨Nat.le_of_ble_eq_true rfl, Nat.le_of_ble_eq_true rfl⟩ ?_
      obtain ⟨x8, hv_8, hf⟩ := ob1_some hf
      refine q_rVi (As := [.int a1, .int x7]) (rest := [.int a1, .ref h_now]) (r := x8) ⟨hx, hb, hml, hown, hts⟩ (c_X0_toldBy l D cI cC cL cB h_laid h_laid_kinds h_laid_prices h_laid_persons h_laid_places h_laid_hours h_laid_weights h_laid_numbers a1 x7 h_laid_pieces h_laid_roomsAtFirst h_laid_deeds h_laid_coins h_laid_law h_laid_places_c h_laid_kinds_c h_laid_hours_c h_laid_weights_c x8 hv_8) (cwV 2 hts gX5_speak_X0_toldBy rfl rfl rfl (by decide +kernel) ⟨Nat.le_of_ble_eq_true rfl, Nat.le_of_ble_eq_true rfl⟩) hK hP [1, 6, 3, 7, 8] rfl (va_recv hK hP (ci := 0) (q0 := 1) rfl rfl) rfl hl.1 rfl (Nat.le_of_ble_eq_true rfl) dX5_speak_57 ⟨Nat.le_of_ble_eq_true rfl, Nat.le_of_ble_eq_true rfl⟩ ?_
      obtain ⟨x9, f10, f11, hv_9, hf⟩ := ob3_some hf
      refine q_wVi (As := [.int a1, .int x8]) (rest := []) (r := x9) (w1 := [(h_now, .inr (4, [.int h_now_rooms, .int h_now_bought, .int f10, .int f11, .int h_now_coins]))]) (wr := [(h, .inr (5, [.ref h_page, .ref h_laid, .ref h_draft, .ref h_now, .ref h_trial, .ref h_past, .ref h_sightings, .ref h_kept, .int h_keptCount, .ref h_told])), (h_laid, .inr (0, [.int h_laid_pieces, .ref h_laid_kinds, .ref h_laid_prices, .int h_laid_roomsAtFirst, .int h_laid_deeds, .ref h_laid_persons, .ref h_laid_places, .ref h_laid_hours, .ref h_laid_weights, .int h_laid_coins, .int h_laid_law, .ref h_laid_numbers])), (h_laid_kinds, .inl (cI, 8, .inl h_laid_kinds_c)), (h_past, .inr (2, [.ref h_past_ring, .int f4, .int f5])), (h_past_ring, .inl (cL, 8, .inr (.inl c6))), (h_laid_places, .inl (cI, 9, .inl h_laid_places_c)), (h_laid_hours, .inl (cI, 9, .inl h_laid_hours_c)), (h_laid_weights, .inl (cI, 9, .inl h_laid_weights_c))]) (w2 := [(h, .inr (5, [.ref h_page, .ref h_laid, .ref h_draft, .ref h_now, .ref h_trial, .ref h_past, .ref h_sightings, .ref h_kept, .int h_keptCount, .ref h_told])), (h_laid, .inr (0, [.int h_laid_pieces, .ref h_laid_kinds, .ref h_laid_prices, .int h_laid_roomsAtFirst, .int h_laid_deeds, .ref h_laid_persons, .ref h_laid_places, .ref h_laid_hours, .ref h_laid_weights, .int h_laid_coins, .int h_laid_law, .ref h_laid_numbers])), (h_now, .inr (4, [.int h_now_rooms, .int h_now_bought, .int f10, .int f11, .int h_now_coins])), (h_laid_kinds, .inl (cI, 8, .inl h_laid_kinds_c)), (h_past, .inr (2, [.ref h_past_ring, .int f4, .int f5])), (h_past_ring, .inl (cL, 8, .inr (.inl c6))), (h_laid_places, .inl (cI, 9, .inl h_laid_places_c)), (h_laid_hours, .inl (cI, 9, .inl h_laid_hours_c)), (h_laid_weights, .inl (cI, 9, .inl h_laid_weights_c))]) ⟨hx, hb, hml, hown, hts⟩ (c_X4_letSpeak l D cI cC cL cB H.size h_now a1 x8 h_now_rooms h_now_bought h_now_spoken h_now_out h_now_coins x9 f10 f11 hv_9) (cwV 2 hts gX5_speak_X4_letSpeak rfl rfl rfl (by decide +kernel) ⟨Nat.le_of_ble_eq_true rfl, Nat.le_of_ble_eq_true rfl⟩) hK hP hD hS hA [2] rfl (by decide) [0, 1, 3, 4, 5, 6, 7, 8] rfl (by decide) (by decide) [0, 1, 8, 2, 3, 4, 5, 6, 7] rfl (by decide) (va_recv hK hP (ci := 4) (q0 := 2) rfl rfl) rfl hl.1 rfl (Nat.le_of_ble_eq_true rfl) dX5_speak_60 ⟨Nat.le_of_ble_eq_true rfl, Nat.le_of_ble_eq_true rfl⟩ (fun H locs hP hD hS => ?_)
      have hP : va_P D vwCl [(h, .inr (5, [.ref h_page, .ref h_laid, .ref h_draft, .ref h_now, .ref h_trial, .ref h_past, .ref h_sightings, .ref h_kept, .int h_keptCount, .ref h_told])), (h_laid, .inr (0, [.int h_laid_pieces, .ref h_laid_kinds, .ref h_laid_prices, .int h_laid_roomsAtFirst, .int h_laid_deeds, .ref h_laid_persons, .ref h_laid_places, .ref h_laid_hours, .ref h_laid_weights, .int h_laid_coins, .int h_laid_law, .ref h_laid_numbers])), (h_now, .inr (4, [.int h_now_rooms, .int h_now_bought, .int f10, .int f11, .int h_now_coins])), (h_laid_kinds, .inl (cI, 8, .inl h_laid_kinds_c)), (h_past, .inr (2, [.ref h_past_ring, .int f4, .int f5])), (h_past_ring, .inl (cL, 8, .inr (.inl c6))), (h_laid_places, .inl (cI, 9, .inl h_laid_places_c)), (h_laid_hours, .inl (cI, 9, .inl h_laid_hours_c)), (h_laid_weights, .inl (cI, 9, .inl h_laid_weights_c))] H := hP
      have hD : va_D A [(h, .inr (5, [.ref h_page, .ref h_laid, .ref h_draft, .ref h_now, .ref h_trial, .ref h_past, .ref h_sightings, .ref h_kept, .int h_keptCount, .ref h_told])), (h_laid, .inr (0, [.int h_laid_pieces, .ref h_laid_kinds, .ref h_laid_prices, .int h_laid_roomsAtFirst, .int h_laid_deeds, .ref h_laid_persons, .ref h_laid_places, .ref h_laid_hours, .ref h_laid_weights, .int h_laid_coins, .int h_laid_law, .ref h_laid_numbers])), (h_now, .inr (4, [.int h_now_rooms, .int h_now_bought, .int f10, .int f11, .int h_now_coins])), (h_laid_kinds, .inl (cI, 8, .inl h_laid_kinds_c)), (h_past, .inr (2, [.ref h_past_ring, .int f4, .int f5])), (h_past_ring, .inl (cL, 8, .inr (.inl c6))), (h_laid_places, .inl (cI, 9, .inl h_laid_places_c)), (h_laid_hours, .inl (cI, 9, .inl h_laid_hours_c)), (h_laid_weights, .inl (cI, 9, .inl h_laid_weights_c))] := hD
      cases hf
      exact W.iret hx hb hr (fun t ht hW => ⟨⟨_, (), rfl, rfl, by rw [ht]; exact hP, va_K.moved hW.alike hK, hD⟩, hS.F ht⟩) hS.2.2 dX5_speak_63
    · have hf := ip c_4 hf
      refine lv_bipush (v := (-2)) hx hb dX5_speak_22 (by decide) ?_
      cases hf
      exact W.iret hx hb hr (fun t ht hW => ⟨⟨_, (), rfl, rfl, by rw [ht]; exact hP, va_K.moved hW.alike hK, hD⟩, hS.F ht⟩) hS.2.2 dX5_speak_24
  · have hf := ip c_2 hf
    refine lv_iconst (v := (-1)) hx hb dX5_speak_8 (by decide) ?_
    cases hf
    exact W.iret hx hb hr (fun t ht hW => ⟨⟨_, (), rfl, rfl, by rw [ht]; exact hP, va_K.moved hW.alike hK, hD⟩, hS.F ht⟩) hS.2.2 dX5_speak_9
theorem uX5_canBeBought_X0 : ∀ w ∈ wsX00, w ∈ wsX5_canBeBought := fun w h => List.mem_cons_of_mem _ (List.mem_append_left _ (List.mem_append_right _ h))
theorem uX5_canBeBought_X4 : ∀ w ∈ wsX40, w ∈ wsX5_canBeBought := fun w h => List.mem_cons_of_mem _ (List.mem_append_right _ h)
theorem uX5_canBeBought_X5 : ∀ w ∈ wsX50, w ∈ wsX5_canBeBought := fun w h => List.mem_cons_of_mem _ (List.mem_append_left _ (List.mem_append_left _ (List.mem_append_right _ h)))
set_option maxHeartbeats 4000000 in
set_option maxRecDepth 100000 in
theorem c_X5_canBeBought (l : Launch) (D : va_G) (cI cC cL cB : ClassId) (h : Nat) (a1 : Nat) (h_page : Nat) (h_laid : Nat) (h_draft : Nat) (h_now : Nat) (h_trial : Nat) (h_past : Nat) (h_sightings : Nat) (h_kept : Nat) (h_told : Nat) (h_laid_kinds : Nat) (h_laid_prices : Nat) (h_laid_persons : Nat) (h_laid_places : Nat) (h_laid_hours : Nat) (h_laid_weights : Nat) (h_laid_numbers : Nat) (a2 : Int32) (a1_rooms : Int32) (a1_bought : Int32) (a1_spoken : Int32) (a1_out : Int32) (a1_coins : Int32) (h_keptCount : Int32) (h_laid_pieces : Int32) (h_laid_roomsAtFirst : Int32) (h_laid_deeds : Int32) (h_laid_coins : Int32) (h_laid_law : Int32) (h_laid_prices_c : Nat → Int32) (r : Int32) (hf : m_X5_canBeBought a2 a1_bought a1_spoken a1_coins h_laid_prices_c = some r) : Met l yX5_canBeBought wsX5_canBeBought ({ frames := 1, cells := 0, slots := 0, locals := 21 }) (va_Pc [.ref h, .ref a1, .int a2] (q_R D vwCl (tyL cI cC cL cB) [(a1, .inr (4, [.int a1_rooms, .int a1_bought, .int a1_spoken, .int a1_out, .int a1_coins])), (h, .inr (5, [.ref h_page, .ref h_laid, .ref h_draft, .ref h_now, .ref h_trial, .ref h_past, .ref h_sightings, .ref h_kept, .int h_keptCount, .ref h_told])), (h_laid, .inr (0, [.int h_laid_pieces, .ref h_laid_kinds, .ref h_laid_prices, .int h_laid_roomsAtFirst, .int h_laid_deeds, .ref h_laid_persons, .ref h_laid_places, .ref h_laid_hours, .ref h_laid_weights, .int h_laid_coins, .int h_laid_law, .ref h_laid_numbers])), (h_laid_prices, .inl (cI, 8, .inl h_laid_prices_c))])) (vp_Si (fun r' => r' = r)) 0 0 (fun _ => False) := by
  refine Met.ofW (cc := cX5_canBeBought) (maxL := 3) (ret := (some .boolean)) (by decide) rfl ?_
  intro p e s m args below meth c s₁ B hml hv
  obtain ⟨rfl, hP, hK⟩ := hv
  have hx := B.exec
  have hb := B.bytes
  have hr := B.returns
  have hts := atoms_spec (ws := wsX5_canBeBought) B.pre
  have hown : s.vm.findClass RX5 = some m.cls := findClass_of_methodNamed B.named
  have hlocks := B.notSynchronized
  have hl := lv_entry ([.ref h, .ref a1, .int a2]) (n := 3) (Nat.le_of_ble_eq_true rfl)
  rw [lg_entry_eq]
  generalize (lg_sl ([.ref h, .ref a1, .int a2]) ++ List.replicate (3 - (lg_sl ([.ref h, .ref a1, .int a2])).length) Slot.unset).toArray = ls at hl ⊢
  have hl : lv_has ls 3 [(0, .ref h), (1, .ref a1), (2, .int a2)] := hl
  unfold m_X5_canBeBought at hf
  refine lv_aload_n hx hb dX5_canBeBought_0 rfl (lv_at hl 1 rfl) ?_
  refine lv_iload_n hx hb dX5_canBeBought_1 rfl (lv_at hl 2 rfl) ?_
  obtain ⟨x1, hv_1, hf⟩ := ob1_some hf
  refine q_rVi (As := [.int a2]) (rest := []) (r := x1) ⟨hx, hb, hml, hown, hts⟩ (c_X4_howIs l D cI cC cL cB a1 a2 a1_rooms a1_bought a1_spoken a1_out a1_coins x1 hv_1) (cwV 1 hts gX5_canBeBought_X4_howIs rfl rfl rfl (by decide +kernel) ⟨Nat.le_of_ble_eq_true rfl, Nat.le_of_ble_eq_true rfl⟩) hK hP [0] rfl (va_recv hK hP (ci := 4) (q0 := 0) rfl rfl) rfl hl.1 rfl (Nat.le_of_ble_eq_true rfl) dX5_canBeBought_2 ⟨Nat.le_of_ble_eq_true rfl, Nat.le_of_ble_eq_true rfl⟩ ?_
  refine lv_if_ne (tgt := 28) hx hb dX5_canBeBought_5 (by decide) (fun c_2 => ?_) (fun c_2 => ?_)
  · have hf := im c_2 hf
    refine lv_iconst (v := 0) hx hb dX5_canBeBought_28 (by decide) ?_
    cases hf
    exact W.zret hx hb hr rfl (fun t ht hW => ⟨_, rfl, rfl, ht⟩) (fun _ h => by cases h) dX5_canBeBought_29
  · have hf := ip c_2 hf
    refine lv_aload_n hx hb dX5_canBeBought_8 rfl (lv_at hl 0 rfl) ?_
    refine va_get (D := D) (ci := 5) (v := .ref h_laid) (C := RX5) (T := TX5) (N := 10) hx hb hts uX5_canBeBought_X5 hown hK hP 1 rfl rfl 1 (by decide) (hts (.fieldLink RX5 19 "SpeaksForTheChair" "laid" "LSpeaksForTheChair$House;") (List.mem_of_getElem? (i := 1) rfl)) (fun _ h9 => h9) rfl dX5_canBeBought_9 ?_
    refine va_get (D := D) (ci := 0) (v := .ref h_laid_prices) (C := RX0) (T := TX0) (N := 12) hx hb hts uX5_canBeBought_X0 hown hK hP 2 rfl rfl 2 (by decide) (hts (.fieldLink RX5 120 "SpeaksForTheChair$House" "prices" "[I") (List.mem_of_getElem? (i := 2) rfl)) (fun _ h9 => h9) rfl dX5_canBeBought_12 ?_
    refine lv_iload_n hx hb dX5_canBeBought_15 rfl (lv_at hl 2 rfl) ?_
    obtain ⟨g_3, hf⟩ := gu_in hf
    refine va_iald hx hb hK hP 3 0 rfl rfl g_3 dX5_canBeBought_16 ?_
    refine lv_aload_n hx hb dX5_canBeBought_17 rfl (lv_at hl 1 rfl) ?_
    refine va_get (D := D) (ci := 4) (v := .int a1_coins) (C := RX4) (T := TX4) (N := 5) hx hb hts uX5_canBeBought_X4 hown hK hP 0 rfl rfl 4 (by decide) (hts (.fieldLink RX5 172 "SpeaksForTheChair$Standing" "coins" "I") (List.mem_of_getElem? (i := 3) rfl)) (fun _ h9 => h9) rfl dX5_canBeBought_18 ?_
    refine lv_icmp_gt (tgt := 28) hx hb dX5_canBeBought_21 (by decide) (fun c_4 => ?_) (fun c_4 => ?_)
    · have hf := ip c_4 hf
      refine lv_iconst (v := 0) hx hb dX5_canBeBought_28 (by decide) ?_
      cases hf
      exact W.zret hx hb hr rfl (fun t ht hW => ⟨_, rfl, rfl, ht⟩) (fun _ h => by cases h) dX5_canBeBought_29
    · have hf := im c_4 hf
      refine lv_iconst (v := 1) hx hb dX5_canBeBought_24 (by decide) ?_
      refine lv_goto (tgt := 29) hx hb dX5_canBeBought_25 (by decide) ?_
      cases hf
      exact W.zret hx hb hr rfl (fun t ht hW => ⟨_, rfl, rfl, ht⟩) (fun _ h => by cases h) dX5_canBeBought_29
theorem uX4_sell_X4 : ∀ w ∈ wsX40, w ∈ wsX4_sell := fun w h => List.mem_cons_of_mem _ (List.mem_append_right _ h)
set_option maxHeartbeats 4000000 in
set_option maxRecDepth 100000 in
theorem c_X4_sell (l : Launch) (D : va_G) (cI cC cL cB : ClassId) (sz : Nat) (h : Nat) (a1 : Int32) (a2 : Int32) (h_rooms : Int32) (h_bought : Int32) (h_spoken : Int32) (h_out : Int32) (h_coins : Int32) (o0 : Int32) (o1 : Int32) (hf : m_X4_sell a1 a2 h_bought h_coins = some (o0, o1)) : Met l yX4_sell wsX4_sell ({ frames := 0, cells := 0, slots := 0, locals := 0 }) (va_Pc [.ref h, .int a1, .int a2] (q_W D vwCl (tyL cI cC cL cB) [(h, .inr (4, [.int h_rooms, .int h_bought, .int h_spoken, .int h_out, .int h_coins]))] sz)) (va_Qv (fun _ : Unit => True) (q_E D vwCl (tyL cI cC cL cB) (va_A [(h, .inr (4, [.int h_rooms, .int h_bought, .int h_spoken, .int h_out, .int h_coins]))] sz) [(h, .inr (4, [.int h_rooms, .int o0, .int h_spoken, .int h_out, .int o1]))]) (va_A [(h, .inr (4, [.int h_rooms, .int h_bought, .int h_spoken, .int h_out, .int h_coins]))] sz)) 0 0 (va_A [(h, .inr (4, [.int h_rooms, .int h_bought, .int h_spoken, .int h_out, .int h_coins]))] sz) := by
  refine Met.ofW (cc := cX4_sell) (maxL := 3) (ret := none) (by decide) rfl ?_
  intro p e s m args below meth c s₁ B hml hv
  obtain ⟨rfl, hsz, hP, hK, hD0⟩ := hv
  have hx := B.exec
  have hb := B.bytes
  have hr := B.returns
  have hts := atoms_spec (ws := wsX4_sell) B.pre
  have hown : s.vm.findClass RX4 = some m.cls := findClass_of_methodNamed B.named
  have hlocks := B.notSynchronized
  subst hsz
  have hD := hD0.self (sz := s.heap.size)
  generalize hAe : va_A [(h, .inr (4, [.int h_rooms, .int h_bought, .int h_spoken, .int h_out, .int h_coins]))] s.heap.size = A at hD ⊢
  have hA : ∀ q : Nat, s.heap.size ≤ q → A q := fun q h => by rw [← hAe]; exact Or.inr h
  have hS : va_S A s.heap s.heap [] := va_S.rf
  have hP : va_P D vwCl [(h, .inr (4, [.int h_rooms, .int h_bought, .int h_spoken, .int h_out, .int h_coins]))] s.heap := hP
  have hl := lv_entry ([.ref h, .int a1, .int a2]) (n := 3) (Nat.le_of_ble_eq_true rfl)
  rw [lg_entry_eq]
  generalize (lg_sl ([.ref h, .int a1, .int a2]) ++ List.replicate (3 - (lg_sl ([.ref h, .int a1, .int a2])).length) Slot.unset).toArray = ls at hl ⊢
  have hl : lv_has ls 3 [(0, .ref h), (1, .int a1), (2, .int a2)] := hl
  unfold m_X4_sell at hf
  refine lv_aload_n hx hb dX4_sell_0 rfl (lv_at hl 0 rfl) ?_
  refine lv_dup hx hb dX4_sell_1 rfl ?_
  refine va_get (D := D) (ci := 4) (v := .int h_bought) (C := RX4) (T := TX4) (N := 5) hx hb hts uX4_sell_X4 hown hK hP 0 rfl rfl 1 (by decide) (hts (.fieldLink RX4 15 "SpeaksForTheChair$Standing" "bought" "I") (List.mem_of_getElem? (i := 1) rfl)) (fun _ h9 => h9) rfl dX4_sell_2 ?_
  refine lv_iconst (v := 1) hx hb dX4_sell_5 (by decide) ?_
  refine lv_iload_n hx hb dX4_sell_6 rfl (lv_at hl 1 rfl) ?_
  refine lv_ishl hx hb dX4_sell_7 ?_
  refine lv_ior hx hb dX4_sell_8 ?_
  refine lv_topi (fun f1 ef1 => ?_)
  have hf := pv_eq ef1 hf
  refine va_put (D := D) (ci := 4) (v := .int f1) (ty := .int) (C := RX4) (T := TX4) (N := 5) hx hb hts uX4_sell_X4 tyX4 tyX4_ok nmX4 hown hK hP hD hS 0 rfl rfl 1 (by decide) (hts (.fieldLink RX4 15 "SpeaksForTheChair$Standing" "bought" "I") (List.mem_of_getElem? (i := 1) rfl)) (fun _ h9 => h9) rfl (by decide +kernel) rfl rfl (Nat.le_of_ble_eq_true rfl) dX4_sell_9 (fun H locs hP hD hS => ?_)
  have hP : va_P D vwCl [(h, .inr (4, [.int h_rooms, .int f1, .int h_spoken, .int h_out, .int h_coins]))] H := hP
  have hD : va_D A [(h, .inr (4, [.int h_rooms, .int f1, .int h_spoken, .int h_out, .int h_coins]))] := hD
  refine lv_aload_n hx hb dX4_sell_12 rfl (lv_at hl 0 rfl) ?_
  refine lv_dup hx hb dX4_sell_13 rfl ?_
  refine va_get (D := D) (ci := 4) (v := .int h_coins) (C := RX4) (T := TX4) (N := 5) hx hb hts uX4_sell_X4 hown hK hP 0 rfl rfl 4 (by decide) (hts (.fieldLink RX4 24 "SpeaksForTheChair$Standing" "coins" "I") (List.mem_of_getElem? (i := 2) rfl)) (fun _ h9 => h9) rfl dX4_sell_14 ?_
  refine lv_iload_n hx hb dX4_sell_17 rfl (lv_at hl 2 rfl) ?_
  refine lv_isub hx hb dX4_sell_18 ?_
  refine lv_topi (fun f2 ef2 => ?_)
  have hf := pv_eq ef2 hf
  refine va_put (D := D) (ci := 4) (v := .int f2) (ty := .int) (C := RX4) (T := TX4) (N := 5) hx hb hts uX4_sell_X4 tyX4 tyX4_ok nmX4 hown hK hP hD hS 0 rfl rfl 4 (by decide) (hts (.fieldLink RX4 24 "SpeaksForTheChair$Standing" "coins" "I") (List.mem_of_getElem? (i := 2) rfl)) (fun _ h9 => h9) rfl (by decide +kernel) rfl rfl (Nat.le_of_ble_eq_true rfl) dX4_sell_19 (fun H locs hP hD hS => ?_)
  have hP : va_P D vwCl [(h, .inr (4, [.int h_rooms, .int f1, .int h_spoken, .int h_out, .int f2]))] H := hP
  have hD : va_D A [(h, .inr (4, [.int h_rooms, .int f1, .int h_spoken, .int h_out, .int f2]))] := hD
  cases hf
  exact W.vret hx hb hr (fun t ht hW => ⟨⟨(), rfl, trivial, by rw [ht]; exact hP, va_K.moved hW.alike hK, hD⟩, hS.F ht⟩) hS.2.2 dX4_sell_22
theorem uX5_buy_X0 : ∀ w ∈ wsX00, w ∈ wsX5_buy := fun w h => List.mem_cons_of_mem _ (List.mem_append_left _ (List.mem_append_left _ (List.mem_append_right _ h)))
theorem uX5_buy_X4 : ∀ w ∈ wsX40, w ∈ wsX5_buy := fun w h => List.mem_cons_of_mem _ (List.mem_append_left _ (List.mem_append_right _ h))
theorem uX5_buy_X5 : ∀ w ∈ wsX50, w ∈ wsX5_buy := fun w h => List.mem_cons_of_mem _ (List.mem_append_left _ (List.mem_append_left _ (List.mem_append_left _ (List.mem_append_right _ h))))
set_option maxHeartbeats 4000000 in
set_option maxRecDepth 100000 in
theorem c_X5_buy (l : Launch) (D : va_G) (cI cC cL cB : ClassId) (sz : Nat) (h : Nat) (h_page : Nat) (h_laid : Nat) (h_draft : Nat) (h_now : Nat) (h_trial : Nat) (h_past : Nat) (h_sightings : Nat) (h_kept : Nat) (h_told : Nat) (h_laid_kinds : Nat) (h_laid_prices : Nat) (h_laid_persons : Nat) (h_laid_places : Nat) (h_laid_hours : Nat) (h_laid_weights : Nat) (h_laid_numbers : Nat) (h_past_ring : Nat) (a1 : Int32) (h_keptCount : Int32) (h_laid_pieces : Int32) (h_laid_roomsAtFirst : Int32) (h_laid_deeds : Int32) (h_laid_coins : Int32) (h_laid_law : Int32) (h_now_rooms : Int32) (h_now_bought : Int32) (h_now_spoken : Int32) (h_now_out : Int32) (h_now_coins : Int32) (h_laid_prices_c : Nat → Int32) (h_past_next : Int32) (h_past_depth : Int32) (h_past_ring_c : Nat → Int64) (r : Int32) (o0 : Int32) (o1 : Int32) (o2 : Int32) (o3 : Int32) (o4 : Nat → Int64) (hf : m_X5_buy a1 h_laid_pieces h_now_rooms h_now_bought h_now_spoken h_now_out h_now_coins h_laid_prices_c h_past_next h_past_depth h_past_ring_c = some (r, o0, o1, o2, o3, o4)) : Met l yX5_buy wsX5_buy ({ frames := 2, cells := 0, slots := 0, locals := 43 }) (va_Pc [.ref h, .int a1] (q_W D vwCl (tyL cI cC cL cB) [(h, .inr (5, [.ref h_page, .ref h_laid, .ref h_draft, .ref h_now, .ref h_trial, .ref h_past, .ref h_sightings, .ref h_kept, .int h_keptCount, .ref h_told])), (h_laid, .inr (0, [.int h_laid_pieces, .ref h_laid_kinds, .ref h_laid_prices, .int h_laid_roomsAtFirst, .int h_laid_deeds, .ref h_laid_persons, .ref h_laid_places, .ref h_laid_hours, .ref h_laid_weights, .int h_laid_coins, .int h_laid_law, .ref h_laid_numbers])), (h_now, .inr (4, [.int h_now_rooms, .int h_now_bought, .int h_now_spoken, .int h_now_out, .int h_now_coins])), (h_laid_prices, .inl (cI, 8, .inl h_laid_prices_c)), (h_past, .inr (2, [.ref h_past_ring, .int h_past_next, .int h_past_depth])), (h_past_ring, .inl (cL, 8, .inr (.inl h_past_ring_c)))] sz)) (va_Qi (fun r' _ => r' = r) (q_E D vwCl (tyL cI cC cL cB) (va_A [(h, .inr (5, [.ref h_page, .ref h_laid, .ref h_draft, .ref h_now, .ref h_trial, .ref h_past, .ref h_sightings, .ref h_kept, .int h_keptCount, .ref h_told])), (h_laid, .inr (0, [.int h_laid_pieces, .ref h_laid_kinds, .ref h_laid_prices, .int h_laid_roomsAtFirst, .int h_laid_deeds, .ref h_laid_persons, .ref h_laid_places, .ref h_laid_hours, .ref h_laid_weights, .int h_laid_coins, .int h_laid_law, .ref h_laid_numbers])), (h_now, .inr (4, [.int h_now_rooms, .int h_now_bought, .int h_now_spoken, .int h_now_out, .int h_now_coins])), (h_laid_prices, .inl (cI, 8, .inl h_laid_prices_c)), (h_past, .inr (2, [.ref h_past_ring, .int h_past_next, .int h_past_depth])), (h_past_ring, .inl (cL, 8, .inr (.inl h_past_ring_c)))] sz) [(h, .inr (5, [.ref h_page, .ref h_laid, .ref h_draft, .ref h_now, .ref h_trial, .ref h_past, .ref h_sightings, .ref h_kept, .int h_keptCount, .ref h_told])), (h_laid, .inr (0, [.int h_laid_pieces, .ref h_laid_kinds, .ref h_laid_prices, .int h_laid_roomsAtFirst, .int h_laid_deeds, .ref h_laid_persons, .ref h_laid_places, .ref h_laid_hours, .ref h_laid_weights, .int h_laid_coins, .int h_laid_law, .ref h_laid_numbers])), (h_now, .inr (4, [.int h_now_rooms, .int o0, .int h_now_spoken, .int h_now_out, .int o1])), (h_laid_prices, .inl (cI, 8, .inl h_laid_prices_c)), (h_past, .inr (2, [.ref h_past_ring, .int o2, .int o3])), (h_past_ring, .inl (cL, 8, .inr (.inl o4)))]) (va_A [(h, .inr (5, [.ref h_page, .ref h_laid, .ref h_draft, .ref h_now, .ref h_trial, .ref h_past, .ref h_sightings, .ref h_kept, .int h_keptCount, .ref h_told])), (h_laid, .inr (0, [.int h_laid_pieces, .ref h_laid_kinds, .ref h_laid_prices, .int h_laid_roomsAtFirst, .int h_laid_deeds, .ref h_laid_persons, .ref h_laid_places, .ref h_laid_hours, .ref h_laid_weights, .int h_laid_coins, .int h_laid_law, .ref h_laid_numbers])), (h_now, .inr (4, [.int h_now_rooms, .int h_now_bought, .int h_now_spoken, .int h_now_out, .int h_now_coins])), (h_laid_prices, .inl (cI, 8, .inl h_laid_prices_c)), (h_past, .inr (2, [.ref h_past_ring, .int h_past_next, .int h_past_depth])), (h_past_ring, .inl (cL, 8, .inr (.inl h_past_ring_c)))] sz)) 0 0 (va_A [(h, .inr (5, [.ref h_page, .ref h_laid, .ref h_draft, .ref h_now, .ref h_trial, .ref h_past, .ref h_sightings, .ref h_kept, .int h_keptCount, .ref h_told])), (h_laid, .inr (0, [.int h_laid_pieces, .ref h_laid_kinds, .ref h_laid_prices, .int h_laid_roomsAtFirst, .int h_laid_deeds, .ref h_laid_persons, .ref h_laid_places, .ref h_laid_hours, .ref h_laid_weights, .int h_laid_coins, .int h_laid_law, .ref h_laid_numbers])), (h_now, .inr (4, [.int h_now_rooms, .int h_now_bought, .int h_now_spoken, .int h_now_out, .int h_now_coins])), (h_laid_prices, .inl (cI, 8, .inl h_laid_prices_c)), (h_past, .inr (2, [.ref h_past_ring, .int h_past_next, .int h_past_depth])), (h_past_ring, .inl (cL, 8, .inr (.inl h_past_ring_c)))] sz) := by
  refine Met.ofW (cc := cX5_buy) (maxL := 2) (ret := (some .int)) (by decide) rfl ?_
  intro p e s m args below meth c s₁ B hml hv
  obtain ⟨rfl, hsz, hP, hK, hD0⟩ := hv
  have hx := B.exec
  have hb := B.bytes
  have hr := B.returns
  have hts := atoms_spec (ws := wsX5_buy) B.pre
  have hown : s.vm.findClass RX5 = some m.cls := findClass_of_methodNamed B.named
  have hlocks := B.notSynchronized
  subst hsz
  have hD := hD0.self (sz := s.heap.size)
  generalize hAe : va_A [(h, .inr (5, [.ref h_page, .ref h_laid, .ref h_draft, .ref h_now, .ref h_trial, .ref h_past, .ref h_sightings, .ref h_kept, .int h_keptCount, .ref h_told])), (h_laid, .inr (0, [.int h_laid_pieces, .ref h_laid_kinds, .ref h_laid_prices, .int h_laid_roomsAtFirst, .int h_laid_deeds, .ref h_laid_persons, .ref h_laid_places, .ref h_laid_hours, .ref h_laid_weights, .int h_laid_coins, .int h_laid_law, .ref h_laid_numbers])), (h_now, .inr (4, [.int h_now_rooms, .int h_now_bought, .int h_now_spoken, .int h_now_out, .int h_now_coins])), (h_laid_prices, .inl (cI, 8, .inl h_laid_prices_c)), (h_past, .inr (2, [.ref h_past_ring, .int h_past_next, .int h_past_depth])), (h_past_ring, .inl (cL, 8, .inr (.inl h_past_ring_c)))] s.heap.size = A at hD ⊢
  have hA : ∀ q : Nat, s.heap.size ≤ q → A q := fun q h => by rw [← hAe]; exact Or.inr h
  have hS : va_S A s.heap s.heap [] := va_S.rf
  have hP : va_P D vwCl [(h, .inr (5, [.ref h_page, .ref h_laid, .ref h_draft, .ref h_now, .ref h_trial, .ref h_past, .ref h_sightings, .ref h_kept, .int h_keptCount, .ref h_told])), (h_laid, .inr (0, [.int h_laid_pieces, .ref h_laid_kinds, .ref h_laid_prices, .int h_laid_roomsAtFirst, .int h_laid_deeds, .ref h_laid_persons, .ref h_laid_places, .ref h_laid_hours, .ref h_laid_weights, .int h_laid_coins, .int h_laid_law, .ref h_laid_numbers])), (h_now, .inr (4, [.int h_now_rooms, .int h_now_bought, .int h_now_spoken, .int h_now_out, .int h_now_coins])), (h_laid_prices, .inl (cI, 8, .inl h_laid_prices_c)), (h_past, .inr (2, [.ref h_past_ring, .int h_past_next, .int h_past_depth])), (h_past_ring, .inl (cL, 8, .inr (.inl h_past_ring_c)))] s.heap := hP
  have hl := lv_entry ([.ref h, .int a1]) (n := 2) (Nat.le_of_ble_eq_true rfl)
  rw [lg_entry_eq]
  generalize (lg_sl ([.ref h, .int a1]) ++ List.replicate (2 - (lg_sl ([.ref h, .int a1])).length) Slot.unset).toArray = ls at hl ⊢
  have hl : lv_has ls 2 [(0, .ref h), (1, .int a1)] := hl
  unfold m_X5_buy at hf
  refine lv_aload_n hx hb dX5_buy_0 rfl (lv_at hl 0 rfl) ?_
  refine lv_iload_n hx hb dX5_buy_1 rfl (lv_at hl 1 rfl) ?_
  obtain ⟨x1, hv_1, hf⟩ := ob1_some hf
  refine q_rVi (As := [.int a1]) (rest := []) (r := x1) ⟨hx, hb, hml, hown, hts⟩ (c_X5_isPiece l D cI cC cL cB h h_page h_laid h_draft h_now h_trial h_past h_sightings h_kept h_told h_laid_kinds h_laid_prices h_laid_persons h_laid_places h_laid_hours h_laid_weights h_laid_numbers a1 h_keptCount h_laid_pieces h_laid_roomsAtFirst h_laid_deeds h_laid_coins h_laid_law x1 hv_1) (cwV 1 hts gX5_buy_X5_isPiece rfl rfl rfl (by decide +kernel) ⟨Nat.le_of_ble_eq_true rfl, Nat.le_of_ble_eq_true rfl⟩) hK hP [0, 1] rfl (va_recv hK hP (ci := 5) (q0 := 0) rfl rfl) rfl hl.1 rfl (Nat.le_of_ble_eq_true rfl) dX5_buy_2 ⟨Nat.le_of_ble_eq_true rfl, Nat.le_of_ble_eq_true rfl⟩ ?_
  refine lv_if_ne (tgt := 10) hx hb dX5_buy_5 (by decide) (fun c_2 => ?_) (fun c_2 => ?_)
  · have hf := im c_2 hf
    refine lv_aload_n hx hb dX5_buy_10 rfl (lv_at hl 0 rfl) ?_
    refine lv_aload_n hx hb dX5_buy_11 rfl (lv_at hl 0 rfl) ?_
    refine va_get (D := D) (ci := 5) (v := .ref h_now) (C := RX5) (T := TX5) (N := 10) hx hb hts uX5_buy_X5 hown hK hP 0 rfl rfl 3 (by decide) (hts (.fieldLink RX5 29 "SpeaksForTheChair" "now" "LSpeaksForTheChair$Standing;") (List.mem_of_getElem? (i := 1) rfl)) (fun _ h9 => h9) rfl dX5_buy_12 ?_
    refine lv_iload_n hx hb dX5_buy_15 rfl (lv_at hl 1 rfl) ?_
    obtain ⟨x2, hv_3, hf⟩ := ob1_some hf
    refine q_rVi (As := [.ref h_now, .int a1]) (rest := []) (r := x2) ⟨hx, hb, hml, hown, hts⟩ (c_X5_canBeBought l D cI cC cL cB h h_now h_page h_laid h_draft h_now h_trial h_past h_sightings h_kept h_told h_laid_kinds h_laid_prices h_laid_persons h_laid_places h_laid_hours h_laid_weights h_laid_numbers a1 h_now_rooms h_now_bought h_now_spoken h_now_out h_now_coins h_keptCount h_laid_pieces h_laid_roomsAtFirst h_laid_deeds h_laid_coins h_laid_law h_laid_prices_c x2 hv_3) (cwV 2 hts gX5_buy_X5_canBeBought rfl rfl rfl (by decide +kernel) ⟨Nat.le_of_ble_eq_true rfl, Nat.le_of_ble_eq_true rfl⟩) hK hP [2, 0, 1, 3] rfl (va_recv hK hP (ci := 5) (q0 := 0) rfl rfl) rfl hl.1 rfl (Nat.le_of_ble_eq_true rfl) dX5_buy_16 ⟨Nat.le_of_ble_eq_true rfl, Nat.le_of_ble_eq_true rfl⟩ ?_
    refine lv_if_ne (tgt := 25) hx hb dX5_buy_19 (by decide) (fun c_4 => ?_) (fun c_4 => ?_)
    · have hf := im c_4 hf
      refine lv_aload_n hx hb dX5_buy_25 rfl (lv_at hl 0 rfl) ?_
      refine va_get (D := D) (ci := 5) (v := .ref h_past) (C := RX5) (T := TX5) (N := 10) hx hb hts uX5_buy_X5 hown hK hP 0 rfl rfl 5 (by decide) (hts (.fieldLink RX5 39 "SpeaksForTheChair" "past" "LSpeaksForTheChair$Past;") (List.mem_of_getElem? (i := 2) rfl)) (fun _ h9 => h9) rfl dX5_buy_26 ?_
      refine lv_aload_n hx hb dX5_buy_29 rfl (lv_at hl 0 rfl) ?_
      refine va_get (D := D) (ci := 5) (v := .ref h_now) (C := RX5) (T := TX5) (N := 10) hx hb hts uX5_buy_X5 hown hK hP 0 rfl rfl 3 (by decide) (hts (.fieldLink RX5 29 "SpeaksForTheChair" "now" "LSpeaksForTheChair$Standing;") (List.mem_of_getElem? (i := 1) rfl)) (fun _ h9 => h9) rfl dX5_buy_30 ?_
      obtain ⟨x3, hv_5, hf⟩ := ob1_some hf
      refine q_rVl (As := []) (rest := [.ref h_past]) (r := x3) ⟨hx, hb, hml, hown, hts⟩ (c_X4_packed l D cI cC cL cB h_now h_now_rooms h_now_bought h_now_spoken h_now_out h_now_coins x3 hv_5) (cwV 0 hts gX5_buy_X4_packed rfl rfl rfl (by decide +kernel) ⟨Nat.le_of_ble_eq_true rfl, Nat.le_of_ble_eq_true rfl⟩) hK hP [2] rfl (va_recv hK hP (ci := 4) (q0 := 2) rfl rfl) rfl hl.1 rfl (Nat.le_of_ble_eq_true rfl) dX5_buy_33 ⟨Nat.le_of_ble_eq_true rfl, Nat.le_of_ble_eq_true rfl⟩ ?_
      obtain ⟨f4, f5, c6, hv_6, hf⟩ := ob3_some hf
      refine q_wVv (As := [.long x3]) (rest := []) (w1 := [(h_past, .inr (2, [.ref h_past_ring, .int f4, .int f5])), (h_past_ring, .inl (cL, 8, .inr (.inl c6)))]) (wr := [(h, .inr (5, [.ref h_page, .ref h_laid, .ref h_draft, .ref h_now, .ref h_trial, .ref h_past, .ref h_sightings, .ref h_kept, .int h_keptCount, .ref h_told])), (h_laid, .inr (0, [.int h_laid_pieces, .ref h_laid_kinds, .ref h_laid_prices, .int h_laid_roomsAtFirst, .int h_laid_deeds, .ref h_laid_persons, .ref h_laid_places, .ref h_laid_hours, .ref h_laid_weights, .int h_laid_coins, .int h_laid_law, .ref h_laid_numbers])), (h_now, .inr (4, [.int h_now_rooms, .int h_now_bought, .int h_now_spoken, .int h_now_out, .int h_now_coins])), (h_laid_prices, .inl (cI, 8, .inl h_laid_prices_c))]) (w2 := [(h, .inr (5, [.ref h_page, .ref h_laid, .ref h_draft, .ref h_now, .ref h_trial, .ref h_past, .ref h_sightings, .ref h_kept, .int h_keptCount, .ref h_told])), (h_laid, .inr (0, [.int h_laid_pieces, .ref h_laid_kinds, .ref h_laid_prices, .int h_laid_roomsAtFirst, .int h_laid_deeds, .ref h_laid_persons, .ref h_laid_places, .ref h_laid_hours, .ref h_laid_weights, .int h_laid_coins, .int h_laid_law, .ref h_laid_numbers])), (h_now, .inr (4, [.int h_now_rooms, .int h_now_bought, .int h_now_spoken, .int h_now_out, .int h_now_coins])), (h_laid_prices, .inl (cI, 8, .inl h_laid_prices_c)), (h_past, .inr (2, [.ref h_past_ring, .int f4, .int f5])), (h_past_ring, .inl (cL, 8, .inr (.inl c6)))]) ⟨hx, hb, hml, hown, hts⟩ (c_X2_push l D cI cC cL cB s.heap.size h_past h_past_ring x3 h_past_next h_past_depth h_past_ring_c f4 f5 c6 hv_6) (cwV 1 hts gX5_buy_X2_push rfl rfl rfl (by decide +kernel) ⟨Nat.le_of_ble_eq_true rfl, Nat.le_of_ble_eq_true rfl⟩) hK hP hD hS hA [4, 5] rfl (by decide) [0, 1, 2, 3] rfl (by decide) (by decide) [0, 1, 2, 3, 4, 5] rfl (by decide) (va_recv hK hP (ci := 2) (q0 := 4) rfl rfl) rfl hl.1 rfl (Nat.le_of_ble_eq_true rfl) dX5_buy_36 ⟨Nat.le_of_ble_eq_true rfl, Nat.le_of_ble_eq_true rfl⟩ (fun H locs hP hD hS => ?_)
      have hP : va_P D vwCl [(h, .inr (5, [.ref h_page, .ref h_laid, .ref h_draft, .ref h_now, .ref h_trial, .ref h_past, .ref h_sightings, .ref h_kept, .int h_keptCount, .ref h_told])), (h_laid, .inr (0, [.int h_laid_pieces, .ref h_laid_kinds, .ref h_laid_prices, .int h_laid_roomsAtFirst, .int h_laid_deeds, .ref h_laid_persons, .ref h_laid_places, .ref h_laid_hours, .ref h_laid_weights, .int h_laid_coins, .int h_laid_law, .ref h_laid_numbers])), (h_now, .inr (4, [.int h_now_rooms, .int h_now_bought, .int h_now_spoken, .int h_now_out, .int h_now_coins])), (h_laid_prices, .inl (cI, 8, .inl h_laid_prices_c)), (h_past, .inr (2, [.ref h_past_ring, .int f4, .int f5])), (h_past_ring, .inl (cL, 8, .inr (.inl c6)))] H := hP
      have hD : va_D A [(h, .inr (5, [.ref h_page, .ref h_laid, .ref h_draft, .ref h_now, .ref h_trial, .ref h_past, .ref h_sightings, .ref h_kept, .int h_keptCount, .ref h_told])), (h_laid, .inr (0, [.int h_laid_pieces, .ref h_laid_kinds, .ref h_laid_prices, .int h_laid_roomsAtFirst, .int h_laid_deeds, .ref h_laid_persons, .ref h_laid_places, .ref h_laid_hours, .ref h_laid_weights, .int h_laid_coins, .int h_laid_law, .ref h_laid_numbers])), (h_now, .inr (4, [.int h_now_rooms, .int h_now_bought, .int h_now_spoken, .int h_now_out, .int h_now_coins])), (h_laid_prices, .inl (cI, 8, .inl h_laid_prices_c)), (h_past, .inr (2, [.ref h_past_ring, .int f4, .int f5])), (h_past_ring, .inl (cL, 8, .inr (.inl c6)))] := hD
      refine lv_aload_n hx hb dX5_buy_39 rfl (lv_at hl 0 rfl) ?_
      refine va_get (D := D) (ci := 5) (v := .ref h_now) (C := RX5) (T := TX5) (N := 10) hx hb hts uX5_buy_X5 hown hK hP 0 rfl rfl 3 (by decide) (hts (.fieldLink RX5 29 "SpeaksForTheChair" "now" "LSpeaksForTheChair$Standing;") (List.mem_of_getElem? (i := 1) rfl)) (fun _ h9 => h9) rfl dX5_buy_40 ?_
      refine lv_iload_n hx hb dX5_buy_43 rfl (lv_at hl 1 rfl) ?_
      refine lv_aload_n hx hb dX5_buy_44 rfl (lv_at hl 0 rfl) ?_
      refine va_get (D := D) (ci := 5) (v := .ref h_laid) (C := RX5) (T := TX5) (N := 10) hx hb hts uX5_buy_X5 hown hK hP 0 rfl rfl 1 (by decide) (hts (.fieldLink RX5 19 "SpeaksForTheChair" "laid" "LSpeaksForTheChair$House;") (List.mem_of_getElem? (i := 3) rfl)) (fun _ h9 => h9) rfl dX5_buy_45 ?_
      refine va_get (D := D) (ci := 0) (v := .ref h_laid_prices) (C := RX0) (T := TX0) (N := 12) hx hb hts uX5_buy_X0 hown hK hP 1 rfl rfl 2 (by decide) (hts (.fieldLink RX5 120 "SpeaksForTheChair$House" "prices" "[I") (List.mem_of_getElem? (i := 4) rfl)) (fun _ h9 => h9) rfl dX5_buy_48 ?_
      refine lv_iload_n hx hb dX5_buy_51 rfl (lv_at hl 1 rfl) ?_
      obtain ⟨g_7, hf⟩ := gu_in hf
      refine va_iald hx hb hK hP 3 0 rfl rfl g_7 dX5_buy_52 ?_
      obtain ⟨f7, f8, hv_8, hf⟩ := ob2_some hf
      refine q_wVv (As := [.int a1, .int (h_laid_prices_c a1.toNatClampNeg)]) (rest := []) (w1 := [(h_now, .inr (4, [.int h_now_rooms, .int f7, .int h_now_spoken, .int h_now_out, .int f8]))]) (wr := [(h, .inr (5, [.ref h_page, .ref h_laid, .ref h_draft, .ref h_now, .ref h_trial, .ref h_past, .ref h_sightings, .ref h_kept, .int h_keptCount, .ref h_told])), (h_laid, .inr (0, [.int h_laid_pieces, .ref h_laid_kinds, .ref h_laid_prices, .int h_laid_roomsAtFirst, .int h_laid_deeds, .ref h_laid_persons, .ref h_laid_places, .ref h_laid_hours, .ref h_laid_weights, .int h_laid_coins, .int h_laid_law, .ref h_laid_numbers])), (h_laid_prices, .inl (cI, 8, .inl h_laid_prices_c)), (h_past, .inr (2, [.ref h_past_ring, .int f4, .int f5])), (h_past_ring, .inl (cL, 8, .inr (.inl c6)))]) (w2 := [(h, .inr (5, [.ref h_page, .ref h_laid, .ref h_draft, .ref h_now, .ref h_trial, .ref h_past, .ref h_sightings, .ref h_kept, .int h_keptCount, .ref h_told])), (h_laid, .inr (0, [.int h_laid_pieces, .ref h_laid_kinds, .ref h_laid_prices, .int h_laid_roomsAtFirst, .int h_laid_deeds, .ref h_laid_persons, .ref h_laid_places, .ref h_laid_hours, .ref h_laid_weights, .int h_laid_coins, .int h_laid_law, .ref h_laid_numbers])), (h_now, .inr (4, [.int h_now_rooms, .int f7, .int h_now_spoken, .int h_now_out, .int f8])), (h_laid_prices, .inl (cI, 8, .inl h_laid_prices_c)), (h_past, .inr (2, [.ref h_past_ring, .int f4, .int f5])), (h_past_ring, .inl (cL, 8, .inr (.inl c6)))]) ⟨hx, hb, hml, hown, hts⟩ (c_X4_sell l D cI cC cL cB H.size h_now a1 ((h_laid_prices_c a1.toNatClampNeg)) h_now_rooms h_now_bought h_now_spoken h_now_out h_now_coins f7 f8 hv_8) (cwV 2 hts gX5_buy_X4_sell rfl rfl rfl (by decide +kernel) ⟨Nat.le_of_ble_eq_true rfl, Nat.le_of_ble_eq_true rfl⟩) hK hP hD hS hA [2] rfl (by decide) [0, 1, 3, 4, 5] rfl (by decide) (by decide) [0, 1, 5, 2, 3, 4] rfl (by decide) (va_recv hK hP (ci := 4) (q0 := 2) rfl rfl) rfl hl.1 rfl (Nat.le_of_ble_eq_true rfl) dX5_buy_53 ⟨Nat.le_of_ble_eq_true rfl, Nat.le_of_ble_eq_true rfl⟩ (fun H locs hP hD hS => ?_)
      have hP : va_P D vwCl [(h, .inr (5, [.ref h_page, .ref h_laid, .ref h_draft, .ref h_now, .ref h_trial, .ref h_past, .ref h_sightings, .ref h_kept, .int h_keptCount, .ref h_told])), (h_laid, .inr (0, [.int h_laid_pieces, .ref h_laid_kinds, .ref h_laid_prices, .int h_laid_roomsAtFirst, .int h_laid_deeds, .ref h_laid_persons, .ref h_laid_places, .ref h_laid_hours, .ref h_laid_weights, .int h_laid_coins, .int h_laid_law, .ref h_laid_numbers])), (h_now, .inr (4, [.int h_now_rooms, .int f7, .int h_now_spoken, .int h_now_out, .int f8])), (h_laid_prices, .inl (cI, 8, .inl h_laid_prices_c)), (h_past, .inr (2, [.ref h_past_ring, .int f4, .int f5])), (h_past_ring, .inl (cL, 8, .inr (.inl c6)))] H := hP
      have hD : va_D A [(h, .inr (5, [.ref h_page, .ref h_laid, .ref h_draft, .ref h_now, .ref h_trial, .ref h_past, .ref h_sightings, .ref h_kept, .int h_keptCount, .ref h_told])), (h_laid, .inr (0, [.int h_laid_pieces, .ref h_laid_kinds, .ref h_laid_prices, .int h_laid_roomsAtFirst, .int h_laid_deeds, .ref h_laid_persons, .ref h_laid_places, .ref h_laid_hours, .ref h_laid_weights, .int h_laid_coins, .int h_laid_law, .ref h_laid_numbers])), (h_now, .inr (4, [.int h_now_rooms, .int f7, .int h_now_spoken, .int h_now_out, .int f8])), (h_laid_prices, .inl (cI, 8, .inl h_laid_prices_c)), (h_past, .inr (2, [.ref h_past_ring, .int f4, .int f5])), (h_past_ring, .inl (cL, 8, .inr (.inl c6)))] := hD
      refine lv_aload_n hx hb dX5_buy_56 rfl (lv_at hl 0 rfl) ?_
      refine va_get (D := D) (ci := 5) (v := .ref h_now) (C := RX5) (T := TX5) (N := 10) hx hb hts uX5_buy_X5 hown hK hP 0 rfl rfl 3 (by decide) (hts (.fieldLink RX5 29 "SpeaksForTheChair" "now" "LSpeaksForTheChair$Standing;") (List.mem_of_getElem? (i := 1) rfl)) (fun _ h9 => h9) rfl dX5_buy_57 ?_
      refine va_get (D := D) (ci := 4) (v := .int f8) (C := RX4) (T := TX4) (N := 5) hx hb hts uX5_buy_X4 hown hK hP 2 rfl rfl 4 (by decide) (hts (.fieldLink RX5 172 "SpeaksForTheChair$Standing" "coins" "I") (List.mem_of_getElem? (i := 5) rfl)) (fun _ h9 => h9) rfl dX5_buy_60 ?_
      cases hf
      exact W.iret hx hb hr (fun t ht hW => ⟨⟨_, (), rfl, rfl, by rw [ht]; exact hP, va_K.moved hW.alike hK, hD⟩, hS.F ht⟩) hS.2.2 dX5_buy_63
    · have hf := ip c_4 hf
      refine lv_bipush (v := (-2)) hx hb dX5_buy_22 (by decide) ?_
      cases hf
      exact W.iret hx hb hr (fun t ht hW => ⟨⟨_, (), rfl, rfl, by rw [ht]; exact hP, va_K.moved hW.alike hK, hD⟩, hS.F ht⟩) hS.2.2 dX5_buy_24
  · have hf := ip c_2 hf
    refine lv_iconst (v := (-1)) hx hb dX5_buy_8 (by decide) ?_
    cases hf
    exact W.iret hx hb hr (fun t ht hW => ⟨⟨_, (), rfl, rfl, by rw [ht]; exact hP, va_K.moved hW.alike hK, hD⟩, hS.F ht⟩) hS.2.2 dX5_buy_9
theorem uX4_move_X4 : ∀ w ∈ wsX40, w ∈ wsX4_move := fun w h => List.mem_cons_of_mem _ (List.mem_append_right _ h)
set_option maxHeartbeats 4000000 in
set_option maxRecDepth 100000 in
theorem c_X4_move (l : Launch) (D : va_G) (cI cC cL cB : ClassId) (sz : Nat) (h : Nat) (a1 : Int32) (a2 : Int32) (h_rooms : Int32) (h_bought : Int32) (h_spoken : Int32) (h_out : Int32) (h_coins : Int32) (o0 : Int32) (hf : m_X4_move a1 a2 h_rooms = some o0) : Met l yX4_move wsX4_move ({ frames := 0, cells := 0, slots := 0, locals := 0 }) (va_Pc [.ref h, .int a1, .int a2] (q_W D vwCl (tyL cI cC cL cB) [(h, .inr (4, [.int h_rooms, .int h_bought, .int h_spoken, .int h_out, .int h_coins]))] sz)) (va_Qv (fun _ : Unit => True) (q_E D vwCl (tyL cI cC cL cB) (va_A [(h, .inr (4, [.int h_rooms, .int h_bought, .int h_spoken, .int h_out, .int h_coins]))] sz) [(h, .inr (4, [.int o0, .int h_bought, .int h_spoken, .int h_out, .int h_coins]))]) (va_A [(h, .inr (4, [.int h_rooms, .int h_bought, .int h_spoken, .int h_out, .int h_coins]))] sz)) 0 0 (va_A [(h, .inr (4, [.int h_rooms, .int h_bought, .int h_spoken, .int h_out, .int h_coins]))] sz) := by
  refine Met.ofW (cc := cX4_move) (maxL := 3) (ret := none) (by decide) rfl ?_
  intro p e s m args below meth c s₁ B hml hv
  obtain ⟨rfl, hsz, hP, hK, hD0⟩ := hv
  have hx := B.exec
  have hb := B.bytes
  have hr := B.returns
  have hts := atoms_spec (ws := wsX4_move) B.pre
  have hown : s.vm.findClass RX4 = some m.cls := findClass_of_methodNamed B.named
  have hlocks := B.notSynchronized
  subst hsz
  have hD := hD0.self (sz := s.heap.size)
  generalize hAe : va_A [(h, .inr (4, [.int h_rooms, .int h_bought, .int h_spoken, .int h_out, .int h_coins]))] s.heap.size = A at hD ⊢
  have hA : ∀ q : Nat, s.heap.size ≤ q → A q := fun q h => by rw [← hAe]; exact Or.inr h
  have hS : va_S A s.heap s.heap [] := va_S.rf
  have hP : va_P D vwCl [(h, .inr (4, [.int h_rooms, .int h_bought, .int h_spoken, .int h_out, .int h_coins]))] s.heap := hP
  have hl := lv_entry ([.ref h, .int a1, .int a2]) (n := 3) (Nat.le_of_ble_eq_true rfl)
  rw [lg_entry_eq]
  generalize (lg_sl ([.ref h, .int a1, .int a2]) ++ List.replicate (3 - (lg_sl ([.ref h, .int a1, .int a2])).length) Slot.unset).toArray = ls at hl ⊢
  have hl : lv_has ls 3 [(0, .ref h), (1, .int a1), (2, .int a2)] := hl
  unfold m_X4_move at hf
  refine lv_aload_n hx hb dX4_move_0 rfl (lv_at hl 0 rfl) ?_
  refine lv_aload_n hx hb dX4_move_1 rfl (lv_at hl 0 rfl) ?_
  refine va_get (D := D) (ci := 4) (v := .int h_rooms) (C := RX4) (T := TX4) (N := 5) hx hb hts uX4_move_X4 hown hK hP 0 rfl rfl 0 (by decide) (hts (.fieldLink RX4 9 "SpeaksForTheChair$Standing" "rooms" "I") (List.mem_of_getElem? (i := 1) rfl)) (fun _ h9 => h9) rfl dX4_move_2 ?_
  refine lv_iconst (v := 3) hx hb dX4_move_5 (by decide) ?_
  refine lv_iconst (v := 2) hx hb dX4_move_6 (by decide) ?_
  refine lv_iload_n hx hb dX4_move_7 rfl (lv_at hl 1 rfl) ?_
  refine lv_imul hx hb dX4_move_8 ?_
  refine lv_ishl hx hb dX4_move_9 ?_
  refine lv_iconst (v := (-1)) hx hb dX4_move_10 (by decide) ?_
  refine lv_ixor hx hb dX4_move_11 ?_
  refine lv_iand hx hb dX4_move_12 ?_
  refine lv_iload_n hx hb dX4_move_13 rfl (lv_at hl 2 rfl) ?_
  refine lv_iconst (v := 2) hx hb dX4_move_14 (by decide) ?_
  refine lv_iload_n hx hb dX4_move_15 rfl (lv_at hl 1 rfl) ?_
  refine lv_imul hx hb dX4_move_16 ?_
  refine lv_ishl hx hb dX4_move_17 ?_
  refine lv_ior hx hb dX4_move_18 ?_
  refine lv_topi (fun f1 ef1 => ?_)
  have hf := pv_eq ef1 hf
  refine va_put (D := D) (ci := 4) (v := .int f1) (ty := .int) (C := RX4) (T := TX4) (N := 5) hx hb hts uX4_move_X4 tyX4 tyX4_ok nmX4 hown hK hP hD hS 0 rfl rfl 0 (by decide) (hts (.fieldLink RX4 9 "SpeaksForTheChair$Standing" "rooms" "I") (List.mem_of_getElem? (i := 1) rfl)) (fun _ h9 => h9) rfl (by decide +kernel) rfl rfl (Nat.le_of_ble_eq_true rfl) dX4_move_19 (fun H locs hP hD hS => ?_)
  have hP : va_P D vwCl [(h, .inr (4, [.int f1, .int h_bought, .int h_spoken, .int h_out, .int h_coins]))] H := hP
  have hD : va_D A [(h, .inr (4, [.int f1, .int h_bought, .int h_spoken, .int h_out, .int h_coins]))] := hD
  cases hf
  exact W.vret hx hb hr (fun t ht hW => ⟨⟨(), rfl, trivial, by rw [ht]; exact hP, va_K.moved hW.alike hK, hD⟩, hS.F ht⟩) hS.2.2 dX4_move_22
theorem uX5_carry_X5 : ∀ w ∈ wsX50, w ∈ wsX5_carry := fun w h => List.mem_cons_of_mem _ (List.mem_append_left _ (List.mem_append_left _ (List.mem_append_left _ (List.mem_append_right _ h))))
set_option maxHeartbeats 4000000 in
set_option maxRecDepth 100000 in
theorem c_X5_carry (l : Launch) (D : va_G) (cI cC cL cB : ClassId) (sz : Nat) (h : Nat) (h_page : Nat) (h_laid : Nat) (h_draft : Nat) (h_now : Nat) (h_trial : Nat) (h_past : Nat) (h_sightings : Nat) (h_kept : Nat) (h_told : Nat) (h_laid_kinds : Nat) (h_laid_prices : Nat) (h_laid_persons : Nat) (h_laid_places : Nat) (h_laid_hours : Nat) (h_laid_weights : Nat) (h_laid_numbers : Nat) (h_past_ring : Nat) (a1 : Int32) (a2 : Int32) (h_keptCount : Int32) (h_laid_pieces : Int32) (h_laid_roomsAtFirst : Int32) (h_laid_deeds : Int32) (h_laid_coins : Int32) (h_laid_law : Int32) (h_now_rooms : Int32) (h_now_bought : Int32) (h_now_spoken : Int32) (h_now_out : Int32) (h_now_coins : Int32) (h_past_next : Int32) (h_past_depth : Int32) (h_past_ring_c : Nat → Int64) (r : Int32) (o0 : Int32) (o1 : Int32) (o2 : Int32) (o3 : Nat → Int64) (hf : m_X5_carry a1 a2 h_laid_pieces h_now_rooms h_now_bought h_now_spoken h_now_out h_now_coins h_past_next h_past_depth h_past_ring_c = some (r, o0, o1, o2, o3)) : Met l yX5_carry wsX5_carry ({ frames := 2, cells := 0, slots := 0, locals := 43 }) (va_Pc [.ref h, .int a1, .int a2] (q_W D vwCl (tyL cI cC cL cB) [(h, .inr (5, [.ref h_page, .ref h_laid, .ref h_draft, .ref h_now, .ref h_trial, .ref h_past, .ref h_sightings, .ref h_kept, .int h_keptCount, .ref h_told])), (h_laid, .inr (0, [.int h_laid_pieces, .ref h_laid_kinds, .ref h_laid_prices, .int h_laid_roomsAtFirst, .int h_laid_deeds, .ref h_laid_persons, .ref h_laid_places, .ref h_laid_hours, .ref h_laid_weights, .int h_laid_coins, .int h_laid_law, .ref h_laid_numbers])), (h_now, .inr (4, [.int h_now_rooms, .int h_now_bought, .int h_now_spoken, .int h_now_out, .int h_now_coins])), (h_past, .inr (2, [.ref h_past_ring, .int h_past_next, .int h_past_depth])), (h_past_ring, .inl (cL, 8, .inr (.inl h_past_ring_c)))] sz)) (va_Qi (fun r' _ => r' = r) (q_E D vwCl (tyL cI cC cL cB) (va_A [(h, .inr (5, [.ref h_page, .ref h_laid, .ref h_draft, .ref h_now, .ref h_trial, .ref h_past, .ref h_sightings, .ref h_kept, .int h_keptCount, .ref h_told])), (h_laid, .inr (0, [.int h_laid_pieces, .ref h_laid_kinds, .ref h_laid_prices, .int h_laid_roomsAtFirst, .int h_laid_deeds, .ref h_laid_persons, .ref h_laid_places, .ref h_laid_hours, .ref h_laid_weights, .int h_laid_coins, .int h_laid_law, .ref h_laid_numbers])), (h_now, .inr (4, [.int h_now_rooms, .int h_now_bought, .int h_now_spoken, .int h_now_out, .int h_now_coins])), (h_past, .inr (2, [.ref h_past_ring, .int h_past_next, .int h_past_depth])), (h_past_ring, .inl (cL, 8, .inr (.inl h_past_ring_c)))] sz) [(h, .inr (5, [.ref h_page, .ref h_laid, .ref h_draft, .ref h_now, .ref h_trial, .ref h_past, .ref h_sightings, .ref h_kept, .int h_keptCount, .ref h_told])), (h_laid, .inr (0, [.int h_laid_pieces, .ref h_laid_kinds, .ref h_laid_prices, .int h_laid_roomsAtFirst, .int h_laid_deeds, .ref h_laid_persons, .ref h_laid_places, .ref h_laid_hours, .ref h_laid_weights, .int h_laid_coins, .int h_laid_law, .ref h_laid_numbers])), (h_now, .inr (4, [.int o0, .int h_now_bought, .int h_now_spoken, .int h_now_out, .int h_now_coins])), (h_past, .inr (2, [.ref h_past_ring, .int o1, .int o2])), (h_past_ring, .inl (cL, 8, .inr (.inl o3)))]) (va_A [(h, .inr (5, [.ref h_page, .ref h_laid, .ref h_draft, .ref h_now, .ref h_trial, .ref h_past, .ref h_sightings, .ref h_kept, .int h_keptCount, .ref h_told])), (h_laid, .inr (0, [.int h_laid_pieces, .ref h_laid_kinds, .ref h_laid_prices, .int h_laid_roomsAtFirst, .int h_laid_deeds, .ref h_laid_persons, .ref h_laid_places, .ref h_laid_hours, .ref h_laid_weights, .int h_laid_coins, .int h_laid_law, .ref h_laid_numbers])), (h_now, .inr (4, [.int h_now_rooms, .int h_now_bought, .int h_now_spoken, .int h_now_out, .int h_now_coins])), (h_past, .inr (2, [.ref h_past_ring, .int h_past_next, .int h_past_depth])), (h_past_ring, .inl (cL, 8, .inr (.inl h_past_ring_c)))] sz)) 0 0 (va_A [(h, .inr (5, [.ref h_page, .ref h_laid, .ref h_draft, .ref h_now, .ref h_trial, .ref h_past, .ref h_sightings, .ref h_kept, .int h_keptCount, .ref h_told])), (h_laid, .inr (0, [.int h_laid_pieces, .ref h_laid_kinds, .ref h_laid_prices, .int h_laid_roomsAtFirst, .int h_laid_deeds, .ref h_laid_persons, .ref h_laid_places, .ref h_laid_hours, .ref h_laid_weights, .int h_laid_coins, .int h_laid_law, .ref h_laid_numbers])), (h_now, .inr (4, [.int h_now_rooms, .int h_now_bought, .int h_now_spoken, .int h_now_out, .int h_now_coins])), (h_past, .inr (2, [.ref h_past_ring, .int h_past_next, .int h_past_depth])), (h_past_ring, .inl (cL, 8, .inr (.inl h_past_ring_c)))] sz) := by
  refine Met.ofW (cc := cX5_carry) (maxL := 4) (ret := (some .int)) (by decide) rfl ?_
  intro p e s m args below meth c s₁ B hml hv
  obtain ⟨rfl, hsz, hP, hK, hD0⟩ := hv
  have hx := B.exec
  have hb := B.bytes
  have hr := B.returns
  have hts := atoms_spec (ws := wsX5_carry) B.pre
  have hown : s.vm.findClass RX5 = some m.cls := findClass_of_methodNamed B.named
  have hlocks := B.notSynchronized
  subst hsz
  have hD := hD0.self (sz := s.heap.size)
  generalize hAe : va_A [(h, .inr (5, [.ref h_page, .ref h_laid, .ref h_draft, .ref h_now, .ref h_trial, .ref h_past, .ref h_sightings, .ref h_kept, .int h_keptCount, .ref h_told])), (h_laid, .inr (0, [.int h_laid_pieces, .ref h_laid_kinds, .ref h_laid_prices, .int h_laid_roomsAtFirst, .int h_laid_deeds, .ref h_laid_persons, .ref h_laid_places, .ref h_laid_hours, .ref h_laid_weights, .int h_laid_coins, .int h_laid_law, .ref h_laid_numbers])), (h_now, .inr (4, [.int h_now_rooms, .int h_now_bought, .int h_now_spoken, .int h_now_out, .int h_now_coins])), (h_past, .inr (2, [.ref h_past_ring, .int h_past_next, .int h_past_depth])), (h_past_ring, .inl (cL, 8, .inr (.inl h_past_ring_c)))] s.heap.size = A at hD ⊢
  have hA : ∀ q : Nat, s.heap.size ≤ q → A q := fun q h => by rw [← hAe]; exact Or.inr h
  have hS : va_S A s.heap s.heap [] := va_S.rf
  have hP : va_P D vwCl [(h, .inr (5, [.ref h_page, .ref h_laid, .ref h_draft, .ref h_now, .ref h_trial, .ref h_past, .ref h_sightings, .ref h_kept, .int h_keptCount, .ref h_told])), (h_laid, .inr (0, [.int h_laid_pieces, .ref h_laid_kinds, .ref h_laid_prices, .int h_laid_roomsAtFirst, .int h_laid_deeds, .ref h_laid_persons, .ref h_laid_places, .ref h_laid_hours, .ref h_laid_weights, .int h_laid_coins, .int h_laid_law, .ref h_laid_numbers])), (h_now, .inr (4, [.int h_now_rooms, .int h_now_bought, .int h_now_spoken, .int h_now_out, .int h_now_coins])), (h_past, .inr (2, [.ref h_past_ring, .int h_past_next, .int h_past_depth])), (h_past_ring, .inl (cL, 8, .inr (.inl h_past_ring_c)))] s.heap := hP
  have hl := lv_entry ([.ref h, .int a1, .int a2]) (n := 4) (Nat.le_of_ble_eq_true rfl)
  rw [lg_entry_eq]
  generalize (lg_sl ([.ref h, .int a1, .int a2]) ++ List.replicate (4 - (lg_sl ([.ref h, .int a1, .int a2])).length) Slot.unset).toArray = ls at hl ⊢
  have hl : lv_has ls 4 [(0, .ref h), (1, .int a1), (2, .int a2)] := hl
  unfold m_X5_carry at hf
  refine lv_aload_n hx hb dX5_carry_0 rfl (lv_at hl 0 rfl) ?_
  refine lv_iload_n hx hb dX5_carry_1 rfl (lv_at hl 1 rfl) ?_
  obtain ⟨x1, hv_1, hf⟩ := ob1_some hf
  refine q_rVi (As := [.int a1]) (rest := []) (r := x1) ⟨hx, hb, hml, hown, hts⟩ (c_X5_isPiece l D cI cC cL cB h h_page h_laid h_draft h_now h_trial h_past h_sightings h_kept h_told h_laid_kinds h_laid_prices h_laid_persons h_laid_places h_laid_hours h_laid_weights h_laid_numbers a1 h_keptCount h_laid_pieces h_laid_roomsAtFirst h_laid_deeds h_laid_coins h_laid_law x1 hv_1) (cwV 1 hts gX5_carry_X5_isPiece rfl rfl rfl (by decide +kernel) ⟨Nat.le_of_ble_eq_true rfl, Nat.le_of_ble_eq_true rfl⟩) hK hP [0, 1] rfl (va_recv hK hP (ci := 5) (q0 := 0) rfl rfl) rfl hl.1 rfl (Nat.le_of_ble_eq_true rfl) dX5_carry_2 ⟨Nat.le_of_ble_eq_true rfl, Nat.le_of_ble_eq_true rfl⟩ ?_
  refine lv_if_eq (tgt := 17) hx hb dX5_carry_5 (by decide) (fun c_2 => ?_) (fun c_2 => ?_)
  · have hf := ip c_2 hf
    refine lv_iconst (v := (-1)) hx hb dX5_carry_17 (by decide) ?_
    cases hf
    exact W.iret hx hb hr (fun t ht hW => ⟨⟨_, (), rfl, rfl, by rw [ht]; exact hP, va_K.moved hW.alike hK, hD⟩, hS.F ht⟩) hS.2.2 dX5_carry_18
  · have hf := im c_2 hf
    refine lv_iload_n hx hb dX5_carry_8 rfl (lv_at hl 2 rfl) ?_
    refine lv_iconst (v := 0) hx hb dX5_carry_9 (by decide) ?_
    refine lv_iconst (v := 3) hx hb dX5_carry_10 (by decide) ?_
    obtain ⟨x2, hv_3, hf⟩ := ob1_some hf
    refine q_rSi (As := [.int a2, .int 0, .int 3]) (rest := []) (r := x2) ⟨hx, hb, hml, hown, hts⟩ (c_X5_isWithin l D cI cC cL cB a2 ((0 : Int32)) ((3 : Int32)) x2 hv_3) (va_cwS 3 hts gX5_carry_X5_isWithin rfl rfl rfl (by decide +kernel) ⟨Nat.le_of_ble_eq_true rfl, Nat.le_of_ble_eq_true rfl⟩) hK hP [] rfl rfl hl.1 rfl (Nat.le_of_ble_eq_true rfl) dX5_carry_11 ⟨Nat.le_of_ble_eq_true rfl, Nat.le_of_ble_eq_true rfl⟩ ?_
    refine lv_if_ne (tgt := 19) hx hb dX5_carry_14 (by decide) (fun c_4 => ?_) (fun c_4 => ?_)
    · have hf := im c_4 hf
      refine lv_aload_n hx hb dX5_carry_19 rfl (lv_at hl 0 rfl) ?_
      refine va_get (D := D) (ci := 5) (v := .ref h_now) (C := RX5) (T := TX5) (N := 10) hx hb hts uX5_carry_X5 hown hK hP 0 rfl rfl 3 (by decide) (hts (.fieldLink RX5 29 "SpeaksForTheChair" "now" "LSpeaksForTheChair$Standing;") (List.mem_of_getElem? (i := 1) rfl)) (fun _ h9 => h9) rfl dX5_carry_20 ?_
      refine lv_iload_n hx hb dX5_carry_23 rfl (lv_at hl 1 rfl) ?_
      obtain ⟨x3, hv_5, hf⟩ := ob1_some hf
      refine q_rVi (As := [.int a1]) (rest := []) (r := x3) ⟨hx, hb, hml, hown, hts⟩ (c_X4_roomOf l D cI cC cL cB h_now a1 h_now_rooms h_now_bought h_now_spoken h_now_out h_now_coins x3 hv_5) (cwV 1 hts gX5_carry_X4_roomOf rfl rfl rfl (by decide +kernel) ⟨Nat.le_of_ble_eq_true rfl, Nat.le_of_ble_eq_true rfl⟩) hK hP [2] rfl (va_recv hK hP (ci := 4) (q0 := 2) rfl rfl) rfl hl.1 rfl (Nat.le_of_ble_eq_true rfl) dX5_carry_24 ⟨Nat.le_of_ble_eq_true rfl, Nat.le_of_ble_eq_true rfl⟩ ?_
      refine lv_istore_n (lv' := [(3, .int x3), (0, .ref h), (1, .int a1), (2, .int a2)]) hx hb dX5_carry_27 rfl hl (by decide) rfl (fun ls hl => ?_)
      refine lv_aload_n hx hb dX5_carry_28 rfl (lv_at hl 1 rfl) ?_
      refine va_get (D := D) (ci := 5) (v := .ref h_now) (C := RX5) (T := TX5) (N := 10) hx hb hts uX5_carry_X5 hown hK hP 0 rfl rfl 3 (by decide) (hts (.fieldLink RX5 29 "SpeaksForTheChair" "now" "LSpeaksForTheChair$Standing;") (List.mem_of_getElem? (i := 1) rfl)) (fun _ h9 => h9) rfl dX5_carry_29 ?_
      refine lv_iload_n hx hb dX5_carry_32 rfl (lv_at hl 2 rfl) ?_
      obtain ⟨x4, hv_6, hf⟩ := ob1_some hf
      refine q_rVi (As := [.int a1]) (rest := []) (r := x4) ⟨hx, hb, hml, hown, hts⟩ (c_X4_howIs l D cI cC cL cB h_now a1 h_now_rooms h_now_bought h_now_spoken h_now_out h_now_coins x4 hv_6) (cwV 1 hts gX5_carry_X4_howIs rfl rfl rfl (by decide +kernel) ⟨Nat.le_of_ble_eq_true rfl, Nat.le_of_ble_eq_true rfl⟩) hK hP [2] rfl (va_recv hK hP (ci := 4) (q0 := 2) rfl rfl) rfl hl.1 rfl (Nat.le_of_ble_eq_true rfl) dX5_carry_33 ⟨Nat.le_of_ble_eq_true rfl, Nat.le_of_ble_eq_true rfl⟩ ?_
      refine lv_iconst (v := 2) hx hb dX5_carry_36 (by decide) ?_
      refine lv_icmp_eq (tgt := 45) hx hb dX5_carry_37 (by decide) (fun c_7 => ?_) (fun c_7 => ?_)
      · have hf := ip c_7 hf
        refine lv_bipush (v := (-2)) hx hb dX5_carry_45 (by decide) ?_
        cases hf
        exact W.iret hx hb hr (fun t ht hW => ⟨⟨_, (), rfl, rfl, by rw [ht]; exact hP, va_K.moved hW.alike hK, hD⟩, hS.F ht⟩) hS.2.2 dX5_carry_47
      · have hf := im c_7 hf
        refine lv_iload_n hx hb dX5_carry_40 rfl (lv_at hl 0 rfl) ?_
        refine lv_iload_n hx hb dX5_carry_41 rfl (lv_at hl 3 rfl) ?_
        refine lv_icmp_ne (tgt := 48) hx hb dX5_carry_42 (by decide) (fun c_8 => ?_) (fun c_8 => ?_)
        · have hf := im c_8 hf
          refine lv_aload_n hx hb dX5_carry_48 rfl (lv_at hl 1 rfl) ?_
          refine va_get (D := D) (ci := 5) (v := .ref h_past) (C := RX5) (T := TX5) (N := 10) hx hb hts uX5_carry_X5 hown hK hP 0 rfl rfl 5 (by decide) (hts (.fieldLink RX5 39 "SpeaksForTheChair" "past" "LSpeaksForTheChair$Past;") (List.mem_of_getElem? (i := 2) rfl)) (fun _ h9 => h9) rfl dX5_carry_49 ?_
          refine lv_aload_n hx hb dX5_carry_52 rfl (lv_at hl 1 rfl) ?_
          refine va_get (D := D) (ci := 5) (v := .ref h_now) (C := RX5) (T := TX5) (N := 10) hx hb hts uX5_carry_X5 hown hK hP 0 rfl rfl 3 (by decide) (hts (.fieldLink RX5 29 "SpeaksForTheChair" "now" "LSpeaksForTheChair$Standing;") (List.mem_of_getElem? (i := 1) rfl)) (fun _ h9 => h9) rfl dX5_carry_53 ?_
          obtain ⟨x5, hv_9, hf⟩ := ob1_some hf
          refine q_rVl (As := []) (rest := [.ref h_past]) (r := x5) ⟨hx, hb, hml, hown, hts⟩ (c_X4_packed l D cI cC cL cB h_now h_now_rooms h_now_bought h_now_spoken h_now_out h_now_coins x5 hv_9) (cwV 0 hts gX5_carry_X4_packed rfl rfl rfl (by decide +kernel) ⟨Nat.le_of_ble_eq_true rfl, Nat.le_of_ble_eq_true rfl⟩) hK hP [2] rfl (va_recv hK hP (ci := 4) (q0 := 2) rfl rfl) rfl hl.1 rfl (Nat.le_of_ble_eq_true rfl) dX5_carry_56 ⟨Nat.le_of_ble_eq_true rfl, Nat.le_of_ble_eq_true rfl⟩ ?_
          obtain ⟨f6, f7, c8, hv_10, hf⟩ := ob3_some hf
          refine q_wVv (As := [.long x5]) (rest := []) (w1 := [(h_past, .inr (2, [.ref h_past_ring, .int f6, .int f7])), (h_past_ring, .inl (cL, 8, .inr (.inl c8)))]) (wr := [(h, .inr (5, [.ref h_page, .ref h_laid, .ref h_draft, .ref h_now, .ref h_trial, .ref h_past, .ref h_sightings, .ref h_kept, .int h_keptCount, .ref h_told])), (h_laid, .inr (0, [.int h_laid_pieces, .ref h_laid_kinds, .ref h_laid_prices, .int h_laid_roomsAtFirst, .int h_laid_deeds, .ref h_laid_persons, .ref h_laid_places, .ref h_laid_hours, .ref h_laid_weights, .int h_laid_coins, .int h_laid_law, .ref h_laid_numbers])), (h_now, .inr (4, [.int h_now_rooms, .int h_now_bought, .int h_now_spoken, .int h_now_out, .int h_now_coins]))]) (w2 := [(h, .inr (5, [.ref h_page, .ref h_laid, .ref h_draft, .ref h_now, .ref h_trial, .ref h_past, .ref h_sightings, .ref h_kept, .int h_keptCount, .ref h_told])), (h_laid, .inr (0, [.int h_laid_pieces, .ref h_laid_kinds, .ref h_laid_prices, .int h_laid_roomsAtFirst, .int h_laid_deeds, .ref h_laid_persons, .ref h_laid_places, .ref h_laid_hours, .ref h_laid_weights, .int h_laid_coins, .int h_laid_law, .ref h_laid_numbers])), (h_now, .inr (4, [.int h_now_rooms, .int h_now_bought, .int h_now_spoken, .int h_now_out, .int h_now_coins])), (h_past, .inr (2, [.ref h_past_ring, .int f6, .int f7])), (h_past_ring, .inl (cL, 8, .inr (.inl c8)))]) ⟨hx, hb, hml, hown, hts⟩ (c_X2_push l D cI cC cL cB s.heap.size h_past h_past_ring x5 h_past_next h_past_depth h_past_ring_c f6 f7 c8 hv_10) (cwV 1 hts gX5_carry_X2_push rfl rfl rfl (by decide +kernel) ⟨Nat.le_of_ble_eq_true rfl, Nat.le_of_ble_eq_true rfl⟩) hK hP hD hS hA [3, 4] rfl (by decide) [0, 1, 2] rfl (by decide) (by decide) [0, 1, 2, 3, 4] rfl (by decide) (va_recv hK hP (ci := 2) (q0 := 3) rfl rfl) rfl hl.1 rfl (Nat.le_of_ble_eq_true rfl) dX5_carry_59 ⟨Nat.le_of_ble_eq_true rfl, Nat.le_of_ble_eq_true rfl⟩ (fun H locs hP hD hS => ?_)
          have hP : va_P D vwCl [(h, .inr (5, [.ref h_page, .ref h_laid, .ref h_draft, .ref h_now, .ref h_trial, .ref h_past, .ref h_sightings, .ref h_kept, .int h_keptCount, .ref h_told])), (h_laid, .inr (0, [.int h_laid_pieces, .ref h_laid_kinds, .ref h_laid_prices, .int h_laid_roomsAtFirst, .int h_laid_deeds, .ref h_laid_persons, .ref h_laid_places, .ref h_laid_hours, .ref h_laid_weights, .int h_laid_coins, .int h_laid_law, .ref h_laid_numbers])), (h_now, .inr (4, [.int h_now_rooms, .int h_now_bought, .int h_now_spoken, .int h_now_out, .int h_now_coins])), (h_past, .inr (2, [.ref h_past_ring, .int f6, .int f7])), (h_past_ring, .inl (cL, 8, .inr (.inl c8)))] H := hP
          have hD : va_D A [(h, .inr (5, [.ref h_page, .ref h_laid, .ref h_draft, .ref h_now, .ref h_trial, .ref h_past, .ref h_sightings, .ref h_kept, .int h_keptCount, .ref h_told])), (h_laid, .inr (0, [.int h_laid_pieces, .ref h_laid_kinds, .ref h_laid_prices, .int h_laid_roomsAtFirst, .int h_laid_deeds, .ref h_laid_persons, .ref h_laid_places, .ref h_laid_hours, .ref h_laid_weights, .int h_laid_coins, .int h_laid_law, .ref h_laid_numbers])), (h_now, .inr (4, [.int h_now_rooms, .int h_now_bought, .int h_now_spoken, .int h_now_out, .int h_now_coins])), (h_past, .inr (2, [.ref h_past_ring, .int f6, .int f7])), (h_past_ring, .inl (cL, 8, .inr (.inl c8)))] := hD
          refine lv_aload_n hx hb dX5_carry_62 rfl (lv_at hl 1 rfl) ?_
          refine va_get (D := D) (ci := 5) (v := .ref h_now) (C := RX5) (T := TX5) (N := 10) hx hb hts uX5_carry_X5 hown hK hP 0 rfl rfl 3 (by decide) (hts (.fieldLink RX5 29 "SpeaksForTheChair" "now" "LSpeaksForTheChair$Standing;") (List.mem_of_getElem? (i := 1) rfl)) (fun _ h9 => h9) rfl dX5_carry_63 ?_
          refine lv_iload_n hx hb dX5_carry_66 rfl (lv_at hl 2 rfl) ?_
          refine lv_iload_n hx hb dX5_carry_67 rfl (lv_at hl 3 rfl) ?_
          obtain ⟨f9, hv_11, hf⟩ := ob1_some hf
          refine q_wVv (As := [.int a1, .int a2]) (rest := []) (w1 := [(h_now, .inr (4, [.int f9, .int h_now_bought, .int h_now_spoken, .int h_now_out, .int h_now_coins]))]) (wr := [(h, .inr (5, [.ref h_page, .ref h_laid, .ref h_draft, .ref h_now, .ref h_trial, .ref h_past, .ref h_sightings, .ref h_kept, .int h_keptCount, .ref h_told])), (h_laid, .inr (0, [.int h_laid_pieces, .ref h_laid_kinds, .ref h_laid_prices, .int h_laid_roomsAtFirst, .int h_laid_deeds, .ref h_laid_persons, .ref h_laid_places, .ref h_laid_hours, .ref h_laid_weights, .int h_laid_coins, .int h_laid_law, .ref h_laid_numbers])), (h_past, .inr (2, [.ref h_past_ring, .int f6, .int f7])), (h_past_ring, .inl (cL, 8, .inr (.inl c8)))]) (w2 := [(h, .inr (5, [.ref h_page, .ref h_laid, .ref h_draft, .ref h_now, .ref h_trial, .ref h_past, .ref h_sightings, .ref h_kept, .int h_keptCount, .ref h_told])), (h_laid, .inr (0, [.int h_laid_pieces, .ref h_laid_kinds, .ref h_laid_prices, .int h_laid_roomsAtFirst, .int h_laid_deeds, .ref h_laid_persons, .ref h_laid_places, .ref h_laid_hours, .ref h_laid_weights, .int h_laid_coins, .int h_laid_law, .ref h_laid_numbers])), (h_now, .inr (4, [.int f9, .int h_now_bought, .int h_now_spoken, .int h_now_out, .int h_now_coins])), (h_past, .inr (2, [.ref h_past_ring, .int f6, .int f7])), (h_past_ring, .inl (cL, 8, .inr (.inl c8)))]) ⟨hx, hb, hml, hown, hts⟩ (c_X4_move l D cI cC cL cB H.size h_now a1 a2 h_now_rooms h_now_bought h_now_spoken h_now_out h_now_coins f9 hv_11) (cwV 2 hts gX5_carry_X4_move rfl rfl rfl (by decide +kernel) ⟨Nat.le_of_ble_eq_true rfl, Nat.le_of_ble_eq_true rfl⟩) hK hP hD hS hA [2] rfl (by decide) [0, 1, 3, 4] rfl (by decide) (by decide) [0, 1, 4, 2, 3] rfl (by decide) (va_recv hK hP (ci := 4) (q0 := 2) rfl rfl) rfl hl.1 rfl (Nat.le_of_ble_eq_true rfl) dX5_carry_68 ⟨Nat.le_of_ble_eq_true rfl, Nat.le_of_ble_eq_true rfl⟩ (fun H locs hP hD hS => ?_)
          have hP : va_P D vwCl [(h, .inr (5, [.ref h_page, .ref h_laid, .ref h_draft, .ref h_now, .ref h_trial, .ref h_past, .ref h_sightings, .ref h_kept, .int h_keptCount, .ref h_told])), (h_laid, .inr (0, [.int h_laid_pieces, .ref h_laid_kinds, .ref h_laid_prices, .int h_laid_roomsAtFirst, .int h_laid_deeds, .ref h_laid_persons, .ref h_laid_places, .ref h_laid_hours, .ref h_laid_weights, .int h_laid_coins, .int h_laid_law, .ref h_laid_numbers])), (h_now, .inr (4, [.int f9, .int h_now_bought, .int h_now_spoken, .int h_now_out, .int h_now_coins])), (h_past, .inr (2, [.ref h_past_ring, .int f6, .int f7])), (h_past_ring, .inl (cL, 8, .inr (.inl c8)))] H := hP
          have hD : va_D A [(h, .inr (5, [.ref h_page, .ref h_laid, .ref h_draft, .ref h_now, .ref h_trial, .ref h_past, .ref h_sightings, .ref h_kept, .int h_keptCount, .ref h_told])), (h_laid, .inr (0, [.int h_laid_pieces, .ref h_laid_kinds, .ref h_laid_prices, .int h_laid_roomsAtFirst, .int h_laid_deeds, .ref h_laid_persons, .ref h_laid_places, .ref h_laid_hours, .ref h_laid_weights, .int h_laid_coins, .int h_laid_law, .ref h_laid_numbers])), (h_now, .inr (4, [.int f9, .int h_now_bought, .int h_now_spoken, .int h_now_out, .int h_now_coins])), (h_past, .inr (2, [.ref h_past_ring, .int f6, .int f7])), (h_past_ring, .inl (cL, 8, .inr (.inl c8)))] := hD
          refine lv_iload_n hx hb dX5_carry_71 rfl (lv_at hl 0 rfl) ?_
          cases hf
          exact W.iret hx hb hr (fun t ht hW => ⟨⟨_, (), rfl, rfl, by rw [ht]; exact hP, va_K.moved hW.alike hK, hD⟩, hS.F ht⟩) hS.2.2 dX5_carry_72
        · have hf := ip c_8 hf
          refine lv_bipush (v := (-2)) hx hb dX5_carry_45 (by decide) ?_
          cases hf
          exact W.iret hx hb hr (fun t ht hW => ⟨⟨_, (), rfl, rfl, by rw [ht]; exact hP, va_K.moved hW.alike hK, hD⟩, hS.F ht⟩) hS.2.2 dX5_carry_47
    · have hf := ip c_4 hf
      refine lv_iconst (v := (-1)) hx hb dX5_carry_17 (by decide) ?_
      cases hf
      exact W.iret hx hb hr (fun t ht hW => ⟨⟨_, (), rfl, rfl, by rw [ht]; exact hP, va_K.moved hW.alike hK, hD⟩, hS.F ht⟩) hS.2.2 dX5_carry_18
theorem uX2_pop_X2 : ∀ w ∈ wsX20, w ∈ wsX2_pop := fun w h => List.mem_cons_of_mem _ (List.mem_append_right _ h)
set_option maxHeartbeats 4000000 in
set_option maxRecDepth 100000 in
theorem c_X2_pop (l : Launch) (D : va_G) (cI cC cL cB : ClassId) (sz : Nat) (h : Nat) (h_ring : Nat) (h_next : Int32) (h_depth : Int32) (h_ring_c : Nat → Int64) (r : Int64) (o0 : Int32) (o1 : Int32) (hf : m_X2_pop h_next h_depth h_ring_c = some (r, o0, o1)) : Met l yX2_pop wsX2_pop ({ frames := 1, cells := 0, slots := 0, locals := 21 }) (va_Pc [.ref h] (q_W D vwCl (tyL cI cC cL cB) [(h, .inr (2, [.ref h_ring, .int h_next, .int h_depth])), (h_ring, .inl (cL, 8, .inr (.inl h_ring_c)))] sz)) (va_Ql (fun r' _ => r' = r) (q_E D vwCl (tyL cI cC cL cB) (va_A [(h, .inr (2, [.ref h_ring, .int h_next, .int h_depth])), (h_ring, .inl (cL, 8, .inr (.inl h_ring_c)))] sz) [(h, .inr (2, [.ref h_ring, .int o0, .int o1])), (h_ring, .inl (cL, 8, .inr (.inl h_ring_c)))]) (va_A [(h, .inr (2, [.ref h_ring, .int h_next, .int h_depth])), (h_ring, .inl (cL, 8, .inr (.inl h_ring_c)))] sz)) 0 0 (va_A [(h, .inr (2, [.ref h_ring, .int h_next, .int h_depth])), (h_ring, .inl (cL, 8, .inr (.inl h_ring_c)))] sz) := by
  refine Met.ofW (cc := cX2_pop) (maxL := 1) (ret := (some .long)) (by decide) rfl ?_
  intro p e s m args below meth c s₁ B hml hv
  obtain ⟨rfl, hsz, hP, hK, hD0⟩ := hv
  have hx := B.exec
  have hb := B.bytes
  have hr := B.returns
  have hts := atoms_spec (ws := wsX2_pop) B.pre
  have hown : s.vm.findClass RX2 = some m.cls := findClass_of_methodNamed B.named
  have hlocks := B.notSynchronized
  subst hsz
  have hD := hD0.self (sz := s.heap.size)
  generalize hAe : va_A [(h, .inr (2, [.ref h_ring, .int h_next, .int h_depth])), (h_ring, .inl (cL, 8, .inr (.inl h_ring_c)))] s.heap.size = A at hD ⊢
  have hA : ∀ q : Nat, s.heap.size ≤ q → A q := fun q h => by rw [← hAe]; exact Or.inr h
  have hS : va_S A s.heap s.heap [] := va_S.rf
  have hP : va_P D vwCl [(h, .inr (2, [.ref h_ring, .int h_next, .int h_depth])), (h_ring, .inl (cL, 8, .inr (.inl h_ring_c)))] s.heap := hP
  have hl := lv_entry ([.ref h]) (n := 1) (Nat.le_of_ble_eq_true rfl)
  rw [lg_entry_eq]
  generalize (lg_sl ([.ref h]) ++ List.replicate (1 - (lg_sl ([.ref h])).length) Slot.unset).toArray = ls at hl ⊢
  have hl : lv_has ls 1 [(0, .ref h)] := hl
  unfold m_X2_pop at hf
  refine lv_aload_n hx hb dX2_pop_0 rfl (lv_at hl 0 rfl) ?_
  refine lv_aload_n hx hb dX2_pop_1 rfl (lv_at hl 0 rfl) ?_
  refine va_get (D := D) (ci := 2) (v := .int h_next) (C := RX2) (T := TX2) (N := 3) hx hb hts uX2_pop_X2 hown hK hP 0 rfl rfl 1 (by decide) (hts (.fieldLink RX2 15 "SpeaksForTheChair$Past" "next" "I") (List.mem_of_getElem? (i := 1) rfl)) (fun _ h9 => h9) rfl dX2_pop_2 ?_
  obtain ⟨x1, hr19, hf⟩ := ob1_some hf
  refine q_jn (pcJ := 19) (nL := 1) (vs := [(0, .ref h)]) (st := [.int x1, .ref h]) (fun ls hl => ?_) (fun J19 => ?_)
  · clear hr19
    refine va_put (D := D) (ci := 2) (v := .int x1) (ty := .int) (C := RX2) (T := TX2) (N := 3) hx hb hts uX2_pop_X2 tyX2 tyX2_ok nmX2 hown hK hP hD hS 0 rfl rfl 1 (by decide) (hts (.fieldLink RX2 15 "SpeaksForTheChair$Past" "next" "I") (List.mem_of_getElem? (i := 1) rfl)) (fun _ h9 => h9) rfl (by decide +kernel) rfl rfl (Nat.le_of_ble_eq_true rfl) dX2_pop_19 (fun H locs hP hD hS => ?_)
    have hP : va_P D vwCl [(h, .inr (2, [.ref h_ring, .int x1, .int h_depth])), (h_ring, .inl (cL, 8, .inr (.inl h_ring_c)))] H := hP
    have hD : va_D A [(h, .inr (2, [.ref h_ring, .int x1, .int h_depth])), (h_ring, .inl (cL, 8, .inr (.inl h_ring_c)))] := hD
    refine lv_aload_n hx hb dX2_pop_22 rfl (lv_at hl 0 rfl) ?_
    refine lv_aload_n hx hb dX2_pop_23 rfl (lv_at hl 0 rfl) ?_
    refine va_get (D := D) (ci := 2) (v := .int h_depth) (C := RX2) (T := TX2) (N := 3) hx hb hts uX2_pop_X2 hown hK hP 0 rfl rfl 2 (by decide) (hts (.fieldLink RX2 19 "SpeaksForTheChair$Past" "depth" "I") (List.mem_of_getElem? (i := 2) rfl)) (fun _ h9 => h9) rfl dX2_pop_24 ?_
    refine lv_iconst (v := 1) hx hb dX2_pop_27 (by decide) ?_
    refine lv_isub hx hb dX2_pop_28 ?_
    refine lv_iconst (v := 0) hx hb dX2_pop_29 (by decide) ?_
    refine va_mmax hx hb (by rw [hml]; exact hl.1.symm) hown (hts (.methodLink RX2 28 Lib.Math.max.name) (List.mem_of_getElem? (i := 3) rfl)) (hts (.static Lib.Math.max.name) (List.mem_of_getElem? (i := 4) rfl)) (hts (.initialized "java/lang/Math") (List.mem_of_getElem? (i := 5) rfl)) (hts (.code Lib.Math.max.name Lib.Math.max.code 2 (some .int)) (List.mem_of_getElem? (i := 6) rfl)) (Nat.le_of_ble_eq_true rfl) (Nat.le_of_ble_eq_true rfl) (Nat.le_of_ble_eq_true rfl) (Nat.le_of_ble_eq_true rfl) dX2_pop_30 ?_
    refine lv_topi (fun f2 ef2 => ?_)
    have hf := pv_eq ef2 hf
    refine va_put (D := D) (ci := 2) (v := .int f2) (ty := .int) (C := RX2) (T := TX2) (N := 3) hx hb hts uX2_pop_X2 tyX2 tyX2_ok nmX2 hown hK hP hD hS 0 rfl rfl 2 (by decide) (hts (.fieldLink RX2 19 "SpeaksForTheChair$Past" "depth" "I") (List.mem_of_getElem? (i := 2) rfl)) (fun _ h9 => h9) rfl (by decide +kernel) rfl rfl (Nat.le_of_ble_eq_true rfl) dX2_pop_33 (fun H locs hP hD hS => ?_)
    have hP : va_P D vwCl [(h, .inr (2, [.ref h_ring, .int x1, .int f2])), (h_ring, .inl (cL, 8, .inr (.inl h_ring_c)))] H := hP
    have hD : va_D A [(h, .inr (2, [.ref h_ring, .int x1, .int f2])), (h_ring, .inl (cL, 8, .inr (.inl h_ring_c)))] := hD
    refine lv_aload_n hx hb dX2_pop_36 rfl (lv_at hl 0 rfl) ?_
    refine va_get (D := D) (ci := 2) (v := .ref h_ring) (C := RX2) (T := TX2) (N := 3) hx hb hts uX2_pop_X2 hown hK hP 0 rfl rfl 0 (by decide) (hts (.fieldLink RX2 9 "SpeaksForTheChair$Past" "ring" "[J") (List.mem_of_getElem? (i := 7) rfl)) (fun _ h9 => h9) rfl dX2_pop_37 ?_
    refine lv_aload_n hx hb dX2_pop_40 rfl (lv_at hl 0 rfl) ?_
    refine va_get (D := D) (ci := 2) (v := .int x1) (C := RX2) (T := TX2) (N := 3) hx hb hts uX2_pop_X2 hown hK hP 0 rfl rfl 1 (by decide) (hts (.fieldLink RX2 15 "SpeaksForTheChair$Past" "next" "I") (List.mem_of_getElem? (i := 1) rfl)) (fun _ h9 => h9) rfl dX2_pop_41 ?_
    obtain ⟨g_2, hf⟩ := gu_in hf
    refine va_lald hx hb hK hP 1 2 rfl rfl g_2 dX2_pop_44 ?_
    cases hf
    exact W.lret hx hb hr (fun t ht hW => ⟨⟨_, (), rfl, rfl, by rw [ht]; exact hP, va_K.moved hW.alike hK, hD⟩, hS.F ht⟩) hS.2.2 dX2_pop_45
  · replace hf := hr19
    refine lv_if_le (tgt := 17) hx hb dX2_pop_5 (by decide) (fun c_1 => ?_) (fun c_1 => ?_)
    · have hf := ip c_1 hf
      refine lv_bipush (v := 7) hx hb dX2_pop_17 (by decide) ?_
      cases hf
      exact J19 ls (lv_sub hl [0] rfl)
    · have hf := im c_1 hf
      refine lv_aload_n hx hb dX2_pop_8 rfl (lv_at hl 0 rfl) ?_
      refine va_get (D := D) (ci := 2) (v := .int h_next) (C := RX2) (T := TX2) (N := 3) hx hb hts uX2_pop_X2 hown hK hP 0 rfl rfl 1 (by decide) (hts (.fieldLink RX2 15 "SpeaksForTheChair$Past" "next" "I") (List.mem_of_getElem? (i := 1) rfl)) (fun _ h9 => h9) rfl dX2_pop_9 ?_
      refine lv_iconst (v := 1) hx hb dX2_pop_12 (by decide) ?_
      refine lv_isub hx hb dX2_pop_13 ?_
      refine lv_goto (tgt := 19) hx hb dX2_pop_14 (by decide) ?_
      cases hf
      exact J19 ls (lv_sub hl [0] rfl)
theorem uX4_unpack_X4 : ∀ w ∈ wsX40, w ∈ wsX4_unpack := fun w h => List.mem_cons_of_mem _ (List.mem_append_right _ h)
set_option maxHeartbeats 4000000 in
set_option maxRecDepth 100000 in
theorem c_X4_unpack (l : Launch) (D : va_G) (cI cC cL cB : ClassId) (sz : Nat) (h : Nat) (a1 : Int64) (h_rooms : Int32) (h_bought : Int32) (h_spoken : Int32) (h_out : Int32) (h_coins : Int32) (o0 : Int32) (o1 : Int32) (o2 : Int32) (o3 : Int32) (o4 : Int32) (hf : m_X4_unpack a1 = some (o0, o1, o2, o3, o4)) : Met l yX4_unpack wsX4_unpack ({ frames := 0, cells := 0, slots := 0, locals := 0 }) (va_Pc [.ref h, .long a1] (q_W D vwCl (tyL cI cC cL cB) [(h, .inr (4, [.int h_rooms, .int h_bought, .int h_spoken, .int h_out, .int h_coins]))] sz)) (va_Qv (fun _ : Unit => True) (q_E D vwCl (tyL cI cC cL cB) (va_A [(h, .inr (4, [.int h_rooms, .int h_bought, .int h_spoken, .int h_out, .int h_coins]))] sz) [(h, .inr (4, [.int o0, .int o1, .int o2, .int o3, .int o4]))]) (va_A [(h, .inr (4, [.int h_rooms, .int h_bought, .int h_spoken, .int h_out, .int h_coins]))] sz)) 0 0 (va_A [(h, .inr (4, [.int h_rooms, .int h_bought, .int h_spoken, .int h_out, .int h_coins]))] sz) := by
  refine Met.ofW (cc := cX4_unpack) (maxL := 3) (ret := none) (by decide) rfl ?_
  intro p e s m args below meth c s₁ B hml hv
  obtain ⟨rfl, hsz, hP, hK, hD0⟩ := hv
  have hx := B.exec
  have hb := B.bytes
  have hr := B.returns
  have hts := atoms_spec (ws := wsX4_unpack) B.pre
  have hown : s.vm.findClass RX4 = some m.cls := findClass_of_methodNamed B.named
  have hlocks := B.notSynchronized
  subst hsz
  have hD := hD0.self (sz := s.heap.size)
  generalize hAe : va_A [(h, .inr (4, [.int h_rooms, .int h_bought, .int h_spoken, .int h_out, .int h_coins]))] s.heap.size = A at hD ⊢
  have hA : ∀ q : Nat, s.heap.size ≤ q → A q := fun q h => by rw [← hAe]; exact Or.inr h
  have hS : va_S A s.heap s.heap [] := va_S.rf
  have hP : va_P D vwCl [(h, .inr (4, [.int h_rooms, .int h_bought, .int h_spoken, .int h_out, .int h_coins]))] s.heap := hP
  have hl := lv_entry ([.ref h, .long a1]) (n := 3) (Nat.le_of_ble_eq_true rfl)
  rw [lg_entry_eq]
  generalize (lg_sl ([.ref h, .long a1]) ++ List.replicate (3 - (lg_sl ([.ref h, .long a1])).length) Slot.unset).toArray = ls at hl ⊢
  have hl : lv_has ls 3 [(0, .ref h), (1, .long a1)] := hl
  unfold m_X4_unpack at hf
  refine lv_aload_n hx hb dX4_unpack_0 rfl (lv_at hl 0 rfl) ?_
  refine lv_lload_n hx hb dX4_unpack_1 rfl (lv_at hl 1 rfl) ?_
  refine lv_ldc2 (v := 65535) hx hb hown (hts (.constantLong RX4 27 (65535)) (List.mem_of_getElem? (i := 1) rfl)) dX4_unpack_2 ?_
  refine lv_land hx hb dX4_unpack_5 ?_
  refine lv_l2i hx hb dX4_unpack_6 rfl ?_
  refine lv_topi (fun f1 ef1 => ?_)
  have hf := pv_eq ef1 hf
  refine va_put (D := D) (ci := 4) (v := .int f1) (ty := .int) (C := RX4) (T := TX4) (N := 5) hx hb hts uX4_unpack_X4 tyX4 tyX4_ok nmX4 hown hK hP hD hS 0 rfl rfl 0 (by decide) (hts (.fieldLink RX4 9 "SpeaksForTheChair$Standing" "rooms" "I") (List.mem_of_getElem? (i := 2) rfl)) (fun _ h9 => h9) rfl (by decide +kernel) rfl rfl (Nat.le_of_ble_eq_true rfl) dX4_unpack_7 (fun H locs hP hD hS => ?_)
  have hP : va_P D vwCl [(h, .inr (4, [.int f1, .int h_bought, .int h_spoken, .int h_out, .int h_coins]))] H := hP
  have hD : va_D A [(h, .inr (4, [.int f1, .int h_bought, .int h_spoken, .int h_out, .int h_coins]))] := hD
  refine lv_aload_n hx hb dX4_unpack_10 rfl (lv_at hl 0 rfl) ?_
  refine lv_lload_n hx hb dX4_unpack_11 rfl (lv_at hl 1 rfl) ?_
  refine lv_bipush (v := 16) hx hb dX4_unpack_12 (by decide) ?_
  refine lv_lshr hx hb dX4_unpack_14 rfl ?_
  refine lv_ldc2 (v := 255) hx hb hown (hts (.constantLong RX4 29 (255)) (List.mem_of_getElem? (i := 3) rfl)) dX4_unpack_15 ?_
  refine lv_land hx hb dX4_unpack_18 ?_
  refine lv_l2i hx hb dX4_unpack_19 rfl ?_
  refine lv_topi (fun f2 ef2 => ?_)
  have hf := pv_eq ef2 hf
  refine va_put (D := D) (ci := 4) (v := .int f2) (ty := .int) (C := RX4) (T := TX4) (N := 5) hx hb hts uX4_unpack_X4 tyX4 tyX4_ok nmX4 hown hK hP hD hS 0 rfl rfl 1 (by decide) (hts (.fieldLink RX4 15 "SpeaksForTheChair$Standing" "bought" "I") (List.mem_of_getElem? (i := 4) rfl)) (fun _ h9 => h9) rfl (by decide +kernel) rfl rfl (Nat.le_of_ble_eq_true rfl) dX4_unpack_20 (fun H locs hP hD hS => ?_)
  have hP : va_P D vwCl [(h, .inr (4, [.int f1, .int f2, .int h_spoken, .int h_out, .int h_coins]))] H := hP
  have hD : va_D A [(h, .inr (4, [.int f1, .int f2, .int h_spoken, .int h_out, .int h_coins]))] := hD
  refine lv_aload_n hx hb dX4_unpack_23 rfl (lv_at hl 0 rfl) ?_
  refine lv_lload_n hx hb dX4_unpack_24 rfl (lv_at hl 1 rfl) ?_
  refine lv_bipush (v := 24) hx hb dX4_unpack_25 (by decide) ?_
  refine lv_lshr hx hb dX4_unpack_27 rfl ?_
  refine lv_ldc2 (v := 255) hx hb hown (hts (.constantLong RX4 29 (255)) (List.mem_of_getElem? (i := 3) rfl)) dX4_unpack_28 ?_
  refine lv_land hx hb dX4_unpack_31 ?_
  refine lv_l2i hx hb dX4_unpack_32 rfl ?_
  refine lv_topi (fun f3 ef3 => ?_)
  have hf := pv_eq ef3 hf
  refine va_put (D := D) (ci := 4) (v := .int f3) (ty := .int) (C := RX4) (T := TX4) (N := 5) hx hb hts uX4_unpack_X4 tyX4 tyX4_ok nmX4 hown hK hP hD hS 0 rfl rfl 2 (by decide) (hts (.fieldLink RX4 18 "SpeaksForTheChair$Standing" "spoken" "I") (List.mem_of_getElem? (i := 5) rfl)) (fun _ h9 => h9) rfl (by decide +kernel) rfl rfl (Nat.le_of_ble_eq_true rfl) dX4_unpack_33 (fun H locs hP hD hS => ?_)
  have hP : va_P D vwCl [(h, .inr (4, [.int f1, .int f2, .int f3, .int h_out, .int h_coins]))] H := hP
  have hD : va_D A [(h, .inr (4, [.int f1, .int f2, .int f3, .int h_out, .int h_coins]))] := hD
  refine lv_aload_n hx hb dX4_unpack_36 rfl (lv_at hl 0 rfl) ?_
  refine lv_lload_n hx hb dX4_unpack_37 rfl (lv_at hl 1 rfl) ?_
  refine lv_bipush (v := 32) hx hb dX4_unpack_38 (by decide) ?_
  refine lv_lshr hx hb dX4_unpack_40 rfl ?_
  refine lv_ldc2 (v := 65535) hx hb hown (hts (.constantLong RX4 27 (65535)) (List.mem_of_getElem? (i := 1) rfl)) dX4_unpack_41 ?_
  refine lv_land hx hb dX4_unpack_44 ?_
  refine lv_l2i hx hb dX4_unpack_45 rfl ?_
  refine lv_topi (fun f4 ef4 => ?_)
  have hf := pv_eq ef4 hf
  refine va_put (D := D) (ci := 4) (v := .int f4) (ty := .int) (C := RX4) (T := TX4) (N := 5) hx hb hts uX4_unpack_X4 tyX4 tyX4_ok nmX4 hown hK hP hD hS 0 rfl rfl 3 (by decide) (hts (.fieldLink RX4 21 "SpeaksForTheChair$Standing" "out" "I") (List.mem_of_getElem? (i := 6) rfl)) (fun _ h9 => h9) rfl (by decide +kernel) rfl rfl (Nat.le_of_ble_eq_true rfl) dX4_unpack_46 (fun H locs hP hD hS => ?_)
  have hP : va_P D vwCl [(h, .inr (4, [.int f1, .int f2, .int f3, .int f4, .int h_coins]))] H := hP
  have hD : va_D A [(h, .inr (4, [.int f1, .int f2, .int f3, .int f4, .int h_coins]))] := hD
  refine lv_aload_n hx hb dX4_unpack_49 rfl (lv_at hl 0 rfl) ?_
  refine lv_lload_n hx hb dX4_unpack_50 rfl (lv_at hl 1 rfl) ?_
  refine lv_bipush (v := 48) hx hb dX4_unpack_51 (by decide) ?_
  refine lv_lshr hx hb dX4_unpack_53 rfl ?_
  refine lv_l2i hx hb dX4_unpack_54 rfl ?_
  refine lv_topi (fun f5 ef5 => ?_)
  have hf := pv_eq ef5 hf
  refine va_put (D := D) (ci := 4) (v := .int f5) (ty := .int) (C := RX4) (T := TX4) (N := 5) hx hb hts uX4_unpack_X4 tyX4 tyX4_ok nmX4 hown hK hP hD hS 0 rfl rfl 4 (by decide) (hts (.fieldLink RX4 24 "SpeaksForTheChair$Standing" "coins" "I") (List.mem_of_getElem? (i := 7) rfl)) (fun _ h9 => h9) rfl (by decide +kernel) rfl rfl (Nat.le_of_ble_eq_true rfl) dX4_unpack_55 (fun H locs hP hD hS => ?_)
  have hP : va_P D vwCl [(h, .inr (4, [.int f1, .int f2, .int f3, .int f4, .int f5]))] H := hP
  have hD : va_D A [(h, .inr (4, [.int f1, .int f2, .int f3, .int f4, .int f5]))] := hD
  cases hf
  exact W.vret hx hb hr (fun t ht hW => ⟨⟨(), rfl, trivial, by rw [ht]; exact hP, va_K.moved hW.alike hK, hD⟩, hS.F ht⟩) hS.2.2 dX4_unpack_58
theorem uX5_undo_X2 : ∀ w ∈ wsX20, w ∈ wsX5_undo := fun w h => List.mem_cons_of_mem _ (List.mem_append_left _ (List.mem_append_right _ h))
theorem uX5_undo_X5 : ∀ w ∈ wsX50, w ∈ wsX5_undo := fun w h => List.mem_cons_of_mem _ (List.mem_append_left _ (List.mem_append_left _ (List.mem_append_right _ h)))
set_option maxHeartbeats 4000000 in
set_option maxRecDepth 100000 in
theorem c_X5_undo (l : Launch) (D : va_G) (cI cC cL cB : ClassId) (sz : Nat) (h : Nat) (h_page : Nat) (h_laid : Nat) (h_draft : Nat) (h_now : Nat) (h_trial : Nat) (h_past : Nat) (h_sightings : Nat) (h_kept : Nat) (h_told : Nat) (h_past_ring : Nat) (h_keptCount : Int32) (h_past_next : Int32) (h_past_depth : Int32) (h_past_ring_c : Nat → Int64) (h_now_rooms : Int32) (h_now_bought : Int32) (h_now_spoken : Int32) (h_now_out : Int32) (h_now_coins : Int32) (r : Int32) (o0 : Int32) (o1 : Int32) (o2 : Int32) (o3 : Int32) (o4 : Int32) (o5 : Int32) (o6 : Int32) (hf : m_X5_undo h_past_next h_past_depth h_past_ring_c h_now_rooms h_now_bought h_now_spoken h_now_out h_now_coins = some (r, o0, o1, o2, o3, o4, o5, o6)) : Met l yX5_undo wsX5_undo ({ frames := 2, cells := 0, slots := 0, locals := 41 }) (va_Pc [.ref h] (q_W D vwCl (tyL cI cC cL cB) [(h, .inr (5, [.ref h_page, .ref h_laid, .ref h_draft, .ref h_now, .ref h_trial, .ref h_past, .ref h_sightings, .ref h_kept, .int h_keptCount, .ref h_told])), (h_past, .inr (2, [.ref h_past_ring, .int h_past_next, .int h_past_depth])), (h_past_ring, .inl (cL, 8, .inr (.inl h_past_ring_c))), (h_now, .inr (4, [.int h_now_rooms, .int h_now_bought, .int h_now_spoken, .int h_now_out, .int h_now_coins]))] sz)) (va_Qi (fun r' _ => r' = r) (q_E D vwCl (tyL cI cC cL cB) (va_A [(h, .inr (5, [.ref h_page, .ref h_laid, .ref h_draft, .ref h_now, .ref h_trial, .ref h_past, .ref h_sightings, .ref h_kept, .int h_keptCount, .ref h_told])), (h_past, .inr (2, [.ref h_past_ring, .int h_past_next, .int h_past_depth])), (h_past_ring, .inl (cL, 8, .inr (.inl h_past_ring_c))), (h_now, .inr (4, [.int h_now_rooms, .int h_now_bought, .int h_now_spoken, .int h_now_out, .int h_now_coins]))] sz) [(h, .inr (5, [.ref h_page, .ref h_laid, .ref h_draft, .ref h_now, .ref h_trial, .ref h_past, .ref h_sightings, .ref h_kept, .int h_keptCount, .ref h_told])), (h_past, .inr (2, [.ref h_past_ring, .int o0, .int o1])), (h_past_ring, .inl (cL, 8, .inr (.inl h_past_ring_c))), (h_now, .inr (4, [.int o2, .int o3, .int o4, .int o5, .int o6]))]) (va_A [(h, .inr (5, [.ref h_page, .ref h_laid, .ref h_draft, .ref h_now, .ref h_trial, .ref h_past, .ref h_sightings, .ref h_kept, .int h_keptCount, .ref h_told])), (h_past, .inr (2, [.ref h_past_ring, .int h_past_next, .int h_past_depth])), (h_past_ring, .inl (cL, 8, .inr (.inl h_past_ring_c))), (h_now, .inr (4, [.int h_now_rooms, .int h_now_bought, .int h_now_spoken, .int h_now_out, .int h_now_coins]))] sz)) 0 0 (va_A [(h, .inr (5, [.ref h_page, .ref h_laid, .ref h_draft, .ref h_now, .ref h_trial, .ref h_past, .ref h_sightings, .ref h_kept, .int h_keptCount, .ref h_told])), (h_past, .inr (2, [.ref h_past_ring, .int h_past_next, .int h_past_depth])), (h_past_ring, .inl (cL, 8, .inr (.inl h_past_ring_c))), (h_now, .inr (4, [.int h_now_rooms, .int h_now_bought, .int h_now_spoken, .int h_now_out, .int h_now_coins]))] sz) := by
  refine Met.ofW (cc := cX5_undo) (maxL := 1) (ret := (some .int)) (by decide) rfl ?_
  intro p e s m args below meth c s₁ B hml hv
  obtain ⟨rfl, hsz, hP, hK, hD0⟩ := hv
  have hx := B.exec
  have hb := B.bytes
  have hr := B.returns
  have hts := atoms_spec (ws := wsX5_undo) B.pre
  have hown : s.vm.findClass RX5 = some m.cls := findClass_of_methodNamed B.named
  have hlocks := B.notSynchronized
  subst hsz
  have hD := hD0.self (sz := s.heap.size)
  generalize hAe : va_A [(h, .inr (5, [.ref h_page, .ref h_laid, .ref h_draft, .ref h_now, .ref h_trial, .ref h_past, .ref h_sightings, .ref h_kept, .int h_keptCount, .ref h_told])), (h_past, .inr (2, [.ref h_past_ring, .int h_past_next, .int h_past_depth])), (h_past_ring, .inl (cL, 8, .inr (.inl h_past_ring_c))), (h_now, .inr (4, [.int h_now_rooms, .int h_now_bought, .int h_now_spoken, .int h_now_out, .int h_now_coins]))] s.heap.size = A at hD ⊢
  have hA : ∀ q : Nat, s.heap.size ≤ q → A q := fun q h => by rw [← hAe]; exact Or.inr h
  have hS : va_S A s.heap s.heap [] := va_S.rf
  have hP : va_P D vwCl [(h, .inr (5, [.ref h_page, .ref h_laid, .ref h_draft, .ref h_now, .ref h_trial, .ref h_past, .ref h_sightings, .ref h_kept, .int h_keptCount, .ref h_told])), (h_past, .inr (2, [.ref h_past_ring, .int h_past_next, .int h_past_depth])), (h_past_ring, .inl (cL, 8, .inr (.inl h_past_ring_c))), (h_now, .inr (4, [.int h_now_rooms, .int h_now_bought, .int h_now_spoken, .int h_now_out, .int h_now_coins]))] s.heap := hP
  have hl := lv_entry ([.ref h]) (n := 1) (Nat.le_of_ble_eq_true rfl)
  rw [lg_entry_eq]
  generalize (lg_sl ([.ref h]) ++ List.replicate (1 - (lg_sl ([.ref h])).length) Slot.unset).toArray = ls at hl ⊢
  have hl : lv_has ls 1 [(0, .ref h)] := hl
  unfold m_X5_undo at hf
  refine lv_aload_n hx hb dX5_undo_0 rfl (lv_at hl 0 rfl) ?_
  refine va_get (D := D) (ci := 5) (v := .ref h_past) (C := RX5) (T := TX5) (N := 10) hx hb hts uX5_undo_X5 hown hK hP 0 rfl rfl 5 (by decide) (hts (.fieldLink RX5 39 "SpeaksForTheChair" "past" "LSpeaksForTheChair$Past;") (List.mem_of_getElem? (i := 1) rfl)) (fun _ h9 => h9) rfl dX5_undo_1 ?_
  refine va_get (D := D) (ci := 2) (v := .int h_past_depth) (C := RX2) (T := TX2) (N := 3) hx hb hts uX5_undo_X2 hown hK hP 1 rfl rfl 2 (by decide) (hts (.fieldLink RX5 176 "SpeaksForTheChair$Past" "depth" "I") (List.mem_of_getElem? (i := 2) rfl)) (fun _ h9 => h9) rfl dX5_undo_4 ?_
  refine lv_if_ne (tgt := 13) hx hb dX5_undo_7 (by decide) (fun c_1 => ?_) (fun c_1 => ?_)
  · have hf := im c_1 hf
    refine lv_aload_n hx hb dX5_undo_13 rfl (lv_at hl 0 rfl) ?_
    refine va_get (D := D) (ci := 5) (v := .ref h_now) (C := RX5) (T := TX5) (N := 10) hx hb hts uX5_undo_X5 hown hK hP 0 rfl rfl 3 (by decide) (hts (.fieldLink RX5 29 "SpeaksForTheChair" "now" "LSpeaksForTheChair$Standing;") (List.mem_of_getElem? (i := 3) rfl)) (fun _ h9 => h9) rfl dX5_undo_14 ?_
    refine lv_aload_n hx hb dX5_undo_17 rfl (lv_at hl 0 rfl) ?_
    refine va_get (D := D) (ci := 5) (v := .ref h_past) (C := RX5) (T := TX5) (N := 10) hx hb hts uX5_undo_X5 hown hK hP 0 rfl rfl 5 (by decide) (hts (.fieldLink RX5 39 "SpeaksForTheChair" "past" "LSpeaksForTheChair$Past;") (List.mem_of_getElem? (i := 1) rfl)) (fun _ h9 => h9) rfl dX5_undo_18 ?_
    obtain ⟨x1, f2, f3, hv_2, hf⟩ := ob3_some hf
    refine q_wVl (As := []) (rest := [.ref h_now]) (r := x1) (w1 := [(h_past, .inr (2, [.ref h_past_ring, .int f2, .int f3])), (h_past_ring, .inl (cL, 8, .inr (.inl h_past_ring_c)))]) (wr := [(h, .inr (5, [.ref h_page, .ref h_laid, .ref h_draft, .ref h_now, .ref h_trial, .ref h_past, .ref h_sightings, .ref h_kept, .int h_keptCount, .ref h_told])), (h_now, .inr (4, [.int h_now_rooms, .int h_now_bought, .int h_now_spoken, .int h_now_out, .int h_now_coins]))]) (w2 := [(h, .inr (5, [.ref h_page, .ref h_laid, .ref h_draft, .ref h_now, .ref h_trial, .ref h_past, .ref h_sightings, .ref h_kept, .int h_keptCount, .ref h_told])), (h_past, .inr (2, [.ref h_past_ring, .int f2, .int f3])), (h_past_ring, .inl (cL, 8, .inr (.inl h_past_ring_c))), (h_now, .inr (4, [.int h_now_rooms, .int h_now_bought, .int h_now_spoken, .int h_now_out, .int h_now_coins]))]) ⟨hx, hb, hml, hown, hts⟩ (c_X2_pop l D cI cC cL cB s.heap.size h_past h_past_ring h_past_next h_past_depth h_past_ring_c x1 f2 f3 hv_2) (cwV 0 hts gX5_undo_X2_pop rfl rfl rfl (by decide +kernel) ⟨Nat.le_of_ble_eq_true rfl, Nat.le_of_ble_eq_true rfl⟩) hK hP hD hS hA [1, 2] rfl (by decide) [0, 3] rfl (by decide) (by decide) [0, 2, 3, 1] rfl (by decide) (va_recv hK hP (ci := 2) (q0 := 1) rfl rfl) rfl hl.1 rfl (Nat.le_of_ble_eq_true rfl) dX5_undo_21 ⟨Nat.le_of_ble_eq_true rfl, Nat.le_of_ble_eq_true rfl⟩ (fun H locs hP hD hS => ?_)
    have hP : va_P D vwCl [(h, .inr (5, [.ref h_page, .ref h_laid, .ref h_draft, .ref h_now, .ref h_trial, .ref h_past, .ref h_sightings, .ref h_kept, .int h_keptCount, .ref h_told])), (h_past, .inr (2, [.ref h_past_ring, .int f2, .int f3])), (h_past_ring, .inl (cL, 8, .inr (.inl h_past_ring_c))), (h_now, .inr (4, [.int h_now_rooms, .int h_now_bought, .int h_now_spoken, .int h_now_out, .int h_now_coins]))] H := hP
    have hD : va_D A [(h, .inr (5, [.ref h_page, .ref h_laid, .ref h_draft, .ref h_now, .ref h_trial, .ref h_past, .ref h_sightings, .ref h_kept, .int h_keptCount, .ref h_told])), (h_past, .inr (2, [.ref h_past_ring, .int f2, .int f3])), (h_past_ring, .inl (cL, 8, .inr (.inl h_past_ring_c))), (h_now, .inr (4, [.int h_now_rooms, .int h_now_bought, .int h_now_spoken, .int h_now_out, .int h_now_coins]))] := hD
    obtain ⟨f4, f5, f6, f7, f8, hv_3, hf⟩ := ob5_some hf
    refine q_wVv (As := [.long x1]) (rest := []) (w1 := [(h_now, .inr (4, [.int f4, .int f5, .int f6, .int f7, .int f8]))]) (wr := [(h, .inr (5, [.ref h_page, .ref h_laid, .ref h_draft, .ref h_now, .ref h_trial, .ref h_past, .ref h_sightings, .ref h_kept, .int h_keptCount, .ref h_told])), (h_past, .inr (2, [.ref h_past_ring, .int f2, .int f3])), (h_past_ring, .inl (cL, 8, .inr (.inl h_past_ring_c)))]) (w2 := [(h, .inr (5, [.ref h_page, .ref h_laid, .ref h_draft, .ref h_now, .ref h_trial, .ref h_past, .ref h_sightings, .ref h_kept, .int h_keptCount, .ref h_told])), (h_past, .inr (2, [.ref h_past_ring, .int f2, .int f3])), (h_past_ring, .inl (cL, 8, .inr (.inl h_past_ring_c))), (h_now, .inr (4, [.int f4, .int f5, .int f6, .int f7, .int f8]))]) ⟨hx, hb, hml, hown, hts⟩ (c_X4_unpack l D cI cC cL cB H.size h_now x1 h_now_rooms h_now_bought h_now_spoken h_now_out h_now_coins f4 f5 f6 f7 f8 hv_3) (cwV 1 hts gX5_undo_X4_unpack rfl rfl rfl (by decide +kernel) ⟨Nat.le_of_ble_eq_true rfl, Nat.le_of_ble_eq_true rfl⟩) hK hP hD hS hA [3] rfl (by decide) [0, 1, 2] rfl (by decide) (by decide) [0, 1, 2, 3] rfl (by decide) (va_recv hK hP (ci := 4) (q0 := 3) rfl rfl) rfl hl.1 rfl (Nat.le_of_ble_eq_true rfl) dX5_undo_24 ⟨Nat.le_of_ble_eq_true rfl, Nat.le_of_ble_eq_true rfl⟩ (fun H locs hP hD hS => ?_)
    have hP : va_P D vwCl [(h, .inr (5, [.ref h_page, .ref h_laid, .ref h_draft, .ref h_now, .ref h_trial, .ref h_past, .ref h_sightings, .ref h_kept, .int h_keptCount, .ref h_told])), (h_past, .inr (2, [.ref h_past_ring, .int f2, .int f3])), (h_past_ring, .inl (cL, 8, .inr (.inl h_past_ring_c))), (h_now, .inr (4, [.int f4, .int f5, .int f6, .int f7, .int f8]))] H := hP
    have hD : va_D A [(h, .inr (5, [.ref h_page, .ref h_laid, .ref h_draft, .ref h_now, .ref h_trial, .ref h_past, .ref h_sightings, .ref h_kept, .int h_keptCount, .ref h_told])), (h_past, .inr (2, [.ref h_past_ring, .int f2, .int f3])), (h_past_ring, .inl (cL, 8, .inr (.inl h_past_ring_c))), (h_now, .inr (4, [.int f4, .int f5, .int f6, .int f7, .int f8]))] := hD
    refine lv_aload_n hx hb dX5_undo_27 rfl (lv_at hl 0 rfl) ?_
    refine va_get (D := D) (ci := 5) (v := .ref h_past) (C := RX5) (T := TX5) (N := 10) hx hb hts uX5_undo_X5 hown hK hP 0 rfl rfl 5 (by decide) (hts (.fieldLink RX5 39 "SpeaksForTheChair" "past" "LSpeaksForTheChair$Past;") (List.mem_of_getElem? (i := 1) rfl)) (fun _ h9 => h9) rfl dX5_undo_28 ?_
    refine va_get (D := D) (ci := 2) (v := .int f3) (C := RX2) (T := TX2) (N := 3) hx hb hts uX5_undo_X2 hown hK hP 1 rfl rfl 2 (by decide) (hts (.fieldLink RX5 176 "SpeaksForTheChair$Past" "depth" "I") (List.mem_of_getElem? (i := 2) rfl)) (fun _ h9 => h9) rfl dX5_undo_31 ?_
    cases hf
    exact W.iret hx hb hr (fun t ht hW => ⟨⟨_, (), rfl, rfl, by rw [ht]; exact hP, va_K.moved hW.alike hK, hD⟩, hS.F ht⟩) hS.2.2 dX5_undo_34
  · have hf := ip c_1 hf
    refine lv_bipush (v := (-2)) hx hb dX5_undo_10 (by decide) ?_
    cases hf
    exact W.iret hx hb hr (fun t ht hW => ⟨⟨_, (), rfl, rfl, by rw [ht]; exact hP, va_K.moved hW.alike hK, hD⟩, hS.F ht⟩) hS.2.2 dX5_undo_12
theorem uX0_priceOf_X0 : ∀ w ∈ wsX00, w ∈ wsX0_priceOf := fun w h => List.mem_cons_of_mem _ (List.mem_append_right _ h)
set_option maxHeartbeats 4000000 in
set_option maxRecDepth 100000 in
theorem c_X0_priceOf (l : Launch) (D : va_G) (cI cC cL cB : ClassId) (h : Nat) (h_kinds : Nat) (h_prices : Nat) (h_persons : Nat) (h_places : Nat) (h_hours : Nat) (h_weights : Nat) (h_numbers : Nat) (a1 : Int32) (h_pieces : Int32) (h_roomsAtFirst : Int32) (h_deeds : Int32) (h_coins : Int32) (h_law : Int32) (h_prices_c : Nat → Int32) (r : Int32) (hf : m_X0_priceOf a1 h_pieces h_prices_c = some r) : Met l yX0_priceOf wsX0_priceOf ({ frames := 0, cells := 0, slots := 0, locals := 0 }) (va_Pc [.ref h, .int a1] (q_R D vwCl (tyL cI cC cL cB) [(h, .inr (0, [.int h_pieces, .ref h_kinds, .ref h_prices, .int h_roomsAtFirst, .int h_deeds, .ref h_persons, .ref h_places, .ref h_hours, .ref h_weights, .int h_coins, .int h_law, .ref h_numbers])), (h_prices, .inl (cI, 8, .inl h_prices_c))])) (vp_Si (fun r' => r' = r)) 0 0 (fun _ => False) := by
  refine Met.ofW (cc := cX0_priceOf) (maxL := 4) (ret := (some .int)) (by decide) rfl ?_
  intro p e s m args below meth c s₁ B hml hv
  obtain ⟨rfl, hP, hK⟩ := hv
  have hx := B.exec
  have hb := B.bytes
  have hr := B.returns
  have hts := atoms_spec (ws := wsX0_priceOf) B.pre
  have hown : s.vm.findClass RX0 = some m.cls := findClass_of_methodNamed B.named
  have hlocks := B.notSynchronized
  have hl := lv_entry ([.ref h, .int a1]) (n := 4) (Nat.le_of_ble_eq_true rfl)
  rw [lg_entry_eq]
  generalize (lg_sl ([.ref h, .int a1]) ++ List.replicate (4 - (lg_sl ([.ref h, .int a1])).length) Slot.unset).toArray = ls at hl ⊢
  have hl : lv_has ls 4 [(0, .ref h), (1, .int a1)] := hl
  unfold m_X0_priceOf at hf
  refine lv_iconst (v := 0) hx hb dX0_priceOf_0 (by decide) ?_
  refine lv_istore_n (lv' := [(2, .int 0), (0, .ref h), (1, .int a1)]) hx hb dX0_priceOf_1 rfl hl (by decide) rfl (fun ls hl => ?_)
  refine lv_iconst (v := 0) hx hb dX0_priceOf_2 (by decide) ?_
  refine lv_istore_n (lv' := [(3, .int 0), (2, .int 0), (0, .ref h), (1, .int a1)]) hx hb dX0_priceOf_3 rfl hl (by decide) rfl (fun ls hl => ?_)
  have loop4 : ∀ (n : Nat) (x1 : Int32) (x2 : Int32), ∀ (ls : Array Slot), lv_has ls 4 [(0, .ref h), (1, .int a1), (2, .int x1), (3, .int x2)] → ∀ (x3 : Int32), L_X0_priceOf_4 h_pieces a1 h_prices_c n x1 x2 = some x3 → (∀ (ls : Array Slot), lv_has ls 4 [(2, .int x3)] → W p l e (headSpec wsX0_priceOf ({ frames := 0, cells := 0, slots := 0, locals := 0 })).room s m ([.ref h, .int a1] : List Value).toArray below meth c s.heap [] 0 0 (MQ below (vp_Si (fun r' => r' = r)) ([.ref h, .int a1] : List Value).toArray s 0 0 (fun _ => False)) (F0 m 36 ls [])) → W p l e (headSpec wsX0_priceOf ({ frames := 0, cells := 0, slots := 0, locals := 0 })).room s m ([.ref h, .int a1] : List Value).toArray below meth c s.heap [] 0 0 (MQ below (vp_Si (fun r' => r' = r)) ([.ref h, .int a1] : List Value).toArray s 0 0 (fun _ => False)) (F0 m 4 ls []) := by
    intro n
    induction n with
    | zero =>
      intro x1 x2 ls hl x3 hf KX
      rw [L_X0_priceOf_4] at hf
      cases hf
    | succ n ih =>
      intro x1 x2 ls hl x3 hf KX
      rw [L_X0_priceOf_4] at hf
      refine lv_iload_n hx hb dX0_priceOf_4 rfl (lv_at hl 3 rfl) ?_
      refine lv_aload_n hx hb dX0_priceOf_5 rfl (lv_at hl 0 rfl) ?_
      refine va_get (D := D) (ci := 0) (v := .int h_pieces) (C := RX0) (T := TX0) (N := 12) hx hb hts uX0_priceOf_X0 hown hK hP 0 rfl rfl 0 (by decide) (hts (.fieldLink RX0 33 "SpeaksForTheChair$House" "pieces" "I") (List.mem_of_getElem? (i := 1) rfl)) (fun _ h9 => h9) rfl dX0_priceOf_6 ?_
      refine lv_icmp_ge (tgt := 36) hx hb dX0_priceOf_9 (by decide) (fun c_6 => ?_) (fun c_6 => ?_)
      · have hf := ip c_6 hf
        cases hf
        exact KX ls (lv_sub hl [2] rfl)
      · have hf := im c_6 hf
        refine lv_iload_n hx hb dX0_priceOf_12 rfl (lv_at hl 1 rfl) ?_
        refine lv_iload_n hx hb dX0_priceOf_13 rfl (lv_at hl 3 rfl) ?_
        refine lv_ishr hx hb dX0_priceOf_14 ?_
        refine lv_iconst (v := 1) hx hb dX0_priceOf_15 (by decide) ?_
        refine lv_iand hx hb dX0_priceOf_16 ?_
        refine lv_iconst (v := 1) hx hb dX0_priceOf_17 (by decide) ?_
        refine lv_icmp_ne (tgt := 30) hx hb dX0_priceOf_18 (by decide) (fun c_7 => ?_) (fun c_7 => ?_)
        · have hf := im c_7 hf
          obtain ⟨x4, ex4⟩ : ∃ y : Int32, y = (x2 + 1) := ⟨_, rfl⟩
          have hf := pv_eq ex4 hf
          refine lv_iinc (v := x4) (lv' := [(3, .int x4), (0, .ref h), (1, .int a1), (2, .int x1)]) hx hb dX0_priceOf_30 hl (k := 3) rfl (by rw [ex4]; rfl) (by decide) rfl (fun ls hl => ?_)
          refine lv_goto (tgt := 4) hx hb dX0_priceOf_33 (by decide) ?_
          exact ih _ _ ls (lv_sub hl [1, 2, 3, 0] rfl) _ hf KX
        · have hf := ip c_7 hf
          refine lv_iload_n hx hb dX0_priceOf_21 rfl (lv_at hl 2 rfl) ?_
          refine lv_aload_n hx hb dX0_priceOf_22 rfl (lv_at hl 0 rfl) ?_
          refine va_get (D := D) (ci := 0) (v := .ref h_prices) (C := RX0) (T := TX0) (N := 12) hx hb hts uX0_priceOf_X0 hown hK hP 0 rfl rfl 2 (by decide) (hts (.fieldLink RX0 15 "SpeaksForTheChair$House" "prices" "[I") (List.mem_of_getElem? (i := 2) rfl)) (fun _ h9 => h9) rfl dX0_priceOf_23 ?_
          refine lv_iload_n hx hb dX0_priceOf_26 rfl (lv_at hl 3 rfl) ?_
          obtain ⟨g_8, hf⟩ := gu_in hf
          refine va_iald hx hb hK hP 1 0 rfl rfl g_8 dX0_priceOf_27 ?_
          refine lv_iadd hx hb dX0_priceOf_28 ?_
          refine lv_topi (fun x5 ex5 => ?_)
          have hf := pv_eq ex5 hf
          refine lv_istore_n (lv' := [(2, .int x5), (0, .ref h), (1, .int a1), (3, .int x2)]) hx hb dX0_priceOf_29 rfl hl (by decide) rfl (fun ls hl => ?_)
          obtain ⟨x6, ex6⟩ : ∃ y : Int32, y = (x2 + 1) := ⟨_, rfl⟩
          have hf := pv_eq ex6 hf
          refine lv_iinc (v := x6) (lv' := [(3, .int x6), (2, .int x5), (0, .ref h), (1, .int a1)]) hx hb dX0_priceOf_30 hl (k := 3) rfl (by rw [ex6]; rfl) (by decide) rfl (fun ls hl => ?_)
          refine lv_goto (tgt := 4) hx hb dX0_priceOf_33 (by decide) ?_
          exact ih _ _ ls (lv_sub hl [2, 3, 1, 0] rfl) _ hf KX
  obtain ⟨x3, hr4, hf⟩ := ob1_some hf
  refine loop4 300 _ _ ls (lv_sub hl [2, 3, 1, 0] rfl) _ hr4 (fun ls hl => ?_)
  refine lv_iload_n hx hb dX0_priceOf_36 rfl (lv_at hl 0 rfl) ?_
  cases hf
  exact W.iret hx hb hr (fun t ht hW => ⟨_, rfl, rfl, ht⟩) (fun _ h => by cases h) dX0_priceOf_37
theorem uX5_silence_X5 : ∀ w ∈ wsX50, w ∈ wsX5_silence := fun w h => List.mem_cons_of_mem _ (List.mem_append_left _ (List.mem_append_left _ (List.mem_append_right _ h)))
set_option maxHeartbeats 4000000 in
set_option maxRecDepth 100000 in
theorem c_X5_silence (l : Launch) (D : va_G) (cI cC cL cB : ClassId) (h : Nat) (h_page : Nat) (h_laid : Nat) (h_draft : Nat) (h_now : Nat) (h_trial : Nat) (h_past : Nat) (h_sightings : Nat) (h_kept : Nat) (h_told : Nat) (h_laid_kinds : Nat) (h_laid_prices : Nat) (h_laid_persons : Nat) (h_laid_places : Nat) (h_laid_hours : Nat) (h_laid_weights : Nat) (h_laid_numbers : Nat) (a1 : Int32) (a2 : Int32) (h_keptCount : Int32) (h_laid_pieces : Int32) (h_laid_roomsAtFirst : Int32) (h_laid_deeds : Int32) (h_laid_coins : Int32) (h_laid_law : Int32) (h_now_rooms : Int32) (h_now_bought : Int32) (h_now_spoken : Int32) (h_now_out : Int32) (h_now_coins : Int32) (h_laid_kinds_c : Nat → Int32) (h_laid_places_c : Nat → Int32) (h_laid_hours_c : Nat → Int32) (h_laid_weights_c : Nat → Int32) (h_laid_prices_c : Nat → Int32) (r : Int32) (hf : m_X5_silence a1 a2 h_laid_pieces h_laid_deeds h_laid_law h_now_rooms h_now_bought h_now_spoken h_laid_kinds_c h_laid_places_c h_laid_hours_c h_laid_weights_c h_laid_prices_c = some r) : Met l yX5_silence wsX5_silence ({ frames := 4, cells := 0, slots := 0, locals := 98 }) (va_Pc [.ref h, .int a1, .int a2] (q_R D vwCl (tyL cI cC cL cB) [(h, .inr (5, [.ref h_page, .ref h_laid, .ref h_draft, .ref h_now, .ref h_trial, .ref h_past, .ref h_sightings, .ref h_kept, .int h_keptCount, .ref h_told])), (h_laid, .inr (0, [.int h_laid_pieces, .ref h_laid_kinds, .ref h_laid_prices, .int h_laid_roomsAtFirst, .int h_laid_deeds, .ref h_laid_persons, .ref h_laid_places, .ref h_laid_hours, .ref h_laid_weights, .int h_laid_coins, .int h_laid_law, .ref h_laid_numbers])), (h_now, .inr (4, [.int h_now_rooms, .int h_now_bought, .int h_now_spoken, .int h_now_out, .int h_now_coins])), (h_laid_kinds, .inl (cI, 8, .inl h_laid_kinds_c)), (h_laid_places, .inl (cI, 9, .inl h_laid_places_c)), (h_laid_hours, .inl (cI, 9, .inl h_laid_hours_c)), (h_laid_weights, .inl (cI, 9, .inl h_laid_weights_c)), (h_laid_prices, .inl (cI, 8, .inl h_laid_prices_c))])) (vp_Si (fun r' => r' = r)) 0 0 (fun _ => False) := by
  refine Met.ofW (cc := cX5_silence) (maxL := 4) (ret := (some .int)) (by decide) rfl ?_
  intro p e s m args below meth c s₁ B hml hv
  obtain ⟨rfl, hP, hK⟩ := hv
  have hx := B.exec
  have hb := B.bytes
  have hr := B.returns
  have hts := atoms_spec (ws := wsX5_silence) B.pre
  have hown : s.vm.findClass RX5 = some m.cls := findClass_of_methodNamed B.named
  have hlocks := B.notSynchronized
  have hl := lv_entry ([.ref h, .int a1, .int a2]) (n := 4) (Nat.le_of_ble_eq_true rfl)
  rw [lg_entry_eq]
  generalize (lg_sl ([.ref h, .int a1, .int a2]) ++ List.replicate (4 - (lg_sl ([.ref h, .int a1, .int a2])).length) Slot.unset).toArray = ls at hl ⊢
  have hl : lv_has ls 4 [(0, .ref h), (1, .int a1), (2, .int a2)] := hl
  unfold m_X5_silence at hf
  refine lv_aload_n hx hb dX5_silence_0 rfl (lv_at hl 0 rfl) ?_
  refine lv_iload_n hx hb dX5_silence_1 rfl (lv_at hl 1 rfl) ?_
  obtain ⟨x1, hv_1, hf⟩ := ob1_some hf
  refine q_rVi (As := [.int a1]) (rest := []) (r := x1) ⟨hx, hb, hml, hown, hts⟩ (c_X5_looseTellers l D cI cC cL cB h h_page h_laid h_draft h_now h_trial h_past h_sightings h_kept h_told h_laid_kinds h_laid_prices h_laid_persons h_laid_places h_laid_hours h_laid_weights h_laid_numbers a1 h_keptCount h_laid_pieces h_laid_roomsAtFirst h_laid_deeds h_laid_coins h_laid_law h_now_rooms h_now_bought h_now_spoken h_now_out h_now_coins h_laid_kinds_c h_laid_places_c h_laid_hours_c h_laid_weights_c x1 hv_1) (cwV 1 hts gX5_silence_X5_looseTellers rfl rfl rfl (by decide +kernel) ⟨Nat.le_of_ble_eq_true rfl, Nat.le_of_ble_eq_true rfl⟩) hK hP [0, 1, 2, 3, 4, 5, 6] rfl (va_recv hK hP (ci := 5) (q0 := 0) rfl rfl) rfl hl.1 rfl (Nat.le_of_ble_eq_true rfl) dX5_silence_2 ⟨Nat.le_of_ble_eq_true rfl, Nat.le_of_ble_eq_true rfl⟩ ?_
  refine lv_istore_n (lv' := [(3, .int x1), (0, .ref h), (1, .int a1), (2, .int a2)]) hx hb dX5_silence_5 rfl hl (by decide) rfl (fun ls hl => ?_)
  refine lv_iload_n hx hb dX5_silence_6 rfl (lv_at hl 3 rfl) ?_
  refine lv_if_ne (tgt := 21) hx hb dX5_silence_7 (by decide) (fun c_2 => ?_) (fun c_2 => ?_)
  · have hf := im c_2 hf
    refine lv_iload_n hx hb dX5_silence_21 rfl (lv_at hl 0 rfl) ?_
    cases hf
    exact W.iret hx hb hr (fun t ht hW => ⟨_, rfl, rfl, ht⟩) (fun _ h => by cases h) dX5_silence_22
  · have hf := ip c_2 hf
    refine lv_aload_n hx hb dX5_silence_10 rfl (lv_at hl 1 rfl) ?_
    refine va_get (D := D) (ci := 5) (v := .ref h_laid) (C := RX5) (T := TX5) (N := 10) hx hb hts uX5_silence_X5 hown hK hP 0 rfl rfl 1 (by decide) (hts (.fieldLink RX5 19 "SpeaksForTheChair" "laid" "LSpeaksForTheChair$House;") (List.mem_of_getElem? (i := 1) rfl)) (fun _ h9 => h9) rfl dX5_silence_11 ?_
    refine lv_iload_n hx hb dX5_silence_14 rfl (lv_at hl 0 rfl) ?_
    obtain ⟨x2, hv_3, hf⟩ := ob1_some hf
    refine q_rVi (As := [.int x1]) (rest := []) (r := x2) ⟨hx, hb, hml, hown, hts⟩ (c_X0_priceOf l D cI cC cL cB h_laid h_laid_kinds h_laid_prices h_laid_persons h_laid_places h_laid_hours h_laid_weights h_laid_numbers x1 h_laid_pieces h_laid_roomsAtFirst h_laid_deeds h_laid_coins h_laid_law h_laid_prices_c x2 hv_3) (cwV 1 hts gX5_silence_X0_priceOf rfl rfl rfl (by decide +kernel) ⟨Nat.le_of_ble_eq_true rfl, Nat.le_of_ble_eq_true rfl⟩) hK hP [1, 7] rfl (va_recv hK hP (ci := 0) (q0 := 1) rfl rfl) rfl hl.1 rfl (Nat.le_of_ble_eq_true rfl) dX5_silence_15 ⟨Nat.le_of_ble_eq_true rfl, Nat.le_of_ble_eq_true rfl⟩ ?_
    refine lv_goto (tgt := 22) hx hb dX5_silence_18 (by decide) ?_
    cases hf
    exact W.iret hx hb hr (fun t ht hW => ⟨_, rfl, rfl, ht⟩) (fun _ h => by cases h) dX5_silence_22
set_option maxHeartbeats 4000000 in
set_option maxRecDepth 100000 in
theorem c_X5_hush (l : Launch) (D : va_G) (cI cC cL cB : ClassId) (h : Nat) (h_page : Nat) (h_laid : Nat) (h_draft : Nat) (h_now : Nat) (h_trial : Nat) (h_past : Nat) (h_sightings : Nat) (h_kept : Nat) (h_told : Nat) (h_laid_kinds : Nat) (h_laid_prices : Nat) (h_laid_persons : Nat) (h_laid_places : Nat) (h_laid_hours : Nat) (h_laid_weights : Nat) (h_laid_numbers : Nat) (a1 : Int32) (a2 : Int32) (h_keptCount : Int32) (h_laid_pieces : Int32) (h_laid_roomsAtFirst : Int32) (h_laid_deeds : Int32) (h_laid_coins : Int32) (h_laid_law : Int32) (h_now_rooms : Int32) (h_now_bought : Int32) (h_now_spoken : Int32) (h_now_out : Int32) (h_now_coins : Int32) (h_laid_kinds_c : Nat → Int32) (h_laid_places_c : Nat → Int32) (h_laid_hours_c : Nat → Int32) (h_laid_weights_c : Nat → Int32) (h_laid_prices_c : Nat → Int32) (r : Int32) (hf : m_X5_hush a1 a2 h_laid_pieces h_laid_deeds h_laid_law h_now_rooms h_now_bought h_now_spoken h_now_out h_laid_kinds_c h_laid_places_c h_laid_hours_c h_laid_weights_c h_laid_prices_c = some r) : Met l yX5_hush wsX5_hush ({ frames := 5, cells := 0, slots := 0, locals := 121 }) (va_Pc [.ref h, .int a1, .int a2] (q_R D vwCl (tyL cI cC cL cB) [(h, .inr (5, [.ref h_page, .ref h_laid, .ref h_draft, .ref h_now, .ref h_trial, .ref h_past, .ref h_sightings, .ref h_kept, .int h_keptCount, .ref h_told])), (h_laid, .inr (0, [.int h_laid_pieces, .ref h_laid_kinds, .ref h_laid_prices, .int h_laid_roomsAtFirst, .int h_laid_deeds, .ref h_laid_persons, .ref h_laid_places, .ref h_laid_hours, .ref h_laid_weights, .int h_laid_coins, .int h_laid_law, .ref h_laid_numbers])), (h_now, .inr (4, [.int h_now_rooms, .int h_now_bought, .int h_now_spoken, .int h_now_out, .int h_now_coins])), (h_laid_kinds, .inl (cI, 8, .inl h_laid_kinds_c)), (h_laid_places, .inl (cI, 9, .inl h_laid_places_c)), (h_laid_hours, .inl (cI, 9, .inl h_laid_hours_c)), (h_laid_weights, .inl (cI, 9, .inl h_laid_weights_c)), (h_laid_prices, .inl (cI, 8, .inl h_laid_prices_c))])) (vp_Si (fun r' => r' = r)) 0 0 (fun _ => False) := by
  refine Met.ofW (cc := cX5_hush) (maxL := 3) (ret := (some .int)) (by decide) rfl ?_
  intro p e s m args below meth c s₁ B hml hv
  obtain ⟨rfl, hP, hK⟩ := hv
  have hx := B.exec
  have hb := B.bytes
  have hr := B.returns
  have hts := atoms_spec (ws := wsX5_hush) B.pre
  have hown : s.vm.findClass RX5 = some m.cls := findClass_of_methodNamed B.named
  have hlocks := B.notSynchronized
  have hl := lv_entry ([.ref h, .int a1, .int a2]) (n := 3) (Nat.le_of_ble_eq_true rfl)
  rw [lg_entry_eq]
  generalize (lg_sl ([.ref h, .int a1, .int a2]) ++ List.replicate (3 - (lg_sl ([.ref h, .int a1, .int a2])).length) Slot.unset).toArray = ls at hl ⊢
  have hl : lv_has ls 3 [(0, .ref h), (1, .int a1), (2, .int a2)] := hl
  unfold m_X5_hush at hf
  refine lv_aload_n hx hb dX5_hush_0 rfl (lv_at hl 0 rfl) ?_
  refine lv_iload_n hx hb dX5_hush_1 rfl (lv_at hl 1 rfl) ?_
  obtain ⟨x1, hv_1, hf⟩ := ob1_some hf
  refine q_rVi (As := [.int a1]) (rest := []) (r := x1) ⟨hx, hb, hml, hown, hts⟩ (c_X5_isDeed l D cI cC cL cB h h_page h_laid h_draft h_now h_trial h_past h_sightings h_kept h_told h_laid_kinds h_laid_prices h_laid_persons h_laid_places h_laid_hours h_laid_weights h_laid_numbers a1 h_keptCount h_laid_pieces h_laid_roomsAtFirst h_laid_deeds h_laid_coins h_laid_law x1 hv_1) (cwV 1 hts gX5_hush_X5_isDeed rfl rfl rfl (by decide +kernel) ⟨Nat.le_of_ble_eq_true rfl, Nat.le_of_ble_eq_true rfl⟩) hK hP [0, 1] rfl (va_recv hK hP (ci := 5) (q0 := 0) rfl rfl) rfl hl.1 rfl (Nat.le_of_ble_eq_true rfl) dX5_hush_2 ⟨Nat.le_of_ble_eq_true rfl, Nat.le_of_ble_eq_true rfl⟩ ?_
  refine lv_if_eq (tgt := 17) hx hb dX5_hush_5 (by decide) (fun c_2 => ?_) (fun c_2 => ?_)
  · have hf := ip c_2 hf
    refine lv_iconst (v := (-1)) hx hb dX5_hush_17 (by decide) ?_
    cases hf
    exact W.iret hx hb hr (fun t ht hW => ⟨_, rfl, rfl, ht⟩) (fun _ h => by cases h) dX5_hush_18
  · have hf := im c_2 hf
    refine lv_iload_n hx hb dX5_hush_8 rfl (lv_at hl 2 rfl) ?_
    refine lv_iconst (v := 0) hx hb dX5_hush_9 (by decide) ?_
    refine lv_iconst (v := 1) hx hb dX5_hush_10 (by decide) ?_
    obtain ⟨x2, hv_3, hf⟩ := ob1_some hf
    refine q_rSi (As := [.int a2, .int 0, .int 1]) (rest := []) (r := x2) ⟨hx, hb, hml, hown, hts⟩ (c_X5_isWithin l D cI cC cL cB a2 ((0 : Int32)) ((1 : Int32)) x2 hv_3) (va_cwS 3 hts gX5_hush_X5_isWithin rfl rfl rfl (by decide +kernel) ⟨Nat.le_of_ble_eq_true rfl, Nat.le_of_ble_eq_true rfl⟩) hK hP [] rfl rfl hl.1 rfl (Nat.le_of_ble_eq_true rfl) dX5_hush_11 ⟨Nat.le_of_ble_eq_true rfl, Nat.le_of_ble_eq_true rfl⟩ ?_
    refine lv_if_ne (tgt := 19) hx hb dX5_hush_14 (by decide) (fun c_4 => ?_) (fun c_4 => ?_)
    · have hf := im c_4 hf
      refine lv_aload_n hx hb dX5_hush_19 rfl (lv_at hl 0 rfl) ?_
      refine lv_iload_n hx hb dX5_hush_20 rfl (lv_at hl 1 rfl) ?_
      obtain ⟨x3, hv_5, hf⟩ := ob1_some hf
      refine q_rVi (As := [.int a1]) (rest := []) (r := x3) ⟨hx, hb, hml, hown, hts⟩ (c_X5_hasComeOut l D cI cC cL cB h h_page h_laid h_draft h_now h_trial h_past h_sightings h_kept h_told a1 h_keptCount h_now_rooms h_now_bought h_now_spoken h_now_out h_now_coins x3 hv_5) (cwV 1 hts gX5_hush_X5_hasComeOut rfl rfl rfl (by decide +kernel) ⟨Nat.le_of_ble_eq_true rfl, Nat.le_of_ble_eq_true rfl⟩) hK hP [0, 2] rfl (va_recv hK hP (ci := 5) (q0 := 0) rfl rfl) rfl hl.1 rfl (Nat.le_of_ble_eq_true rfl) dX5_hush_21 ⟨Nat.le_of_ble_eq_true rfl, Nat.le_of_ble_eq_true rfl⟩ ?_
      refine lv_if_eq (tgt := 30) hx hb dX5_hush_24 (by decide) (fun c_6 => ?_) (fun c_6 => ?_)
      · have hf := ip c_6 hf
        refine lv_aload_n hx hb dX5_hush_30 rfl (lv_at hl 0 rfl) ?_
        refine lv_iconst (v := 1) hx hb dX5_hush_31 (by decide) ?_
        refine lv_iload_n hx hb dX5_hush_32 rfl (lv_at hl 1 rfl) ?_
        refine lv_ishl hx hb dX5_hush_33 ?_
        refine lv_iload_n hx hb dX5_hush_34 rfl (lv_at hl 2 rfl) ?_
        obtain ⟨x4, hv_7, hf⟩ := ob1_some hf
        refine q_rVi (As := [.int ((1 : Int32) <<< (a1 &&& 31)), .int a2]) (rest := []) (r := x4) ⟨hx, hb, hml, hown, hts⟩ (c_X5_silence l D cI cC cL cB h h_page h_laid h_draft h_now h_trial h_past h_sightings h_kept h_told h_laid_kinds h_laid_prices h_laid_persons h_laid_places h_laid_hours h_laid_weights h_laid_numbers (((1 : Int32) <<< (a1 &&& 31))) a2 h_keptCount h_laid_pieces h_laid_roomsAtFirst h_laid_deeds h_laid_coins h_laid_law h_now_rooms h_now_bought h_now_spoken h_now_out h_now_coins h_laid_kinds_c h_laid_places_c h_laid_hours_c h_laid_weights_c h_laid_prices_c x4 hv_7) (cwV 2 hts gX5_hush_X5_silence rfl rfl rfl (by decide +kernel) ⟨Nat.le_of_ble_eq_true rfl, Nat.le_of_ble_eq_true rfl⟩) hK hP [0, 1, 2, 3, 4, 5, 6, 7] rfl (va_recv hK hP (ci := 5) (q0 := 0) rfl rfl) rfl hl.1 rfl (Nat.le_of_ble_eq_true rfl) dX5_hush_35 ⟨Nat.le_of_ble_eq_true rfl, Nat.le_of_ble_eq_true rfl⟩ ?_
        cases hf
        exact W.iret hx hb hr (fun t ht hW => ⟨_, rfl, rfl, ht⟩) (fun _ h => by cases h) dX5_hush_38
      · have hf := im c_6 hf
        refine lv_bipush (v := (-4)) hx hb dX5_hush_27 (by decide) ?_
        cases hf
        exact W.iret hx hb hr (fun t ht hW => ⟨_, rfl, rfl, ht⟩) (fun _ h => by cases h) dX5_hush_29
    · have hf := ip c_4 hf
      refine lv_iconst (v := (-1)) hx hb dX5_hush_17 (by decide) ?_
      cases hf
      exact W.iret hx hb hr (fun t ht hW => ⟨_, rfl, rfl, ht⟩) (fun _ h => by cases h) dX5_hush_18
theorem uX0_deedsAsHeavyAs_X0 : ∀ w ∈ wsX00, w ∈ wsX0_deedsAsHeavyAs := fun w h => List.mem_cons_of_mem _ (List.mem_append_right _ h)
set_option maxHeartbeats 4000000 in
set_option maxRecDepth 100000 in
theorem c_X0_deedsAsHeavyAs (l : Launch) (D : va_G) (cI cC cL cB : ClassId) (h : Nat) (h_kinds : Nat) (h_prices : Nat) (h_persons : Nat) (h_places : Nat) (h_hours : Nat) (h_weights : Nat) (h_numbers : Nat) (a1 : Int32) (h_pieces : Int32) (h_roomsAtFirst : Int32) (h_deeds : Int32) (h_coins : Int32) (h_law : Int32) (h_weights_c : Nat → Int32) (r : Int32) (hf : m_X0_deedsAsHeavyAs a1 h_deeds h_weights_c = some r) : Met l yX0_deedsAsHeavyAs wsX0_deedsAsHeavyAs ({ frames := 0, cells := 0, slots := 0, locals := 0 }) (va_Pc [.ref h, .int a1] (q_R D vwCl (tyL cI cC cL cB) [(h, .inr (0, [.int h_pieces, .ref h_kinds, .ref h_prices, .int h_roomsAtFirst, .int h_deeds, .ref h_persons, .ref h_places, .ref h_hours, .ref h_weights, .int h_coins, .int h_law, .ref h_numbers])), (h_weights, .inl (cI, 9, .inl h_weights_c))])) (vp_Si (fun r' => r' = r)) 0 0 (fun _ => False) := by
  refine Met.ofW (cc := cX0_deedsAsHeavyAs) (maxL := 4) (ret := (some .int)) (by decide) rfl ?_
  intro p e s m args below meth c s₁ B hml hv
  obtain ⟨rfl, hP, hK⟩ := hv
  have hx := B.exec
  have hb := B.bytes
  have hr := B.returns
  have hts := atoms_spec (ws := wsX0_deedsAsHeavyAs) B.pre
  have hown : s.vm.findClass RX0 = some m.cls := findClass_of_methodNamed B.named
  have hlocks := B.notSynchronized
  have hl := lv_entry ([.ref h, .int a1]) (n := 4) (Nat.le_of_ble_eq_true rfl)
  rw [lg_entry_eq]
  generalize (lg_sl ([.ref h, .int a1]) ++ List.replicate (4 - (lg_sl ([.ref h, .int a1])).length) Slot.unset).toArray = ls at hl ⊢
  have hl : lv_has ls 4 [(0, .ref h), (1, .int a1)] := hl
  unfold m_X0_deedsAsHeavyAs at hf
  refine lv_iconst (v := 0) hx hb dX0_deedsAsHeavyAs_0 (by decide) ?_
  refine lv_istore_n (lv' := [(2, .int 0), (0, .ref h), (1, .int a1)]) hx hb dX0_deedsAsHeavyAs_1 rfl hl (by decide) rfl (fun ls hl => ?_)
  refine lv_iconst (v := 0) hx hb dX0_deedsAsHeavyAs_2 (by decide) ?_
  refine lv_istore_n (lv' := [(3, .int 0), (2, .int 0), (0, .ref h), (1, .int a1)]) hx hb dX0_deedsAsHeavyAs_3 rfl hl (by decide) rfl (fun ls hl => ?_)
  have loop4 : ∀ (n : Nat) (x1 : Int32) (x2 : Int32), ∀ (ls : Array Slot), lv_has ls 4 [(0, .ref h), (1, .int a1), (2, .int x1), (3, .int x2)] → ∀ (x3 : Int32), L_X0_deedsAsHeavyAs_4 h_deeds h_weights_c a1 n x1 x2 = some x3 → (∀ (ls : Array Slot), lv_has ls 4 [(2, .int x3)] → W p l e (headSpec wsX0_deedsAsHeavyAs ({ frames := 0, cells := 0, slots := 0, locals := 0 })).room s m ([.ref h, .int a1] : List Value).toArray below meth c s.heap [] 0 0 (MQ below (vp_Si (fun r' => r' = r)) ([.ref h, .int a1] : List Value).toArray s 0 0 (fun _ => False)) (F0 m 34 ls [])) → W p l e (headSpec wsX0_deedsAsHeavyAs ({ frames := 0, cells := 0, slots := 0, locals := 0 })).room s m ([.ref h, .int a1] : List Value).toArray below meth c s.heap [] 0 0 (MQ below (vp_Si (fun r' => r' = r)) ([.ref h, .int a1] : List Value).toArray s 0 0 (fun _ => False)) (F0 m 4 ls []) := by
    intro n
    induction n with
    | zero =>
      intro x1 x2 ls hl x3 hf KX
      rw [L_X0_deedsAsHeavyAs_4] at hf
      cases hf
    | succ n ih =>
      intro x1 x2 ls hl x3 hf KX
      rw [L_X0_deedsAsHeavyAs_4] at hf
      refine lv_iload_n hx hb dX0_deedsAsHeavyAs_4 rfl (lv_at hl 3 rfl) ?_
      refine lv_aload_n hx hb dX0_deedsAsHeavyAs_5 rfl (lv_at hl 0 rfl) ?_
      refine va_get (D := D) (ci := 0) (v := .int h_deeds) (C := RX0) (T := TX0) (N := 12) hx hb hts uX0_deedsAsHeavyAs_X0 hown hK hP 0 rfl rfl 4 (by decide) (hts (.fieldLink RX0 37 "SpeaksForTheChair$House" "deeds" "I") (List.mem_of_getElem? (i := 1) rfl)) (fun _ h9 => h9) rfl dX0_deedsAsHeavyAs_6 ?_
      refine lv_icmp_ge (tgt := 34) hx hb dX0_deedsAsHeavyAs_9 (by decide) (fun c_6 => ?_) (fun c_6 => ?_)
      · have hf := ip c_6 hf
        cases hf
        exact KX ls (lv_sub hl [2] rfl)
      · have hf := im c_6 hf
        refine lv_aload_n hx hb dX0_deedsAsHeavyAs_12 rfl (lv_at hl 0 rfl) ?_
        refine va_get (D := D) (ci := 0) (v := .ref h_weights) (C := RX0) (T := TX0) (N := 12) hx hb hts uX0_deedsAsHeavyAs_X0 hown hK hP 0 rfl rfl 8 (by decide) (hts (.fieldLink RX0 27 "SpeaksForTheChair$House" "weights" "[I") (List.mem_of_getElem? (i := 2) rfl)) (fun _ h9 => h9) rfl dX0_deedsAsHeavyAs_13 ?_
        refine lv_iload_n hx hb dX0_deedsAsHeavyAs_16 rfl (lv_at hl 3 rfl) ?_
        obtain ⟨g_7, hf⟩ := gu_in hf
        refine va_iald hx hb hK hP 1 0 rfl rfl g_7 dX0_deedsAsHeavyAs_17 ?_
        refine lv_iload_n hx hb dX0_deedsAsHeavyAs_18 rfl (lv_at hl 1 rfl) ?_
        refine lv_icmp_lt (tgt := 28) hx hb dX0_deedsAsHeavyAs_19 (by decide) (fun c_8 => ?_) (fun c_8 => ?_)
        · have hf := ip c_8 hf
          obtain ⟨x4, ex4⟩ : ∃ y : Int32, y = (x2 + 1) := ⟨_, rfl⟩
          have hf := pv_eq ex4 hf
          refine lv_iinc (v := x4) (lv' := [(3, .int x4), (0, .ref h), (1, .int a1), (2, .int x1)]) hx hb dX0_deedsAsHeavyAs_28 hl (k := 3) rfl (by rw [ex4]; rfl) (by decide) rfl (fun ls hl => ?_)
          refine lv_goto (tgt := 4) hx hb dX0_deedsAsHeavyAs_31 (by decide) ?_
          exact ih _ _ ls (lv_sub hl [1, 2, 3, 0] rfl) _ hf KX
        · have hf := im c_8 hf
          refine lv_iload_n hx hb dX0_deedsAsHeavyAs_22 rfl (lv_at hl 2 rfl) ?_
          refine lv_iconst (v := 1) hx hb dX0_deedsAsHeavyAs_23 (by decide) ?_
          refine lv_iload_n hx hb dX0_deedsAsHeavyAs_24 rfl (lv_at hl 3 rfl) ?_
          refine lv_ishl hx hb dX0_deedsAsHeavyAs_25 ?_
          refine lv_ior hx hb dX0_deedsAsHeavyAs_26 ?_
          refine lv_topi (fun x5 ex5 => ?_)
          have hf := pv_eq ex5 hf
          refine lv_istore_n (lv' := [(2, .int x5), (0, .ref h), (1, .int a1), (3, .int x2)]) hx hb dX0_deedsAsHeavyAs_27 rfl hl (by decide) rfl (fun ls hl => ?_)
          obtain ⟨x6, ex6⟩ : ∃ y : Int32, y = (x2 + 1) := ⟨_, rfl⟩
          have hf := pv_eq ex6 hf
          refine lv_iinc (v := x6) (lv' := [(3, .int x6), (2, .int x5), (0, .ref h), (1, .int a1)]) hx hb dX0_deedsAsHeavyAs_28 hl (k := 3) rfl (by rw [ex6]; rfl) (by decide) rfl (fun ls hl => ?_)
          refine lv_goto (tgt := 4) hx hb dX0_deedsAsHeavyAs_31 (by decide) ?_
          exact ih _ _ ls (lv_sub hl [2, 3, 1, 0] rfl) _ hf KX
  obtain ⟨x3, hr4, hf⟩ := ob1_some hf
  refine loop4 300 _ _ ls (lv_sub hl [2, 3, 1, 0] rfl) _ hr4 (fun ls hl => ?_)
  refine lv_iload_n hx hb dX0_deedsAsHeavyAs_34 rfl (lv_at hl 0 rfl) ?_
  cases hf
  exact W.iret hx hb hr (fun t ht hW => ⟨_, rfl, rfl, ht⟩) (fun _ h => by cases h) dX0_deedsAsHeavyAs_35
theorem uX5_hushAll_X4 : ∀ w ∈ wsX40, w ∈ wsX5_hushAll := fun w h => List.mem_cons_of_mem _ (List.mem_append_left _ (List.mem_append_right _ h))
theorem uX5_hushAll_X5 : ∀ w ∈ wsX50, w ∈ wsX5_hushAll := fun w h => List.mem_cons_of_mem _ (List.mem_append_left _ (List.mem_append_left _ (List.mem_append_right _ h)))
set_option maxHeartbeats 4000000 in
set_option maxRecDepth 100000 in
theorem c_X5_hushAll (l : Launch) (D : va_G) (cI cC cL cB : ClassId) (h : Nat) (h_page : Nat) (h_laid : Nat) (h_draft : Nat) (h_now : Nat) (h_trial : Nat) (h_past : Nat) (h_sightings : Nat) (h_kept : Nat) (h_told : Nat) (h_laid_kinds : Nat) (h_laid_prices : Nat) (h_laid_persons : Nat) (h_laid_places : Nat) (h_laid_hours : Nat) (h_laid_weights : Nat) (h_laid_numbers : Nat) (a1 : Int32) (a2 : Int32) (h_keptCount : Int32) (h_laid_pieces : Int32) (h_laid_roomsAtFirst : Int32) (h_laid_deeds : Int32) (h_laid_coins : Int32) (h_laid_law : Int32) (h_laid_weights_c : Nat → Int32) (h_now_rooms : Int32) (h_now_bought : Int32) (h_now_spoken : Int32) (h_now_out : Int32) (h_now_coins : Int32) (h_laid_kinds_c : Nat → Int32) (h_laid_places_c : Nat → Int32) (h_laid_hours_c : Nat → Int32) (h_laid_prices_c : Nat → Int32) (r : Int32) (hf : m_X5_hushAll a1 a2 h_laid_pieces h_laid_deeds h_laid_law h_laid_weights_c h_now_rooms h_now_bought h_now_spoken h_now_out h_laid_kinds_c h_laid_places_c h_laid_hours_c h_laid_prices_c = some r) : Met l yX5_hushAll wsX5_hushAll ({ frames := 5, cells := 0, slots := 0, locals := 121 }) (va_Pc [.ref h, .int a1, .int a2] (q_R D vwCl (tyL cI cC cL cB) [(h, .inr (5, [.ref h_page, .ref h_laid, .ref h_draft, .ref h_now, .ref h_trial, .ref h_past, .ref h_sightings, .ref h_kept, .int h_keptCount, .ref h_told])), (h_laid, .inr (0, [.int h_laid_pieces, .ref h_laid_kinds, .ref h_laid_prices, .int h_laid_roomsAtFirst, .int h_laid_deeds, .ref h_laid_persons, .ref h_laid_places, .ref h_laid_hours, .ref h_laid_weights, .int h_laid_coins, .int h_laid_law, .ref h_laid_numbers])), (h_laid_weights, .inl (cI, 9, .inl h_laid_weights_c)), (h_now, .inr (4, [.int h_now_rooms, .int h_now_bought, .int h_now_spoken, .int h_now_out, .int h_now_coins])), (h_laid_kinds, .inl (cI, 8, .inl h_laid_kinds_c)), (h_laid_places, .inl (cI, 9, .inl h_laid_places_c)), (h_laid_hours, .inl (cI, 9, .inl h_laid_hours_c)), (h_laid_prices, .inl (cI, 8, .inl h_laid_prices_c))])) (vp_Si (fun r' => r' = r)) 0 0 (fun _ => False) := by
  refine Met.ofW (cc := cX5_hushAll) (maxL := 3) (ret := (some .int)) (by decide) rfl ?_
  intro p e s m args below meth c s₁ B hml hv
  obtain ⟨rfl, hP, hK⟩ := hv
  have hx := B.exec
  have hb := B.bytes
  have hr := B.returns
  have hts := atoms_spec (ws := wsX5_hushAll) B.pre
  have hown : s.vm.findClass RX5 = some m.cls := findClass_of_methodNamed B.named
  have hlocks := B.notSynchronized
  have hl := lv_entry ([.ref h, .int a1, .int a2]) (n := 3) (Nat.le_of_ble_eq_true rfl)
  rw [lg_entry_eq]
  generalize (lg_sl ([.ref h, .int a1, .int a2]) ++ List.replicate (3 - (lg_sl ([.ref h, .int a1, .int a2])).length) Slot.unset).toArray = ls at hl ⊢
  have hl : lv_has ls 3 [(0, .ref h), (1, .int a1), (2, .int a2)] := hl
  unfold m_X5_hushAll at hf
  refine lv_iload_n hx hb dX5_hushAll_0 rfl (lv_at hl 1 rfl) ?_
  refine lv_iconst (v := 1) hx hb dX5_hushAll_1 (by decide) ?_
  refine lv_bipush (v := 30) hx hb dX5_hushAll_2 (by decide) ?_
  obtain ⟨x1, hv_1, hf⟩ := ob1_some hf
  refine q_rSi (As := [.int a1, .int 1, .int 30]) (rest := []) (r := x1) ⟨hx, hb, hml, hown, hts⟩ (c_X5_isWithin l D cI cC cL cB a1 ((1 : Int32)) ((30 : Int32)) x1 hv_1) (va_cwS 3 hts gX5_hushAll_X5_isWithin rfl rfl rfl (by decide +kernel) ⟨Nat.le_of_ble_eq_true rfl, Nat.le_of_ble_eq_true rfl⟩) hK hP [] rfl rfl hl.1 rfl (Nat.le_of_ble_eq_true rfl) dX5_hushAll_4 ⟨Nat.le_of_ble_eq_true rfl, Nat.le_of_ble_eq_true rfl⟩ ?_
  refine lv_if_eq (tgt := 19) hx hb dX5_hushAll_7 (by decide) (fun c_2 => ?_) (fun c_2 => ?_)
  · have hf := ip c_2 hf
    refine lv_iconst (v := (-1)) hx hb dX5_hushAll_19 (by decide) ?_
    cases hf
    exact W.iret hx hb hr (fun t ht hW => ⟨_, rfl, rfl, ht⟩) (fun _ h => by cases h) dX5_hushAll_20
  · have hf := im c_2 hf
    refine lv_iload_n hx hb dX5_hushAll_10 rfl (lv_at hl 2 rfl) ?_
    refine lv_iconst (v := 0) hx hb dX5_hushAll_11 (by decide) ?_
    refine lv_iconst (v := 1) hx hb dX5_hushAll_12 (by decide) ?_
    obtain ⟨x2, hv_3, hf⟩ := ob1_some hf
    refine q_rSi (As := [.int a2, .int 0, .int 1]) (rest := []) (r := x2) ⟨hx, hb, hml, hown, hts⟩ (c_X5_isWithin l D cI cC cL cB a2 ((0 : Int32)) ((1 : Int32)) x2 hv_3) (va_cwS 3 hts gX5_hushAll_X5_isWithin rfl rfl rfl (by decide +kernel) ⟨Nat.le_of_ble_eq_true rfl, Nat.le_of_ble_eq_true rfl⟩) hK hP [] rfl rfl hl.1 rfl (Nat.le_of_ble_eq_true rfl) dX5_hushAll_13 ⟨Nat.le_of_ble_eq_true rfl, Nat.le_of_ble_eq_true rfl⟩ ?_
    refine lv_if_ne (tgt := 21) hx hb dX5_hushAll_16 (by decide) (fun c_4 => ?_) (fun c_4 => ?_)
    · have hf := im c_4 hf
      refine lv_aload_n hx hb dX5_hushAll_21 rfl (lv_at hl 0 rfl) ?_
      refine lv_aload_n hx hb dX5_hushAll_22 rfl (lv_at hl 0 rfl) ?_
      refine va_get (D := D) (ci := 5) (v := .ref h_laid) (C := RX5) (T := TX5) (N := 10) hx hb hts uX5_hushAll_X5 hown hK hP 0 rfl rfl 1 (by decide) (hts (.fieldLink RX5 19 "SpeaksForTheChair" "laid" "LSpeaksForTheChair$House;") (List.mem_of_getElem? (i := 1) rfl)) (fun _ h9 => h9) rfl dX5_hushAll_23 ?_
      refine lv_iload_n hx hb dX5_hushAll_26 rfl (lv_at hl 1 rfl) ?_
      obtain ⟨x3, hv_5, hf⟩ := ob1_some hf
      refine q_rVi (As := [.int a1]) (rest := [.ref h]) (r := x3) ⟨hx, hb, hml, hown, hts⟩ (c_X0_deedsAsHeavyAs l D cI cC cL cB h_laid h_laid_kinds h_laid_prices h_laid_persons h_laid_places h_laid_hours h_laid_weights h_laid_numbers a1 h_laid_pieces h_laid_roomsAtFirst h_laid_deeds h_laid_coins h_laid_law h_laid_weights_c x3 hv_5) (cwV 1 hts gX5_hushAll_X0_deedsAsHeavyAs rfl rfl rfl (by decide +kernel) ⟨Nat.le_of_ble_eq_true rfl, Nat.le_of_ble_eq_true rfl⟩) hK hP [1, 2] rfl (va_recv hK hP (ci := 0) (q0 := 1) rfl rfl) rfl hl.1 rfl (Nat.le_of_ble_eq_true rfl) dX5_hushAll_27 ⟨Nat.le_of_ble_eq_true rfl, Nat.le_of_ble_eq_true rfl⟩ ?_
      refine lv_aload_n hx hb dX5_hushAll_30 rfl (lv_at hl 0 rfl) ?_
      refine va_get (D := D) (ci := 5) (v := .ref h_now) (C := RX5) (T := TX5) (N := 10) hx hb hts uX5_hushAll_X5 hown hK hP 0 rfl rfl 3 (by decide) (hts (.fieldLink RX5 29 "SpeaksForTheChair" "now" "LSpeaksForTheChair$Standing;") (List.mem_of_getElem? (i := 2) rfl)) (fun _ h9 => h9) rfl dX5_hushAll_31 ?_
      refine va_get (D := D) (ci := 4) (v := .int h_now_out) (C := RX4) (T := TX4) (N := 5) hx hb hts uX5_hushAll_X4 hown hK hP 3 rfl rfl 3 (by decide) (hts (.fieldLink RX5 191 "SpeaksForTheChair$Standing" "out" "I") (List.mem_of_getElem? (i := 3) rfl)) (fun _ h9 => h9) rfl dX5_hushAll_34 ?_
      refine lv_iconst (v := (-1)) hx hb dX5_hushAll_37 (by decide) ?_
      refine lv_ixor hx hb dX5_hushAll_38 ?_
      refine lv_iand hx hb dX5_hushAll_39 ?_
      refine lv_iload_n hx hb dX5_hushAll_40 rfl (lv_at hl 2 rfl) ?_
      obtain ⟨x4, hv_6, hf⟩ := ob1_some hf
      refine q_rVi (As := [.int (x3 &&& (h_now_out ^^^ (-1))), .int a2]) (rest := []) (r := x4) ⟨hx, hb, hml, hown, hts⟩ (c_X5_silence l D cI cC cL cB h h_page h_laid h_draft h_now h_trial h_past h_sightings h_kept h_told h_laid_kinds h_laid_prices h_laid_persons h_laid_places h_laid_hours h_laid_weights h_laid_numbers ((x3 &&& (h_now_out ^^^ (-1)))) a2 h_keptCount h_laid_pieces h_laid_roomsAtFirst h_laid_deeds h_laid_coins h_laid_law h_now_rooms h_now_bought h_now_spoken h_now_out h_now_coins h_laid_kinds_c h_laid_places_c h_laid_hours_c h_laid_weights_c h_laid_prices_c x4 hv_6) (cwV 2 hts gX5_hushAll_X5_silence rfl rfl rfl (by decide +kernel) ⟨Nat.le_of_ble_eq_true rfl, Nat.le_of_ble_eq_true rfl⟩) hK hP [0, 1, 3, 4, 5, 6, 2, 7] rfl (va_recv hK hP (ci := 5) (q0 := 0) rfl rfl) rfl hl.1 rfl (Nat.le_of_ble_eq_true rfl) dX5_hushAll_41 ⟨Nat.le_of_ble_eq_true rfl, Nat.le_of_ble_eq_true rfl⟩ ?_
      cases hf
      exact W.iret hx hb hr (fun t ht hW => ⟨_, rfl, rfl, ht⟩) (fun _ h => by cases h) dX5_hushAll_44
    · have hf := ip c_4 hf
      refine lv_iconst (v := (-1)) hx hb dX5_hushAll_19 (by decide) ?_
      cases hf
      exact W.iret hx hb hr (fun t ht hW => ⟨_, rfl, rfl, ht⟩) (fun _ h => by cases h) dX5_hushAll_20
set_option maxHeartbeats 4000000 in
set_option maxRecDepth 100000 in
theorem c_X5_isPerson (l : Launch) (D : va_G) (cI cC cL cB : ClassId) (a1 : Int32) (r : Int32) (hf : m_X5_isPerson a1 = some r) : Met l yX5_isPerson wsX5_isPerson ({ frames := 1, cells := 0, slots := 0, locals := 22 }) (va_Pc [.int a1] (q_R D vwCl (tyL cI cC cL cB) [])) (vp_Si (fun r' => r' = r)) 0 0 (fun _ => False) := by
  refine Met.ofW (cc := cX5_isPerson) (maxL := 1) (ret := (some .boolean)) (by decide) rfl ?_
  intro p e s m args below meth c s₁ B hml hv
  obtain ⟨rfl, hP, hK⟩ := hv
  have hx := B.exec
  have hb := B.bytes
  have hr := B.returns
  have hts := atoms_spec (ws := wsX5_isPerson) B.pre
  have hown : s.vm.findClass RX5 = some m.cls := findClass_of_methodNamed B.named
  have hlocks := B.notSynchronized
  have hl := lv_entry ([.int a1]) (n := 1) (Nat.le_of_ble_eq_true rfl)
  rw [lg_entry_eq]
  generalize (lg_sl ([.int a1]) ++ List.replicate (1 - (lg_sl ([.int a1])).length) Slot.unset).toArray = ls at hl ⊢
  have hl : lv_has ls 1 [(0, .int a1)] := hl
  unfold m_X5_isPerson at hf
  refine lv_iload_n hx hb dX5_isPerson_0 rfl (lv_at hl 0 rfl) ?_
  refine lv_iconst (v := 0) hx hb dX5_isPerson_1 (by decide) ?_
  refine lv_iconst (v := 5) hx hb dX5_isPerson_2 (by decide) ?_
  obtain ⟨x1, hv_1, hf⟩ := ob1_some hf
  refine q_rSi (As := [.int a1, .int 0, .int 5]) (rest := []) (r := x1) ⟨hx, hb, hml, hown, hts⟩ (c_X5_isWithin l D cI cC cL cB a1 ((0 : Int32)) ((5 : Int32)) x1 hv_1) (va_cwS 3 hts gX5_isPerson_X5_isWithin rfl rfl rfl (by decide +kernel) ⟨Nat.le_of_ble_eq_true rfl, Nat.le_of_ble_eq_true rfl⟩) hK hP [] rfl rfl hl.1 rfl (Nat.le_of_ble_eq_true rfl) dX5_isPerson_3 ⟨Nat.le_of_ble_eq_true rfl, Nat.le_of_ble_eq_true rfl⟩ ?_
  obtain ⟨g_2, hf⟩ := gu_bool hf
  cases hf
  exact W.zret hx hb hr g_2 (fun t ht hW => ⟨_, rfl, rfl, ht⟩) (fun _ h => by cases h) dX5_isPerson_6
theorem uX0_deedsOf_X0 : ∀ w ∈ wsX00, w ∈ wsX0_deedsOf := fun w h => List.mem_cons_of_mem _ (List.mem_append_right _ h)
set_option maxHeartbeats 4000000 in
set_option maxRecDepth 100000 in
theorem c_X0_deedsOf (l : Launch) (D : va_G) (cI cC cL cB : ClassId) (h : Nat) (h_kinds : Nat) (h_prices : Nat) (h_persons : Nat) (h_places : Nat) (h_hours : Nat) (h_weights : Nat) (h_numbers : Nat) (a1 : Int32) (h_pieces : Int32) (h_roomsAtFirst : Int32) (h_deeds : Int32) (h_coins : Int32) (h_law : Int32) (h_persons_c : Nat → Int32) (r : Int32) (hf : m_X0_deedsOf a1 h_deeds h_persons_c = some r) : Met l yX0_deedsOf wsX0_deedsOf ({ frames := 0, cells := 0, slots := 0, locals := 0 }) (va_Pc [.ref h, .int a1] (q_R D vwCl (tyL cI cC cL cB) [(h, .inr (0, [.int h_pieces, .ref h_kinds, .ref h_prices, .int h_roomsAtFirst, .int h_deeds, .ref h_persons, .ref h_places, .ref h_hours, .ref h_weights, .int h_coins, .int h_law, .ref h_numbers])), (h_persons, .inl (cI, 9, .inl h_persons_c))])) (vp_Si (fun r' => r' = r)) 0 0 (fun _ => False) := by
  refine Met.ofW (cc := cX0_deedsOf) (maxL := 4) (ret := (some .int)) (by decide) rfl ?_
  intro p e s m args below meth c s₁ B hml hv
  obtain ⟨rfl, hP, hK⟩ := hv
  have hx := B.exec
  have hb := B.bytes
  have hr := B.returns
  have hts := atoms_spec (ws := wsX0_deedsOf) B.pre
  have hown : s.vm.findClass RX0 = some m.cls := findClass_of_methodNamed B.named
  have hlocks := B.notSynchronized
  have hl := lv_entry ([.ref h, .int a1]) (n := 4) (Nat.le_of_ble_eq_true rfl)
  rw [lg_entry_eq]
  generalize (lg_sl ([.ref h, .int a1]) ++ List.replicate (4 - (lg_sl ([.ref h, .int a1])).length) Slot.unset).toArray = ls at hl ⊢
  have hl : lv_has ls 4 [(0, .ref h), (1, .int a1)] := hl
  unfold m_X0_deedsOf at hf
  refine lv_iconst (v := 0) hx hb dX0_deedsOf_0 (by decide) ?_
  refine lv_istore_n (lv' := [(2, .int 0), (0, .ref h), (1, .int a1)]) hx hb dX0_deedsOf_1 rfl hl (by decide) rfl (fun ls hl => ?_)
  refine lv_iconst (v := 0) hx hb dX0_deedsOf_2 (by decide) ?_
  refine lv_istore_n (lv' := [(3, .int 0), (2, .int 0), (0, .ref h), (1, .int a1)]) hx hb dX0_deedsOf_3 rfl hl (by decide) rfl (fun ls hl => ?_)
  have loop4 : ∀ (n : Nat) (x1 : Int32) (x2 : Int32), ∀ (ls : Array Slot), lv_has ls 4 [(0, .ref h), (1, .int a1), (2, .int x1), (3, .int x2)] → ∀ (x3 : Int32), L_X0_deedsOf_4 h_deeds h_persons_c a1 n x1 x2 = some x3 → (∀ (ls : Array Slot), lv_has ls 4 [(2, .int x3)] → W p l e (headSpec wsX0_deedsOf ({ frames := 0, cells := 0, slots := 0, locals := 0 })).room s m ([.ref h, .int a1] : List Value).toArray below meth c s.heap [] 0 0 (MQ below (vp_Si (fun r' => r' = r)) ([.ref h, .int a1] : List Value).toArray s 0 0 (fun _ => False)) (F0 m 34 ls [])) → W p l e (headSpec wsX0_deedsOf ({ frames := 0, cells := 0, slots := 0, locals := 0 })).room s m ([.ref h, .int a1] : List Value).toArray below meth c s.heap [] 0 0 (MQ below (vp_Si (fun r' => r' = r)) ([.ref h, .int a1] : List Value).toArray s 0 0 (fun _ => False)) (F0 m 4 ls []) := by
    intro n
    induction n with
    | zero =>
      intro x1 x2 ls hl x3 hf KX
      rw [L_X0_deedsOf_4] at hf
      cases hf
    | succ n ih =>
      intro x1 x2 ls hl x3 hf KX
      rw [L_X0_deedsOf_4] at hf
      refine lv_iload_n hx hb dX0_deedsOf_4 rfl (lv_at hl 3 rfl) ?_
      refine lv_aload_n hx hb dX0_deedsOf_5 rfl (lv_at hl 0 rfl) ?_
      refine va_get (D := D) (ci := 0) (v := .int h_deeds) (C := RX0) (T := TX0) (N := 12) hx hb hts uX0_deedsOf_X0 hown hK hP 0 rfl rfl 4 (by decide) (hts (.fieldLink RX0 37 "SpeaksForTheChair$House" "deeds" "I") (List.mem_of_getElem? (i := 1) rfl)) (fun _ h9 => h9) rfl dX0_deedsOf_6 ?_
      refine lv_icmp_ge (tgt := 34) hx hb dX0_deedsOf_9 (by decide) (fun c_6 => ?_) (fun c_6 => ?_)
      · have hf := ip c_6 hf
        cases hf
        exact KX ls (lv_sub hl [2] rfl)
      · have hf := im c_6 hf
        refine lv_aload_n hx hb dX0_deedsOf_12 rfl (lv_at hl 0 rfl) ?_
        refine va_get (D := D) (ci := 0) (v := .ref h_persons) (C := RX0) (T := TX0) (N := 12) hx hb hts uX0_deedsOf_X0 hown hK hP 0 rfl rfl 5 (by decide) (hts (.fieldLink RX0 18 "SpeaksForTheChair$House" "persons" "[I") (List.mem_of_getElem? (i := 2) rfl)) (fun _ h9 => h9) rfl dX0_deedsOf_13 ?_
        refine lv_iload_n hx hb dX0_deedsOf_16 rfl (lv_at hl 3 rfl) ?_
        obtain ⟨g_7, hf⟩ := gu_in hf
        refine va_iald hx hb hK hP 1 0 rfl rfl g_7 dX0_deedsOf_17 ?_
        refine lv_iload_n hx hb dX0_deedsOf_18 rfl (lv_at hl 1 rfl) ?_
        refine lv_icmp_ne (tgt := 28) hx hb dX0_deedsOf_19 (by decide) (fun c_8 => ?_) (fun c_8 => ?_)
        · have hf := im c_8 hf
          obtain ⟨x4, ex4⟩ : ∃ y : Int32, y = (x2 + 1) := ⟨_, rfl⟩
          have hf := pv_eq ex4 hf
          refine lv_iinc (v := x4) (lv' := [(3, .int x4), (0, .ref h), (1, .int a1), (2, .int x1)]) hx hb dX0_deedsOf_28 hl (k := 3) rfl (by rw [ex4]; rfl) (by decide) rfl (fun ls hl => ?_)
          refine lv_goto (tgt := 4) hx hb dX0_deedsOf_31 (by decide) ?_
          exact ih _ _ ls (lv_sub hl [1, 2, 3, 0] rfl) _ hf KX
        · have hf := ip c_8 hf
          refine lv_iload_n hx hb dX0_deedsOf_22 rfl (lv_at hl 2 rfl) ?_
          refine lv_iconst (v := 1) hx hb dX0_deedsOf_23 (by decide) ?_
          refine lv_iload_n hx hb dX0_deedsOf_24 rfl (lv_at hl 3 rfl) ?_
          refine lv_ishl hx hb dX0_deedsOf_25 ?_
          refine lv_ior hx hb dX0_deedsOf_26 ?_
          refine lv_topi (fun x5 ex5 => ?_)
          have hf := pv_eq ex5 hf
          refine lv_istore_n (lv' := [(2, .int x5), (0, .ref h), (1, .int a1), (3, .int x2)]) hx hb dX0_deedsOf_27 rfl hl (by decide) rfl (fun ls hl => ?_)
          obtain ⟨x6, ex6⟩ : ∃ y : Int32, y = (x2 + 1) := ⟨_, rfl⟩
          have hf := pv_eq ex6 hf
          refine lv_iinc (v := x6) (lv' := [(3, .int x6), (2, .int x5), (0, .ref h), (1, .int a1)]) hx hb dX0_deedsOf_28 hl (k := 3) rfl (by rw [ex6]; rfl) (by decide) rfl (fun ls hl => ?_)
          refine lv_goto (tgt := 4) hx hb dX0_deedsOf_31 (by decide) ?_
          exact ih _ _ ls (lv_sub hl [2, 3, 1, 0] rfl) _ hf KX
  obtain ⟨x3, hr4, hf⟩ := ob1_some hf
  refine loop4 300 _ _ ls (lv_sub hl [2, 3, 1, 0] rfl) _ hr4 (fun ls hl => ?_)
  refine lv_iload_n hx hb dX0_deedsOf_34 rfl (lv_at hl 0 rfl) ?_
  cases hf
  exact W.iret hx hb hr (fun t ht hW => ⟨_, rfl, rfl, ht⟩) (fun _ h => by cases h) dX0_deedsOf_35
