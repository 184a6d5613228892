/-! THE CALLS, one after the other: the same answer, and the relation again: texts, what is seen, reads -/
theorem ob2_s {A B R : Type} (a : A) (b : B) (f : A → B → Option R) : ob2 (some (a, b)) f = f a b := rfl
theorem ob3_s {A B C R : Type} (a : A) (b : B) (c : C) (f : A → B → C → Option R) : ob3 (some (a, b, c)) f = f a b c := rfl
theorem ob5_s {A B C D E R : Type} (a : A) (b : B) (c : C) (d : D) (e : E) (f : A → B → C → D → E → Option R) : ob5 (some (a, b, c, d, e)) f = f a b c d e := rfl
theorem upd_s {f : Nat → Int32} {k : Nat} {x : Int32} : upd f k x k = x := if_pos rfl
theorem upd_n {f : Nat → Int32} {k j : Nat} {x : Int32} (h : j ≠ k) : upd f k x j = f j := if_neg h
theorem nar_c {v : Nat} (h : v < 65536) : vp_nar .char (((nI v).toUInt32 % 65536).toInt32) = nI v := by
  rw [pk_vc, pk_char, pz_tn (by omega), Nat.mod_eq_of_lt h]
theorem api_write {cpn mtn : Int32} {cpt mtx : Nat → Int32} (a1 : Int32) (hT : RT cpn cpt mtn mtx) : ∃ r cpn' cpt' mtn' mtx', m_X5_write a1 cpn cpt = some (r, cpn', cpt') ∧ m_X6_write a1 mtn mtx = some (r, mtn', mtx') ∧ RT cpn' cpt' mtn' mtx' := by
  obtain ⟨k, V, hk, rfl, rfl, hv⟩ := hT
  unfold m_X5_write m_X6_write
  rw [pz_l32, pz_l126, x5_within a1 32 126 (by decide) (by decide), x6_in a1 32 126 (by decide) (by decide), ob1_s, ob1_s]
  cases c : inR a1 32 126
  · exact ⟨-1, _, _, _, _, rfl, rfl, k, V, hk, rfl, rfl, hv⟩
  · obtain ⟨v, h1, h2, rfl⟩ := inR_of c (by decide)
    simp only [bI_0, Bool.true_eq_false, if_false]
    unfold m_X1_add
    by_cases hl : k < 200
    · have hne : ¬ k = 200 := by omega
      rw [if_pos (show nI k < 200 from nI_lt (b := 200) hl (by decide)), pz_ok hl (by decide), gu_true, pz_cl (by omega), pv_e, pv_e, ob3_s]
      rw [if_neg (show ¬ (1 : Int32) = 0 by decide), if_neg (show ¬ nI k = 200 from fun q => hne ((nI_eq (by omega) (by decide)).mp q)), gu_true, pv_e, pv_e]
      refine ⟨_, _, _, _, _, rfl, rfl, k + 1, fun i => if i = k then v else V i, by omega, nI_1 k, nI_1 k, fun i hi => ?_⟩
      rw [nar_c (by omega)]
      by_cases e : i = k
      · subst e
        simp only [if_true, upd_s]
        exact ⟨h1, h2, trivial, trivial⟩
      · simp only [if_neg e, upd_n e]
        exact hv i (by omega)
    · have hk2 : k = 200 := by omega
      subst hk2
      exact ⟨-3, _, _, _, _, rfl, rfl, 200, V, hk, rfl, rfl, hv⟩
theorem api_wipe {cpn mtn : Int32} {cpt mtx : Nat → Int32} (hT : RT cpn cpt mtn mtx) : ∃ r cpn' mtn', m_X5_wipe cpn = some (r, cpn') ∧ m_X6_wipe mtn = some (r, mtn') ∧ ∀ (cpt : Nat → Int32) (mtx : Nat → Int32), RT cpn' cpt mtn' mtx := by
  obtain ⟨k, V, hk, rfl, rfl, hv⟩ := hT
  exact ⟨_, _, _, rfl, rfl, fun _ _ => ⟨0, V, by omega, rfl, rfl, fun i hi => absurd hi (by omega)⟩⟩
theorem api_forget {h : Hd} {cln msn : Int32} {csP csD csT mse : Nat → Int32} (hS : RS h cln csP csD csT msn mse) : ∃ r cln' msn', m_X5_forget cln = some (r, cln') ∧ m_X6_forget msn = some (r, msn') ∧ ∀ (csP csD csT mse : Nat → Int32), RS h cln' csP csD csT msn' mse := by
  obtain ⟨k, P, D, B, hk, rfl, rfl, hv⟩ := hS
  exact ⟨_, _, _, rfl, rfl, fun _ _ _ _ => ⟨0, P, D, B, by omega, rfl, rfl, fun i hi => absurd hi (by omega)⟩⟩
theorem api_seen {h : Hd} {cP cD cL mP mD mL cln msn : Int32} {cki cpr cpe cpl cho cwe mp md csP csD csT mse : Nat → Int32} (a1 : Int32) (a2 : Int32) (a3 : Int32) (hH : RH h cP cD cL cki cpr cpe cpl cho cwe mP mD mL mp md) (hS : RS h cln csP csD csT msn mse) : ∃ r cln' csP' csD' csT' msn' mse', m_X5_seen a1 a2 a3 cP cD cln csP csD csT = some (r, cln', csP', csD', csT') ∧ m_X6_seen a1 a2 a3 mP mD msn mse = some (r, msn', mse') ∧ RS h cln' csP' csD' csT' msn' mse' := by
  obtain ⟨hB, ⟨rfl, rfl, -⟩, ⟨rfl, rfl, -⟩⟩ := hH
  obtain ⟨b1, b2, b3, b4, b5, b6⟩ := id hB
  have hS0 := hS
  obtain ⟨k, P, D, B, hk, rfl, rfl, hv⟩ := hS
  unfold m_X5_seen m_X6_seen
  rw [x5_piece _ _ (by omega), x6_piece _ _ (by omega), x5_deed _ _ (by omega), x6_deed _ _ (by omega), pz_l0, pz_l1, x5_within a3 0 1 (by decide) (by decide), x6_in a3 0 1 (by decide) (by decide)]
  simp only [ob1_s, ← pz_l0, ← pz_l1, bI_0]
  cases c1 : okI a1 (hnp h)
  · exact ⟨-1, _, _, _, _, _, _, rfl, rfl, hS0⟩
  cases c2 : okI a2 (hnd h)
  · exact ⟨-1, _, _, _, _, _, _, rfl, rfl, hS0⟩
  cases c3 : inR a3 0 1
  · exact ⟨-1, _, _, _, _, _, _, rfl, rfl, hS0⟩
  obtain ⟨p, hp, rfl⟩ := okI_of c1 (by omega)
  obtain ⟨d, hd, rfl⟩ := okI_of c2 (by omega)
  obtain ⟨b, hb1, hb2, rfl⟩ := inR_of c3 (by decide)
  obtain ⟨bb, hbb⟩ : ∃ bb : Bool, nI b = bI bb := by
    rcases (show b = 0 ∨ b = 1 by omega) with rfl | rfl
    · exact ⟨false, rfl⟩
    · exact ⟨true, rfl⟩
  rw [hbb]
  simp only [Bool.true_eq_false, if_false, bI_1]
  rw [show (if bb = true then some (1 : Int32) else some 0) = some (bI bb) by cases bb <;> rfl, ob1_s]
  unfold m_X3_add
  by_cases hl : k < 6
  · have hne : ¬ nI k = 6 := fun q => by have := (nI_eq (b := 6) (by omega) (by decide)).mp q; omega
    rw [if_pos (show nI k < 6 from nI_lt (b := 6) hl (by decide)), if_neg hne]
    simp (disch := omega) only [pz_l3, pz_mul, pz_l2, pz_add, nI_1, pz_ok, gu_true, pz_cl, pv_e, ob5_s]
    refine ⟨_, _, _, _, _, _, _, rfl, rfl, k + 1, fun i => if i = k then p else P i, fun i => if i = k then d else D i, fun i => if i = k then bb else B i, by omega, rfl, rfl, fun i hi => ?_⟩
    have hnar : vp_nar .boolean (bI bb) = bI bb := by cases bb <;> rfl
    rw [hnar]
    by_cases e : i = k
    · subst e
      simp only [if_true, upd_s]
      refine ⟨hp, hd, trivial, trivial, trivial, ?_, ?_, trivial⟩
      · rw [upd_n (by omega), upd_n (by omega), upd_s]
      · rw [upd_n (by omega), upd_s]
    · obtain ⟨q1, q2, q3, q4, q5, q6, q7, q8⟩ := hv i (by omega)
      simp only [if_neg e, upd_n e]
      refine ⟨q1, q2, q3, q4, q5, ?_, ?_, ?_⟩
      · rw [upd_n (by omega), upd_n (by omega), upd_n (by omega)]; exact q6
      · rw [upd_n (by omega), upd_n (by omega), upd_n (by omega)]; exact q7
      · rw [upd_n (by omega), upd_n (by omega), upd_n (by omega)]; exact q8
  · have hk2 : k = 6 := by omega
    subst hk2
    exact ⟨-3, _, _, _, _, _, _, rfl, rfl, hS0⟩
theorem api_together {h : Hd} {s : Sd} {cP cD cL mP mD mL cro cbo csp cou cco : Int32} {cki cpr cpe cpl cho cwe mp md ms mw : Nat → Int32} (a1 : Int32) (a2 : Int32) (hH : RH h cP cD cL cki cpr cpe cpl cho cwe mP mD mL mp md) (hN : RN h s cro cbo csp cou cco ms) : ∃ r mw', m_X5_together a1 a2 cP cD cro cpl cki cho cwe = some r ∧ m_X6_together a1 a2 mP mD ms mw md mp = some (r, mw') := by
  obtain ⟨hB, hC, hM⟩ := hH
  obtain ⟨hS, ⟨e1, -⟩, hMs⟩ := hN
  obtain ⟨b1, b2, b3, b4, b5, b6⟩ := id hB
  have t5 := v5_told hB hC hS e1
  have t6 := v6_told hB hM (hMs.asIs (now := mw) b2)
  have eP := hC.1
  have eP2 := hM.1
  subst eP eP2
  unfold m_X5_together m_X6_together
  rw [x5_piece _ _ (by omega), x6_piece _ _ (by omega), x5_piece _ _ (by omega), x6_piece _ _ (by omega), r_asItIs]
  simp only [ob1_s, bI_0]
  cases c1 : okI a1 (hnp h)
  · exact ⟨-1, _, rfl, rfl⟩
  cases c2 : okI a2 (hnp h)
  · exact ⟨-1, _, rfl, rfl⟩
  by_cases c3 : a1 = a2
  · simp only [if_pos c3, Bool.true_eq_false, if_false]
    exact ⟨-1, _, rfl, rfl⟩
  obtain ⟨p, hp, rfl⟩ := okI_of c1 (by omega)
  obtain ⟨q, hq, rfl⟩ := okI_of c2 (by omega)
  simp only [if_neg c3, Bool.true_eq_false, if_false]
  rw [ t6 p hp, t6 q hq, (t5 p hp).1, ob1_s, (t5 p hp).2.1, (t5 q hq).1, ob1_s, ob1_s, (t5 q hq).2.1]
  exact ⟨_, _, rfl, rfl⟩
theorem api_piece {h : Hd} {s : Sd} {cP cD cL mP mD mL cro cbo csp cou cco : Int32} {cki cpr cpe cpl cho cwe mp md ms mw : Nat → Int32} (a1 : Int32) (a2 : Int32) (hH : RH h cP cD cL cki cpr cpe cpl cho cwe mP mD mL mp md) (hN : RN h s cro cbo csp cou cco ms) : ∃ r mw', m_X5_piece a1 a2 cP cD cL cro cbo csp cki cpl cho cwe cpr = some r ∧ m_X6_piece a1 a2 mP mD mL ms mw mp md = some (r, mw') := by
  obtain ⟨hB, hC, hM⟩ := hH
  obtain ⟨hS, ⟨e1, e2, e3, -⟩, hMs⟩ := hN
  obtain ⟨b1, b2, b3, b4, b5, b6⟩ := id hB
  have t5 := v5_told hB hC hS e1
  have l5 := v5_loose hB hC hS e2 e3
  have t6 := v6_told hB hM (hMs.asIs (now := mw) b2)
  have l6 := v6_loose hB hM (hMs.asIs (now := mw) b2)
  have eP := hC.1
  have eP2 := hM.1
  subst eP eP2
  unfold m_X5_piece m_X6_piece
  rw [x5_piece _ _ (by omega), x6_piece _ _ (by omega), r_asItIs]
  simp only [ob1_s, bI_0]
  cases c1 : okI a1 (hnp h)
  · exact ⟨-1, _, rfl, rfl⟩
  obtain ⟨p, hp, rfl⟩ := okI_of c1 (by omega)
  have hhow := v5_how hS b2 b3 e2 e3 (show p < 8 by omega)
  have m1 := hM.2.2.2.1 p hp
  have c4 := hC.2.2.2.1 p hp
  have m2 := hMs.2.2 p hp
  simp only [Bool.true_eq_false, if_false]
  by_cases q0 : a2 = 0
  · simp only [if_pos q0]
    simp (disch := omega) only [pz_l10, pz_l2, pz_add, pz_mul, nI_1, pz_ok, gu_true, pz_cl, m1.1, m1.2, m2.1, m2.2, c4.1, c4.2, t6 p hp, (t5 p hp).1, (t5 p hp).2.1, l5 p hp, l6 p hp, hhow, ob1_s, bI_0]
    exact ⟨_, _, rfl, rfl⟩
  simp only [if_neg q0]
  by_cases q1 : a2 = 1
  · simp only [if_pos q1]
    simp (disch := omega) only [pz_l10, pz_l2, pz_add, pz_mul, nI_1, pz_ok, gu_true, pz_cl, m1.1, m1.2, m2.1, m2.2, c4.1, c4.2, t6 p hp, (t5 p hp).1, (t5 p hp).2.1, l5 p hp, l6 p hp, hhow, ob1_s, bI_0]
    exact ⟨_, _, rfl, rfl⟩
  simp only [if_neg q1]
  by_cases q2 : a2 = 2
  · simp only [if_pos q2]
    simp (disch := omega) only [pz_l10, pz_l2, pz_add, pz_mul, nI_1, pz_ok, gu_true, pz_cl, m1.1, m1.2, m2.1, m2.2, c4.1, c4.2, t6 p hp, (t5 p hp).1, (t5 p hp).2.1, l5 p hp, l6 p hp, hhow, ob1_s, bI_0]
    exact ⟨_, _, rfl, rfl⟩
  simp only [if_neg q2]
  by_cases q3 : a2 = 3
  · simp only [if_pos q3]
    simp (disch := omega) only [pz_l10, pz_l2, pz_add, pz_mul, nI_1, pz_ok, gu_true, pz_cl, m1.1, m1.2, m2.1, m2.2, c4.1, c4.2, t6 p hp, (t5 p hp).1, (t5 p hp).2.1, l5 p hp, l6 p hp, hhow, ob1_s, bI_0]
    exact ⟨_, _, rfl, rfl⟩
  simp only [if_neg q3]
  by_cases q4 : a2 = 4
  · simp only [if_pos q4]
    simp (disch := omega) only [pz_l10, pz_l2, pz_add, pz_mul, nI_1, pz_ok, gu_true, pz_cl, m1.1, m1.2, m2.1, m2.2, c4.1, c4.2, t6 p hp, (t5 p hp).1, (t5 p hp).2.1, l5 p hp, l6 p hp, hhow, ob1_s, bI_0]
    exact ⟨_, _, rfl, rfl⟩
  simp only [if_neg q4]
  by_cases q5 : a2 = 5
  · simp only [if_pos q5]
    simp (disch := omega) only [pz_l10, pz_l2, pz_add, pz_mul, nI_1, pz_ok, gu_true, pz_cl, m1.1, m1.2, m2.1, m2.2, c4.1, c4.2, t6 p hp, (t5 p hp).1, (t5 p hp).2.1, l5 p hp, l6 p hp, hhow, ob1_s, bI_0]
    cases vL h s p
    · exact ⟨0, _, rfl, rfl⟩
    · exact ⟨1, _, rfl, rfl⟩
  · simp only [if_neg q5]; exact ⟨-1, _, rfl, rfl⟩
