/-! THE CALLS: acts, kept -/
/-- the packed long of how all stands -/
theorem v5_packed {h : Hd} {s : Sd} {cro cbo csp cou cco : Int32} (hB : HB h) (hS : CS (hnp h) (hnd h) s) (hC : NC s cro cbo csp cou cco) : m_X4_packed cro cbo csp cou cco = some (pkS s) := by
  obtain ⟨rfl, rfl, rfl, rfl, rfl⟩ := hC
  obtain ⟨s1, s2, s3, s4, s5⟩ := hS.small hB.2.1 hB.2.2.1
  exact x4_packed s1 s2 s3 (by omega) (by omega)
theorem v5_unpack {h : Hd} {s : Sd} (hB : HB h) (hS : CS (hnp h) (hnd h) s) : m_X4_unpack (pkS s) = some (nI s.1, nI s.2.1, nI s.2.2.1, nI s.2.2.2.1, nI s.2.2.2.2) := by
  obtain ⟨s1, s2, s3, s4, s5⟩ := hS.small hB.2.1 hB.2.2.1
  obtain ⟨r, b, sp, o, c⟩ := s
  dsimp only at s1 s2 s3 s4 s5
  exact x4_unpack s1 s2 s3 (by omega) (by omega)
theorem pz_n0 : ∀ n, n < 100 → (nI n = 0) = (n = 0) := fun n h => by rw [pz_l0, pz_eq (by omega) (by decide)]
theorem hw_sp {bo sp p q : Nat} (hq : q < 32) : hw bo (sp ||| 2 ^ p) q = if q = p then 2 else hw bo sp q := by
  unfold hw
  rw [Nat.testBit_or, Nat.testBit_two_pow]
  by_cases c : q = p
  · subst c; simp
  · have c2 : ¬ p = q := fun e => c e.symm
    simp [c, c2]
theorem hw_bo {bo sp p q : Nat} (hq : q < 32) (h0 : hw bo sp p = 0) : hw (bo ||| 2 ^ p) sp q = if q = p then 1 else hw bo sp q := by
  have hs : sp.testBit p = false := by
    unfold hw at h0
    cases c : sp.testBit p
    · rfl
    · rw [if_pos c] at h0; omega
  unfold hw
  rw [Nat.testBit_or, Nat.testBit_two_pow]
  by_cases c : q = p
  · subst c; simp [hs]
  · have c2 : ¬ p = q := fun e => c e.symm
    simp [c, c2]
theorem hw0 {bo sp p : Nat} (h0 : hw bo sp p = 0) : sp.testBit p = false ∧ bo.testBit p = false := by
  unfold hw at h0
  cases c : sp.testBit p
  · cases c2 : bo.testBit p
    · exact ⟨rfl, rfl⟩
    · rw [if_neg (by rw [c]; decide), if_pos c2] at h0; omega
  · rw [if_pos c] at h0; omega
/-- standing, when a piece has spoken -/
def sSp (s : Sd) (p T : Nat) : Sd := (s.1, s.2.1, s.2.2.1 ||| 2 ^ p, s.2.2.2.1 ||| T, s.2.2.2.2)
theorem CS.spoke {np n : Nat} {s : Sd} {p T : Nat} (hS : CS np n s) (hp : p < np) (hT : T < 2 ^ n) (h0 : hw s.2.1 s.2.2.1 p = 0) : CS np n (sSp s p T) := by
  obtain ⟨s1, s2, s3, s4, s5, s6⟩ := hS
  refine ⟨s1, s2, Nat.or_lt_two_pow s3 (Nat.pow_lt_pow_right (by decide) hp), fun q hq => ?_, Nat.or_lt_two_pow s5 hT, s6⟩
  show (s.2.2.1 ||| 2 ^ p).testBit q = false
  rw [Nat.testBit_or, s4 q hq, Nat.testBit_two_pow]
  by_cases c : p = q
  · subst c
    have hq2 : s.2.1.testBit p = true := hq
    rw [(hw0 h0).2] at hq2; cases hq2
  · simp [c]
theorem or_nd (o T : Nat) (ho : o < 512) (hT : T < 512) : o ||| nd T o = o ||| T := by
  apply bits_ext (n := 9)
  · exact Nat.or_lt_two_pow (n := 9) ho (Nat.lt_of_le_of_lt (nd_le _ _) hT)
  · exact Nat.or_lt_two_pow (n := 9) ho hT
  · intro i hi
    rw [Nat.testBit_or, Nat.testBit_or, nd_bit _ _ _ (by omega)]
    cases o.testBit i <;> cases T.testBit i <;> rfl
theorem x4_letSpeak {p T sp ou : Nat} (hp : p < 31) (hT : T < 512) : m_X4_letSpeak (nI p) (nI T) (nI sp) (nI ou) = some (nI (cnt (nd T ou).testBit 10), nI (sp ||| 2 ^ p), nI (ou ||| T)) := by
  unfold m_X4_letSpeak
  rw [pz_not, pz_or, pz_shl p hp, pz_or]
  simp only [pv_e]
  rw [j6_bits _ (Nat.lt_of_le_of_lt (nd_le _ _) (by omega)), ob1_s]
theorem api_speak {h : Hd} {s : Sd} {cP cD cL mP mD mL cro cbo csp cou cco cnx cdp ma : Int32} {cki cpr cpe cpl cho cwe mp md ms mwa mw : Nat → Int32} {cri : Nat → Int64} (a1 : Int32) (hH : RH h cP cD cL cki cpr cpe cpl cho cwe mP mD mL mp md) (hN : RN h s cro cbo csp cou cco ms) (hP : RP h cnx cdp cri ma mwa) : ∃ r csp' cou' cnx' cdp' cri' ma' ms' mw' mwa', m_X5_speak a1 cP cD cL cro cbo csp cou cco cki cnx cdp cri cpl cho cwe = some (r, csp', cou', cnx', cdp', cri') ∧ m_X6_speak a1 mP mD mL ma ms mw mp mwa md = some (r, ma', ms', mw', mwa') ∧ (∃ s, RN h s cro cbo csp' cou' cco ms') ∧ RP h cnx' cdp' cri' ma' mwa' := by
  have hH0 := hH
  have hN0 := hN
  obtain ⟨hB, hC, hM⟩ := hH
  obtain ⟨hS, hNC, hMs⟩ := hN
  obtain ⟨b1, b2, b3, b4, b5, b6⟩ := id hB
  obtain ⟨s1, s2, s3, s4, s5⟩ := hS.small b2 b3
  have hpk := v5_packed hB hS hNC
  obtain ⟨e1, e2, e3, e4, e5⟩ := hNC
  have t5 := v5_told hB hC hS e1
  have l5 := v5_loose hB hC hS e2 e3
  have t6 := v6_told hB hM (hMs.asIs (now := mw) b2)
  have l6 := v6_loose hB hM (hMs.asIs (now := mw) b2)
  obtain ⟨cnx', cdp', cri', ma', mwa', g1, g2, g3⟩ := rp_push hB hP hS hMs
  have eP := hC.1
  have eP2 := hM.1
  subst eP eP2
  unfold m_X5_speak m_X6_speak
  rw [x5_piece _ _ (by omega), x6_piece _ _ (by omega), r_asItIs, hpk, g2]
  simp only [ob1_s, bI_0, g1]
  cases c1 : okI a1 (hnp h)
  · exact ⟨-1, _, _, _, _, _, _, _, _, _, rfl, rfl, ⟨s, hN0⟩, hP⟩
  obtain ⟨p, hp, rfl⟩ := okI_of c1 (by omega)
  simp only [Bool.true_eq_false, if_false]
  rw [l5 p hp, l6 p hp, t6 p hp, (t5 p hp).1]
  simp only [ob1_s, bI_0, (t5 p hp).2.1]
  cases c2 : vL h s p
  · exact ⟨-2, _, _, _, _, _, _, _, _, _, rfl, rfl, ⟨s, hN0⟩, hP⟩
  simp only [Bool.true_eq_false, if_false]
  have h0 : hw s.2.1 s.2.2.1 p = 0 := by
    have c3 := c2
    rw [Bool.and_eq_true] at c3
    exact of_decide_eq_true c3.1
  have hT := (t5 p hp).2.2
  rw [e3, e4, x4_letSpeak (by omega) hT, show (1 : Int32).toNatClampNeg = 1 from rfl, hMs.2.1]
  simp (disch := omega) only [ob2_s, ob3_s, pz_not, pz_or, pv_e, pz_l10, pz_add, pz_ok, gu_true, pz_cl, or_nd _ _ s4 hT]
  rw [r_bits (Nat.lt_of_le_of_lt (nd_le _ _) (by omega)), ob1_s]
  refine ⟨_, _, _, _, _, _, _, _, _, _, rfl, rfl, ⟨sSp s p (vT h s p), hS.spoke hp (vT_lt2 s p) h0, ⟨e1, e2, rfl, rfl, e5⟩, ?_, ?_, fun q hq => ⟨?_, ?_⟩⟩, g3⟩
  · rw [upd_n (by omega), upd_n (by omega)]; exact hMs.1
  · rw [upd_n (by omega), upd_s]; rfl
  · rw [upd_n (by omega), upd_n (by omega)]; exact (hMs.2.2 q hq).1
  · show _ = nI (hw s.2.1 (s.2.2.1 ||| 2 ^ p) q)
    rw [hw_sp (by omega)]
    by_cases c : q = p
    · subst c
      rw [if_pos rfl, upd_s]; rfl
    · rw [if_neg c, upd_n (by omega), upd_n (by omega)]; exact (hMs.2.2 q hq).2
theorem api_buy {h : Hd} {s : Sd} {cP cD cL mP mD mL cro cbo csp cou cco cnx cdp ma : Int32} {cki cpr cpe cpl cho cwe mp md ms mwa : Nat → Int32} {cri : Nat → Int64} (a1 : Int32) (hH : RH h cP cD cL cki cpr cpe cpl cho cwe mP mD mL mp md) (hN : RN h s cro cbo csp cou cco ms) (hP : RP h cnx cdp cri ma mwa) : ∃ r cbo' cco' cnx' cdp' cri' ma' ms' mwa', m_X5_buy a1 cP cro cbo csp cou cco cpr cnx cdp cri = some (r, cbo', cco', cnx', cdp', cri') ∧ m_X6_buy a1 mP ma ms mp mwa = some (r, ma', ms', mwa') ∧ (∃ s, RN h s cro cbo' csp cou cco' ms') ∧ RP h cnx' cdp' cri' ma' mwa' := by
  have hN0 := hN
  obtain ⟨hB, hC, hM⟩ := hH
  obtain ⟨hS, hNC, hMs⟩ := hN
  obtain ⟨b1, b2, b3, b4, b5, b6⟩ := id hB
  obtain ⟨s1, s2, s3, s4, s5⟩ := hS.small b2 b3
  have hpk := v5_packed hB hS hNC
  obtain ⟨e1, e2, e3, e4, e5⟩ := hNC
  obtain ⟨cnx', cdp', cri', ma', mwa', g1, g2, g3⟩ := rp_push hB hP hS hMs
  have eP := hC.1
  have eP2 := hM.1
  subst eP eP2
  unfold m_X5_buy m_X6_buy
  rw [x5_piece _ _ (by omega), x6_piece _ _ (by omega), hpk, g2]
  simp only [ob1_s, bI_0, g1]
  cases c1 : okI a1 (hnp h)
  · exact ⟨-1, _, _, _, _, _, _, _, _, rfl, rfl, ⟨s, hN0⟩, hP⟩
  obtain ⟨p, hp, rfl⟩ := okI_of c1 (by omega)
  have hhow := v5_how hS b2 b3 e2 e3 (show p < 8 by omega)
  have m1 := hM.2.2.2.1 p hp
  have c4 := hC.2.2.2.1 p hp
  have m2 := hMs.2.2 p hp
  have hprl := (b5 p hp).2
  have hwl := hw_lt s.2.1 s.2.2.1 p
  unfold m_X5_canBeBought
  rw [hhow, ob1_s, show (0 : Int32).toNatClampNeg = 0 from rfl, hMs.1, e5]
  simp (disch := omega) only [Bool.true_eq_false, if_false, pz_l10, pz_l2, pz_add, pz_mul, nI_1, pz_ok, gu_true, pz_cl, m1.2, m2.2, c4.2, pz_n0, pz_lt, pz_le]
  by_cases c2 : hw s.2.1 s.2.2.1 p = 0
  · simp only [if_pos c2]
    by_cases c3 : s.2.2.2.2 < hpr h p
    · have c5 : ¬ hpr h p ≤ s.2.2.2.2 := by omega
      simp only [if_pos c3, if_neg c5, ob1_s, if_true]
      exact ⟨-2, _, _, _, _, _, _, _, _, rfl, rfl, ⟨s, by rw [← e5]; exact hN0⟩, hP⟩
    · have c5 : hpr h p ≤ s.2.2.2.2 := by omega
      simp only [if_neg c3, if_pos c5, ob1_s]
      rw [if_neg (show ¬ (1 : Int32) = 0 by decide), ob3_s, ob2_s]
      unfold m_X4_sell
      rw [e2]
      have hu : upd ms (10 + p) 1 0 = nI s.2.2.2.2 := by rw [upd_n (by omega)]; exact hMs.1
      simp (disch := omega) only [pz_shl, pz_or, pz_sub, pv_e, ob2_s, upd_s, hu]
      obtain ⟨q1, q2⟩ := hw0 c2
      refine ⟨_, _, _, _, _, _, _, _, _, rfl, rfl, ⟨(s.1, s.2.1 ||| 2 ^ p, s.2.2.1, s.2.2.2.1, s.2.2.2.2 - hpr h p), ⟨hS.1, Nat.or_lt_two_pow hS.2.1 (Nat.pow_lt_pow_right (by decide) hp), hS.2.2.1, fun q hq => ?_, hS.2.2.2.2.1, by show s.2.2.2.2 - hpr h p < 100; omega⟩, ⟨e1, rfl, e3, e4, rfl⟩, ?_, ?_, fun q hq => ⟨?_, ?_⟩⟩, g3⟩
      · have hq2 : (s.2.1 ||| 2 ^ p).testBit q = true := hq
        rw [Nat.testBit_or, Nat.testBit_two_pow] at hq2
        by_cases c : p = q
        · subst c; exact q1
        · simp [c] at hq2; exact hS.2.2.2.1 q hq2
      · rw [upd_s]
      · rw [upd_n (by omega), upd_n (by omega)]; exact hMs.2.1
      · rw [upd_n (by omega), upd_n (by omega)]; exact (hMs.2.2 q hq).1
      · show _ = nI (hw (s.2.1 ||| 2 ^ p) s.2.2.1 q)
        rw [hw_bo (by omega) c2, upd_n (by omega)]
        by_cases c : q = p
        · subst c
          rw [if_pos rfl, upd_s]; rfl
        · rw [if_neg c, upd_n (by omega)]; exact (hMs.2.2 q hq).2
  · simp only [if_neg c2, ob1_s, if_true]
    exact ⟨-2, _, _, _, _, _, _, _, _, rfl, rfl, ⟨s, by rw [← e5]; exact hN0⟩, hP⟩
theorem api_carry {h : Hd} {s : Sd} {cP cD cL mP mD mL cro cbo csp cou cco cnx cdp ma : Int32} {cki cpr cpe cpl cho cwe mp md ms mwa : Nat → Int32} {cri : Nat → Int64} (a1 : Int32) (a2 : Int32) (hH : RH h cP cD cL cki cpr cpe cpl cho cwe mP mD mL mp md) (hN : RN h s cro cbo csp cou cco ms) (hP : RP h cnx cdp cri ma mwa) : ∃ r cro' cnx' cdp' cri' ma' ms' mwa', m_X5_carry a1 a2 cP cro cbo csp cou cco cnx cdp cri = some (r, cro', cnx', cdp', cri') ∧ m_X6_carry a1 a2 mP ma ms mwa = some (r, ma', ms', mwa') ∧ (∃ s, RN h s cro' cbo csp cou cco ms') ∧ RP h cnx' cdp' cri' ma' mwa' := by
  have hN0 := hN
  obtain ⟨hB, hC, hM⟩ := hH
  obtain ⟨hS, hNC, hMs⟩ := hN
  obtain ⟨b1, b2, b3, b4, b5, b6⟩ := id hB
  obtain ⟨s1, s2, s3, s4, s5⟩ := hS.small b2 b3
  have hpk := v5_packed hB hS hNC
  obtain ⟨e1, e2, e3, e4, e5⟩ := hNC
  obtain ⟨cnx', cdp', cri', ma', mwa', g1, g2, g3⟩ := rp_push hB hP hS hMs
  have eP := hC.1
  have eP2 := hM.1
  subst eP eP2
  unfold m_X5_carry m_X6_carry
  rw [x5_piece _ _ (by omega), x6_piece _ _ (by omega), hpk, g2, pz_l0, pz_l3, x5_within a2 0 3 (by decide) (by decide), x6_in a2 0 3 (by decide) (by decide)]
  simp only [ob1_s, ← pz_l0, bI_0, g1]
  cases c1 : okI a1 (hnp h)
  · exact ⟨-1, _, _, _, _, _, _, _, rfl, rfl, ⟨s, hN0⟩, hP⟩
  cases c2 : inR a2 0 3
  · exact ⟨-1, _, _, _, _, _, _, _, rfl, rfl, ⟨s, hN0⟩, hP⟩
  obtain ⟨p, hp, rfl⟩ := okI_of c1 (by omega)
  obtain ⟨r, -, hr, rfl⟩ := inR_of c2 (by decide)
  have hhow := v5_how hS b2 b3 e2 e3 (show p < 8 by omega)
  have hroom := v5_room (h := h) hS e1 (show p < 8 by omega)
  have m2 := hMs.2.2 p hp
  have hwl := hw_lt s.2.1 s.2.2.1 p
  have hrl := rmo_lt s.1 p
  rw [hhow, hroom, ob1_s, ob1_s]
  simp (disch := omega) only [Bool.true_eq_false, if_false, pz_l10, pz_l2, pz_add, pz_ok, gu_true, pz_cl, m2.1, m2.2, pz_eq, pv_e]
  by_cases c3 : hw s.2.1 s.2.2.1 p = 2
  · simp only [if_pos c3]
    exact ⟨-2, _, _, _, _, _, _, _, rfl, rfl, ⟨s, hN0⟩, hP⟩
  simp only [if_neg c3]
  by_cases c4 : rmo s.1 p = r
  · simp only [if_pos c4]
    exact ⟨-2, _, _, _, _, _, _, _, rfl, rfl, ⟨s, hN0⟩, hP⟩
  simp only [if_neg c4]
  rw [e1, x4_move (by omega) (by omega), ob3_s, ob1_s, ob2_s]
  refine ⟨_, _, _, _, _, _, _, _, rfl, rfl, ⟨(mvN s.1 p r, s.2.1, s.2.2.1, s.2.2.2.1, s.2.2.2.2), ⟨mvN_lt s1 (by omega) (by omega), hS.2.1, hS.2.2.1, hS.2.2.2.1, hS.2.2.2.2.1, hS.2.2.2.2.2⟩, ⟨rfl, e2, e3, e4, e5⟩, ?_, ?_, fun q hq => ⟨?_, ?_⟩⟩, g3⟩
  · rw [upd_n (by omega)]; exact hMs.1
  · rw [upd_n (by omega)]; exact hMs.2.1
  · show _ = nI (rmo (mvN s.1 p r) q)
    rw [mvN_rmo (by omega) (by omega) (by omega)]
    by_cases c : q = p
    · subst c; rw [if_pos rfl, upd_s]
    · rw [if_neg c, upd_n (by omega)]; exact (hMs.2.2 q hq).1
  · rw [upd_n (by omega)]; exact (hMs.2.2 q hq).2
theorem api_undo {h : Hd} {s : Sd} {cP cD cL mP mD mL cro cbo csp cou cco cnx cdp ma : Int32} {cki cpr cpe cpl cho cwe mp md ms mwa : Nat → Int32} {cri : Nat → Int64} (hH : RH h cP cD cL cki cpr cpe cpl cho cwe mP mD mL mp md) (hN : RN h s cro cbo csp cou cco ms) (hP : RP h cnx cdp cri ma mwa) : ∃ r cnx' cdp' cro' cbo' csp' cou' cco' ma' ms', m_X5_undo cnx cdp cri cro cbo csp cou cco = some (r, cnx', cdp', cro', cbo', csp', cou', cco') ∧ m_X6_undo ma mwa ms = some (r, ma', ms') ∧ (∃ s, RN h s cro' cbo' csp' cou' cco' ms') ∧ RP h cnx' cdp' cri ma' mwa := by
  have hN0 := hN
  have hP0 := hP
  obtain ⟨hB, hC, hM⟩ := hH
  obtain ⟨b1, b2, b3, b4, b5, b6⟩ := id hB
  obtain ⟨k, x, hist, hk, hx, rfl, rfl, rfl, hh⟩ := hP
  unfold m_X5_undo m_X6_undo
  by_cases c : k = 0
  · subst c
    exact ⟨-2, _, _, _, _, _, _, _, _, _, rfl, rfl, ⟨s, hN0⟩, hP0⟩
  obtain ⟨g1, g2, g3⟩ := hh 0 (by omega)
  have hne : ¬ nI k = 0 := fun q => c ((nI_eq (b := 0) (by omega) (by decide)).mp q)
  have e5 : m_X2_pop (nI x) (nI k) cri = some (pkS (hist 0), nI ((x + 7) % 8), nI (k - 1)) := by
    unfold m_X2_pop
    have h1 : (if nI x ≤ (0 : Int32) then some (7 : Int32) else some (nI x - 1)) = some (nI ((x + 7) % 8)) := by
      by_cases cx : x = 0
      · subst cx; rfl
      · rw [if_neg (show ¬ nI x ≤ 0 from nI_nle (by omega) (by omega)), show nI x - 1 = nI (x - 1) from pz_sub (b := 1) (by omega), show (x + 7) % 8 = x - 1 by omega]
    have h2 : nI k - 1 = nI (k - 1) := pz_sub (b := 1) (by omega)
    rw [h1, ob1_s, h2, if_neg (nI_pos (by omega)), pv_e, pz_ok (by omega) (by decide), gu_true, pz_cl (by omega), ← g2]
    rfl
  have h2 : nI k - 1 = nI (k - 1) := pz_sub (b := 1) (by omega)
  rw [if_neg hne, if_neg hne, e5, ob3_s, v5_unpack hB g1, ob5_s, h2, pv_e, pz_l18, pz_mul, pz_l0, r_copies (by omega) (by omega) (by omega) (by omega) (by omega), ob1_s]
  refine ⟨_, _, _, _, _, _, _, _, _, _, rfl, rfl, ⟨hist 0, g1, ⟨rfl, rfl, rfl, rfl, rfl⟩, ?_⟩, k - 1, (x + 7) % 8, fun i => hist (i + 1), by omega, by omega, rfl, rfl, rfl, fun i hi => ?_⟩
  · have e : ∀ j, j < 18 → cpF ms 0 mwa (18 * (k - 1)) 18 j = mwa (18 * (k - 1 - 0) + j) := fun j hj => by
      have := cpF_in (to := ms) (fo := mwa) (a := 0) (f := 18 * (k - 1)) (n := 18) hj
      simpa using this
    have := MS.at (k := 0) (w := cpF ms 0 mwa (18 * (k - 1)) 18) g3 b2 (fun j hj => by rw [Nat.zero_add]; exact e j hj)
    simpa using this
  · obtain ⟨q1, q2, q3⟩ := hh (i + 1) (by omega)
    refine ⟨q1, ?_, ?_⟩
    · rw [show ((x + 7) % 8 + 7 - i) % 8 = (x + 7 - (i + 1)) % 8 by omega]; exact q2
    · rw [show k - 1 - 1 - i = k - 1 - (i + 1) by omega]; exact q3
theorem api_keep {h : Hd} {s : Sd} {cP cD cL mP mD mL cro cbo csp cou cco ckc mk : Int32} {cki cpr cpe cpl cho cwe mp md ms mkp : Nat → Int32} {cke : Nat → Int64} (hH : RH h cP cD cL cki cpr cpe cpl cho cwe mP mD mL mp md) (hN : RN h s cro cbo csp cou cco ms) (hK : RK h ckc cke mk mkp) : ∃ r ckc' cke' mk' mkp', m_X5_keep ckc cke cro cbo csp cou cco = some (r, ckc', cke') ∧ m_X6_keep mk ms mkp = some (r, mk', mkp') ∧ RK h ckc' cke' mk' mkp' := by
  have hK0 := hK
  obtain ⟨hB, hC, hM⟩ := hH
  obtain ⟨b1, b2, b3, b4, b5, b6⟩ := id hB
  obtain ⟨hS, hNC, hMs⟩ := hN
  have hpk := v5_packed hB hS hNC
  obtain ⟨k, hist, hk, rfl, rfl, hh⟩ := hK
  unfold m_X5_keep m_X6_keep
  by_cases c : k = 2
  · subst c
    exact ⟨-3, _, _, _, _, rfl, rfl, hK0⟩
  have hne : ¬ nI k = 2 := fun q => c ((nI_eq (b := 2) (by omega) (by decide)).mp q)
  rw [if_neg hne, if_pos (show nI k < 2 from nI_lt (b := 2) (by omega) (by decide)), hpk, ob1_s, pz_ok (by omega) (by decide), gu_true, pz_cl (by omega), pz_l18, pz_mul, pz_l0, r_copies (by omega) (by omega) (by omega) (by omega) (by omega), ob1_s]
  simp only [pv_e, nI_1]
  refine ⟨_, _, _, _, _, rfl, rfl, k + 1, fun i => if i = k then s else hist i, by omega, rfl, rfl, fun i hi => ?_⟩
  by_cases c0 : i = k
  · subst c0
    simp only [if_true, updL_s]
    exact ⟨hS, trivial, hMs.at b2 (fun j hj => by rw [cpF_in hj, Nat.zero_add])⟩
  · obtain ⟨q1, q2, q3⟩ := hh i (by omega)
    simp only [if_neg c0, updL_n c0]
    exact ⟨q1, q2, q3.at b2 (fun j hj => by rw [cpF_out (by omega)])⟩
theorem api_back {h : Hd} {s : Sd} {cP cD cL mP mD mL cro cbo csp cou cco cnx cdp ma ckc mk : Int32} {cki cpr cpe cpl cho cwe mp md ms mwa mkp : Nat → Int32} {cri cke : Nat → Int64} (hH : RH h cP cD cL cki cpr cpe cpl cho cwe mP mD mL mp md) (hN : RN h s cro cbo csp cou cco ms) (hP : RP h cnx cdp cri ma mwa) (hK : RK h ckc cke mk mkp) : ∃ r ckc' cro' cbo' csp' cou' cco' cdp' ma' mk' ms', m_X5_back ckc cke cro cbo csp cou cco cdp = some (r, ckc', cro', cbo', csp', cou', cco', cdp') ∧ m_X6_back ma mk mkp ms = some (r, ma', mk', ms') ∧ (∃ s, RN h s cro' cbo' csp' cou' cco' ms') ∧ (∀ (cnx : Int32) (cri : Nat → Int64) (mwa : Nat → Int32), RP h cnx cdp cri ma mwa → RP h cnx cdp' cri ma' mwa) ∧ RK h ckc' cke mk' mkp := by
  have hN0 := hN
  have hK0 := hK
  obtain ⟨hB, hC, hM⟩ := hH
  obtain ⟨b1, b2, b3, b4, b5, b6⟩ := id hB
  obtain ⟨k, hist, hk, rfl, rfl, hh⟩ := hK
  unfold m_X5_back m_X6_back
  by_cases c : k = 0
  · subst c
    exact ⟨-2, _, _, _, _, _, _, _, _, _, _, rfl, rfl, ⟨s, hN0⟩, fun _ _ _ q => q, hK0⟩
  obtain ⟨g1, g2, g3⟩ := hh (k - 1) (by omega)
  have hne : ¬ nI k = 0 := fun q => c ((nI_eq (b := 0) (by omega) (by decide)).mp q)
  have h2 : nI k - 1 = nI (k - 1) := pz_sub (b := 1) (by omega)
  rw [if_neg hne, if_pos (show (1 : Int32) ≤ nI k from nI_le (a := 1) (by omega) (by omega)), h2, pv_e, pv_e, pz_ok (by omega) (by decide), gu_true, pz_cl (by omega), g2, v5_unpack hB g1, ob5_s, pz_l18, pz_mul, pz_l0, r_copies (by omega) (by omega) (by omega) (by omega) (by omega), ob1_s]
  refine ⟨_, _, _, _, _, _, _, _, _, _, _, rfl, rfl, ⟨hist (k - 1), g1, ⟨rfl, rfl, rfl, rfl, rfl⟩, ?_⟩, fun cnx cri mwa hq => ?_, k - 1, hist, by omega, rfl, rfl, fun i hi => hh i (by omega)⟩
  · have e : ∀ j, j < 18 → cpF ms 0 mkp (18 * (k - 1)) 18 j = mkp (18 * (k - 1) + j) := fun j hj => by
      have := cpF_in (to := ms) (fo := mkp) (a := 0) (f := 18 * (k - 1)) (n := 18) hj
      simpa using this
    have := MS.at (k := 0) (w := cpF ms 0 mkp (18 * (k - 1)) 18) g3 b2 (fun j hj => by rw [Nat.zero_add]; exact e j hj)
    simpa using this
  · obtain ⟨k2, x2, hist2, p1, p2, p3, -, -, p6⟩ := hq
    exact ⟨0, x2, hist2, by omega, p2, p3, rfl, rfl, fun i hi => absurd hi (by omega)⟩
