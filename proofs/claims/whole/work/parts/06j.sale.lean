/-! THE CALLS: sale -/
theorem sd_div {a b : Nat} (ha : a < 2147483648) (hb : b < 2147483648) (h0 : 0 < b) : nI a / nI b = nI (a / b) := by
  apply Int32.toInt_inj.mp
  have h1 : a / b ≤ a := Nat.div_le_self _ _
  rw [lg_idiv_nonneg (by rw [nI_toInt ha]; omega) (by rw [nI_toInt hb]; omega), nI_toInt ha, nI_toInt hb, nI_toInt (by omega)]
  rfl
theorem sd_mod {a b : Nat} (ha : a < 2147483648) (hb : b < 2147483648) (h0 : 0 < b) : nI a - nI a / nI b * nI b = nI (a % b) := by
  rw [sd_div ha hb h0, pz_mul, pz_sub (Nat.div_mul_le_self a b)]
  congr 1
  have := Nat.div_add_mod a b
  rw [Nat.mul_comm] at this
  omega
theorem sd_divL {a b : Nat} (ha : a < 2 ^ 63) (hb : b < 2 ^ 63) (h0 : 0 < b) : lN a / lN b = lN (a / b) := by
  apply Int64.toInt_inj.mp
  have h1 : a / b ≤ a := Nat.div_le_self _ _
  rw [lg_ldiv_nonneg (by rw [wl_T ha]; omega) (by rw [wl_T hb]; omega), wl_T ha, wl_T hb, wl_T (by omega)]
  rfl
/-- the draw -/
def dr (a1 x6 : Int32) : Int32 := ((((((7919 * (a1 : Int32).toInt64) + (6151 * (x6 : Int32).toInt64)) + 1) * (((7919 * (a1 : Int32).toInt64) + (6151 * (x6 : Int32).toInt64)) + 1)) - ((((7919 * (a1 : Int32).toInt64) + (6151 * (x6 : Int32).toInt64)) + 1) * (((7919 * (a1 : Int32).toInt64) + (6151 * (x6 : Int32).toInt64)) + 1)) / 65521 * 65521) / 2 : Int64).toInt32
theorem dr_is {a i : Nat} (ha : a ≤ 9999) (hi : i ≤ 40) : ∃ q, q < 40000 ∧ dr (nI a) (nI i) = nI q := by
  unfold dr
  rw [nI_l (by omega), nI_l (by omega), show (7919 : Int64) = lN 7919 from rfl, show (6151 : Int64) = lN 6151 from rfl, show (1 : Int64) = lN 1 from rfl, show (65521 : Int64) = lN 65521 from rfl, show (2 : Int64) = lN 2 from rfl, lN_mul, lN_mul, lN_add, lN_add]
  have hv : 7919 * a + 6151 * i + 1 ≤ 80000000 := by omega
  generalize 7919 * a + 6151 * i + 1 = v at hv
  have hvv : v * v ≤ 80000000 * 80000000 := Nat.mul_le_mul hv hv
  rw [lN_mul]
  generalize v * v = V at hvv
  have h1 : V / 65521 * 65521 ≤ V := Nat.div_mul_le_self _ _
  rw [sd_divL (by omega) (by decide) (by decide), lN_mul, lN_sub h1, sd_divL (by omega) (by decide) (by decide), lN_i]
  exact ⟨_, by omega, rfl⟩
theorem CS.bought {np n pr p : Nat} {s : Sd} (hS : CS np n s) (hp : p < np) (h0 : hw s.2.1 s.2.2.1 p = 0) : CS np n (s.1, s.2.1 ||| 2 ^ p, s.2.2.1, s.2.2.2.1, s.2.2.2.2 - pr) := by
  obtain ⟨q1, q2⟩ := hw0 h0
  refine ⟨hS.1, Nat.or_lt_two_pow hS.2.1 (Nat.pow_lt_pow_right (by decide) hp), hS.2.2.1, fun q hq => ?_, hS.2.2.2.2.1, by have := hS.2.2.2.2.2; show s.2.2.2.2 - pr < 100; omega⟩
  have hq2 : (s.2.1 ||| 2 ^ p).testBit q = true := hq
  rw [Nat.testBit_or, Nat.testBit_two_pow] at hq2
  by_cases c : p = q
  · subst c; exact q1
  · simp [c] at hq2; exact hS.2.2.2.1 q hq2
theorem MS.bought {np pr p : Nat} {s : Sd} {b : Nat → Int32} (hn : np ≤ 8) (hp : p < np) (h : MS np s b) (h0 : hw s.2.1 s.2.2.1 p = 0) : MS np (s.1, s.2.1 ||| 2 ^ p, s.2.2.1, s.2.2.2.1, s.2.2.2.2 - pr) (upd (upd b (10 + p) 1) 0 (nI (s.2.2.2.2 - pr))) := by
  refine ⟨?_, ?_, fun q hq => ⟨?_, ?_⟩⟩
  · rw [upd_s]
  · rw [upd_n (by omega), upd_n (by omega)]; exact h.2.1
  · rw [upd_n (by omega), upd_n (by omega)]; exact (h.2.2 q hq).1
  · show _ = nI (hw (s.2.1 ||| 2 ^ p) s.2.2.1 q)
    rw [hw_bo (by omega) h0, upd_n (by omega)]
    by_cases c : q = p
    · subst c
      rw [if_pos rfl, upd_s]; rfl
    · rw [if_neg c, upd_n (by omega)]; exact (h.2.2 q hq).2
theorem CS.moved {np n p r : Nat} {s : Sd} (hS : CS np n s) (hp : p < 8) (hr : r < 4) : CS np n (mvN s.1 p r, s.2.1, s.2.2.1, s.2.2.2.1, s.2.2.2.2) := ⟨mvN_lt hS.1 hp hr, hS.2.1, hS.2.2.1, hS.2.2.2.1, hS.2.2.2.2.1, hS.2.2.2.2.2⟩
theorem MS.moved {np p r : Nat} {s : Sd} {b : Nat → Int32} (hn : np ≤ 8) (hp : p < np) (hr : r < 4) (h : MS np s b) : MS np (mvN s.1 p r, s.2.1, s.2.2.1, s.2.2.2.1, s.2.2.2.2) (upd b (2 + p) (nI r)) := by
  refine ⟨?_, ?_, fun q hq => ⟨?_, ?_⟩⟩
  · rw [upd_n (by omega)]; exact h.1
  · rw [upd_n (by omega)]; exact h.2.1
  · show _ = nI (rmo (mvN s.1 p r) q)
    rw [mvN_rmo (by omega) (by omega) (by omega)]
    by_cases c : q = p
    · subst c; rw [if_pos rfl, upd_s]
    · rw [if_neg c, upd_n (by omega)]; exact (h.2.2 q hq).1
  · rw [upd_n (by omega)]; exact (h.2.2 q hq).2
theorem sale_1 {h : Hd} {s : Sd} {cL mL : Int32} {cki cpr cpe cpl cho cwe mp md c5 : Nat → Int32} (hB : HB h) (hC : HC h (nI (hnp h)) (nI (hnd h)) cL cki cpr cpe cpl cho cwe) (hM : HM h (nI (hnp h)) (nI (hnd h)) mL mp md) (hS : CS (hnp h) (hnd h) s) (hMs : MS (hnp h) s c5) {q : Nat} (hq : q < 40000) :
    ∃ s' c5', CS (hnp h) (hnd h) s' ∧ MS (hnp h) s' c5' ∧ m_X5_dealOnce (nI q) (nI (hnp h)) (nI (hnd h)) cL (nI s.1) (nI s.2.1) (nI s.2.2.1) (nI s.2.2.2.1) (nI s.2.2.2.2) cki cpl cho cwe cpr = some (nI s'.1, nI s'.2.1, nI s'.2.2.1, nI s'.2.2.2.1, nI s'.2.2.2.2) ∧ ∀ (a2 a1 i : Int32) n, dr a1 i = nI q → ¬ a2 ≤ i → L_X6_sale_39 a2 a1 (nI (hnp h)) mL mp (nI (hnd h)) md (n + 1) c5 i = L_X6_sale_39 a2 a1 (nI (hnp h)) mL mp (nI (hnd h)) md n c5' (i + 1) := by
  obtain ⟨b1, b2, b3, b4, b5, b6⟩ := id hB
  obtain ⟨s1, s2, s3, s4, s5⟩ := hS.small b2 b3
  have t5 := v5_told hB hC hS rfl
  have l5 := v5_loose hB hC hS rfl rfl
  have t6 := v6_told hB hM hMs
  have l6 := v6_loose hB hM hMs
  have x1 : nI q - nI q / nI (hnp h) * nI (hnp h) = nI (q % hnp h) := sd_mod (by omega) (by omega) (by omega)
  have x2 : nI q / 8 - nI q / 8 / 3 * 3 = nI (q / 8 % 3) := by
    rw [pz_l8, pz_l3, sd_div (by omega) (by omega) (by omega), sd_mod (by omega) (by omega) (by omega)]
  have x3 : nI q / 32 - nI q / 32 / 4 * 4 = nI (q / 32 % 4) := by
    rw [pz_l32, pz_l4, sd_div (by omega) (by omega) (by omega), sd_mod (by omega) (by omega) (by omega)]
  have hp : q % hnp h < hnp h := Nat.mod_lt _ (by omega)
  have hk : q / 8 % 3 < 3 := Nat.mod_lt _ (by omega)
  have hr : q / 32 % 4 < 4 := Nat.mod_lt _ (by omega)
  have g0 : (!decide (nI (hnp h) = 0)) = true := by
    rw [decide_eq_false (fun e => by rw [pz_l0, pz_eq (by omega) (by omega)] at e; omega)]; rfl
  have hw6 : ∀ p, p < hnp h → c5 (10 + p) = nI (hw s.2.1 s.2.2.1 p) := fun p hp => (hMs.2.2 p hp).2
  obtain ⟨p, hpe⟩ : ∃ p, p = q % hnp h := ⟨_, rfl⟩
  obtain ⟨r, hre⟩ : ∃ r, r = q / 32 % 4 := ⟨_, rfl⟩
  obtain ⟨k, hke⟩ : ∃ k, k = q / 8 % 3 := ⟨_, rfl⟩
  rw [← hpe] at x1 hp
  rw [← hre] at x3 hr
  rw [← hke] at x2 hk
  unfold m_X5_dealOnce
  rw [if_pos (show (1 : Int32) ≤ nI (hnp h) from nI_le (a := 1) b1 (by omega)), g0, gu_true]
  simp only [pv_e, x1, x2, x3]
  have z00 : (nI 0 = (0 : Int32)) = True := eq_true rfl
  have z01 : (nI 0 = (1 : Int32)) = False := eq_false (by decide)
  have z02 : (nI 0 = (2 : Int32)) = False := eq_false (by decide)
  have z10 : (nI 1 = (0 : Int32)) = False := eq_false (by decide)
  have z11 : (nI 1 = (1 : Int32)) = True := eq_true rfl
  have z12 : (nI 1 = (2 : Int32)) = False := eq_false (by decide)
  have z20 : (nI 2 = (0 : Int32)) = False := eq_false (by decide)
  have z21 : (nI 2 = (1 : Int32)) = False := eq_false (by decide)
  have z22 : (nI 2 = (2 : Int32)) = True := eq_true rfl
  have hwl := hw_lt s.2.1 s.2.2.1 p
  have m2 := hMs.2.2 p hp
  have mpr := (hM.2.2.2.1 p hp).2
  have cpr' := (hC.2.2.2.1 p hp).2
  have hpr60 := (b5 p hp).2
  have hhow := v5_how hS b2 b3 rfl rfl (show p < 8 by omega)
  rcases (show k = 0 ∨ k = 1 ∨ k = 2 by omega) with rfl | rfl | rfl
  · simp only [z00, z01, z02, if_true, if_false, l5 p hp, ob1_s, bI_0]
    cases cl : vL h s p
    · refine ⟨s, c5, hS, hMs, rfl, fun a2 a1 i n hd hle => ?_⟩
      unfold dr at hd
      rw [L_X6_sale_39, if_neg hle]
      simp only [pv_e, hd, g0, gu_true, x1, x2, x3, z00, z01, z02, if_true, if_false, l6 p hp, ob1_s, bI_0, cl]
    · have h0 : hw s.2.1 s.2.2.1 p = 0 := by
        have c3 := cl
        rw [Bool.and_eq_true] at c3
        exact of_decide_eq_true c3.1
      refine ⟨sSp s p (vT h s p), _, hS.spoke hp (vT_lt2 s p) h0, hMs.spoke b2 hp, ?_, fun a2 a1 i n hd hle => ?_⟩
      · simp only [Bool.true_eq_false, if_false, (t5 p hp).1, ob1_s, (t5 p hp).2.1]
        rw [x4_letSpeak (by omega) (t5 p hp).2.2]
        rfl
      · unfold dr at hd
        rw [L_X6_sale_39, if_neg hle]
        simp only [pv_e, hd, g0, gu_true, x1, x2, x3, z00, z01, z02, if_true, if_false, l6 p hp, ob1_s, bI_0, cl, Bool.true_eq_false, t6 p hp, show (1 : Int32).toNatClampNeg = 1 from rfl, hMs.2.1, pz_or]
        simp (disch := omega) only [pz_l10, pz_add, pz_ok, gu_true, pz_cl]
  · simp only [z10, z11, z12, if_true, if_false, ob2_s]
    unfold m_X5_canBeBought
    simp (disch := omega) only [hhow, ob1_s, pz_n0, pz_ok, gu_true, pz_cl, cpr', pz_lt]
    by_cases c1 : hw s.2.1 s.2.2.1 p = 0
    · simp only [if_pos c1]
      by_cases c2 : s.2.2.2.2 < hpr h p
      · refine ⟨s, c5, hS, hMs, ?_, fun a2 a1 i n hd hle => ?_⟩
        · simp only [if_pos c2, ob1_s, if_true, ob2_s]
        · unfold dr at hd
          rw [L_X6_sale_39, if_neg hle]
          simp only [pv_e, hd, g0, gu_true, x1, x2, x3, z10, z11, z12, if_true, if_false, show (0 : Int32).toNatClampNeg = 0 from rfl, hMs.1]
          simp (disch := omega) only [pz_l10, pz_l2, pz_l1, pz_add, pz_mul, pz_ok, gu_true, pz_cl, m2.2, pz_n0, mpr, pz_lt, if_pos c1, if_pos c2]
      · refine ⟨_, _, hS.bought (pr := hpr h p) hp c1, hMs.bought (pr := hpr h p) b2 hp c1, ?_, fun a2 a1 i n hd hle => ?_⟩
        · simp only [if_neg c2, ob1_s]
          rw [if_neg (show ¬ (1 : Int32) = 0 by decide)]
          unfold m_X4_sell
          rw [pz_shl p (by omega), pz_or, pz_sub (by omega)]
          rfl
        · unfold dr at hd
          rw [L_X6_sale_39, if_neg hle]
          have hu : upd c5 (10 + p) 1 0 = nI s.2.2.2.2 := by rw [upd_n (by omega)]; exact hMs.1
          simp only [pv_e, hd, g0, gu_true, x1, x2, x3, z10, z11, z12, if_true, if_false, show (0 : Int32).toNatClampNeg = 0 from rfl, hMs.1]
          simp (disch := omega) only [pz_l10, pz_l2, nI_1, pz_add, pz_mul, pz_ok, gu_true, pz_cl, m2.2, pz_n0, mpr, pz_lt, if_pos c1, if_neg c2, hu]
          rw [pz_sub (by omega)]
    · refine ⟨s, c5, hS, hMs, ?_, fun a2 a1 i n hd hle => ?_⟩
      · simp only [if_neg c1, ob1_s, if_true, ob2_s]
      · unfold dr at hd
        rw [L_X6_sale_39, if_neg hle]
        simp only [pv_e, hd, g0, gu_true, x1, x2, x3, z10, z11, z12, if_true, if_false]
        simp (disch := omega) only [pz_l10, pz_add, pz_ok, gu_true, pz_cl, m2.2, pz_n0, if_neg c1]
  · simp only [z20, z21, z22, if_true, if_false, ob2_s, hhow, ob1_s]
    simp (disch := omega) only [pz_l2, pz_eq]
    by_cases c1 : hw s.2.1 s.2.2.1 p = 2
    · refine ⟨s, c5, hS, hMs, ?_, fun a2 a1 i n hd hle => ?_⟩
      · rw [if_pos c1]
      · unfold dr at hd
        rw [L_X6_sale_39, if_neg hle]
        simp only [pv_e, hd, g0, gu_true, x1, x2, x3, z20, z21, z22, if_true, if_false]
        simp (disch := omega) only [pz_l10, pz_l2, pz_add, pz_ok, gu_true, pz_cl, m2.2, pz_eq, if_pos c1]
    · refine ⟨_, _, hS.moved (p := p) (by omega) hr, hMs.moved b2 hp hr, ?_, fun a2 a1 i n hd hle => ?_⟩
      · rw [if_neg c1, x4_move (by omega) hr, ob1_s]
      · unfold dr at hd
        rw [L_X6_sale_39, if_neg hle]
        simp only [pv_e, hd, g0, gu_true, x1, x2, x3, z20, z21, z22, if_true, if_false]
        simp (disch := omega) only [pz_l10, pz_l2, pz_add, pz_ok, gu_true, pz_cl, m2.2, pz_eq, if_neg c1]
theorem sale_L {h : Hd} {a N : Nat} {cL mL : Int32} {cki cpr cpe cpl cho cwe mp md : Nat → Int32} (hB : HB h) (hC : HC h (nI (hnp h)) (nI (hnd h)) cL cki cpr cpe cpl cho cwe) (hM : HM h (nI (hnp h)) (nI (hnd h)) mL mp md) (ha : a ≤ 9999) (hN : N ≤ 40) :
    ∀ n i s c5, N < n + i → i ≤ N → CS (hnp h) (hnd h) s → MS (hnp h) s c5 → ∃ s' c5', CS (hnp h) (hnd h) s' ∧ MS (hnp h) s' c5' ∧ L_X5_sale_49 (nI N) (nI a) (nI (hnp h)) (nI (hnd h)) cL cki cpl cho cwe cpr n (nI s.1) (nI s.2.1) (nI s.2.2.1) (nI s.2.2.2.1) (nI s.2.2.2.2) (nI i) = some (nI s'.1, nI s'.2.1, nI s'.2.2.1, nI s'.2.2.2.1, nI s'.2.2.2.2) ∧ L_X6_sale_39 (nI N) (nI a) (nI (hnp h)) mL mp (nI (hnd h)) md n c5 (nI i) = some c5' := by
  intro n
  induction n with
  | zero => intro i s c5 h1 h2; omega
  | succ n ih =>
    intro i s c5 h1 h2 hS hMs
    by_cases hi : N ≤ i
    · refine ⟨s, c5, hS, hMs, ?_, ?_⟩
      · rw [L_X5_sale_49, if_pos (nI_le hi (by omega))]
      · rw [L_X6_sale_39, if_pos (nI_le hi (by omega))]
    · obtain ⟨q, hq, hdr⟩ := dr_is ha (show i ≤ 40 by omega)
      obtain ⟨s1, c1, g1, g2, g3, g4⟩ := sale_1 hB hC hM hS hMs hq
      obtain ⟨s2, c2, k1, k2, k3, k4⟩ := ih (i + 1) s1 c1 (by omega) (by omega) g1 g2
      refine ⟨s2, c2, k1, k2, ?_, ?_⟩
      · rw [L_X5_sale_49, if_neg (nI_ge (by omega) (by omega)), show m_X5_drawOf (nI a) (nI i) = some (nI q) from congrArg some hdr, ob1_s, g3, ob5_s]
        simp only [pv_e, nI_1]
        exact k3
      · rw [g4 _ _ _ n hdr (nI_ge (by omega) (by omega)), nI_1]
        exact k4
theorem api_sale {h : Hd} {s : Sd} {cP cD cL mP mD mL cro cbo csp cou cco tro tbo tsp tou tco : Int32} {cki cpr cpe cpl cho cwe mp md ms mw : Nat → Int32} (a1 : Int32) (a2 : Int32) (a3 : Int32) (hH : RH h cP cD cL cki cpr cpe cpl cho cwe mP mD mL mp md) (hN : RN h s cro cbo csp cou cco ms) : ∃ r tro' tbo' tsp' tou' tco' mw', m_X5_sale a1 a2 a3 cro cbo csp cou cco tro tbo tsp tou tco cP cD cL cki cpl cho cwe cpr = some (r, tro', tbo', tsp', tou', tco') ∧ m_X6_sale a1 a2 a3 mP mD mL ms mw mp md = some (r, mw') := by
  obtain ⟨hB, hC, hM⟩ := hH
  obtain ⟨hS, ⟨e1, e2, e3, e4, e5⟩, hMs⟩ := hN
  obtain ⟨b1, b2, b3, b4, b5, b6⟩ := id hB
  obtain ⟨s1, s2, s3, s4, s5⟩ := hS.small b2 b3
  have t5 := v5_told hB hC hS e1
  have l5 := v5_loose hB hC hS e2 e3
  have t6 := v6_told hB hM (hMs.asIs (now := mw) b2)
  have l6 := v6_loose hB hM (hMs.asIs (now := mw) b2)
  have eP := hC.1
  have eP2 := hM.1
  have eD := hC.2.1
  have eD2 := hM.2.1
  subst eP eP2 eD eD2
  have hpk := v5_packed hB hS ⟨e1, e2, e3, e4, e5⟩
  unfold m_X5_sale m_X6_sale
  rw [show m_X5_isWithin a1 0 9999 = some (bI (inR a1 0 9999)) from x5_within a1 0 9999 (by decide) (by decide), show m_X6_in a1 0 9999 = some (bI (inR a1 0 9999)) from x6_in a1 0 9999 (by decide) (by decide), show m_X5_isWithin a2 1 40 = some (bI (inR a2 1 40)) from x5_within a2 1 40 (by decide) (by decide), show m_X6_in a2 1 40 = some (bI (inR a2 1 40)) from x6_in a2 1 40 (by decide) (by decide), show m_X5_isWithin a3 0 1 = some (bI (inR a3 0 1)) from x5_within a3 0 1 (by decide) (by decide), show m_X6_in a3 0 1 = some (bI (inR a3 0 1)) from x6_in a3 0 1 (by decide) (by decide), r_asItIs, hpk]
  simp only [ob1_s, bI_0]
  cases c1 : inR a1 0 9999
  · exact ⟨-1, _, _, _, _, _, _, rfl, rfl⟩
  cases c2 : inR a2 1 40
  · exact ⟨-1, _, _, _, _, _, _, rfl, rfl⟩
  cases c3 : inR a3 0 1
  · exact ⟨-1, _, _, _, _, _, _, rfl, rfl⟩
  obtain ⟨a, -, ha, rfl⟩ := inR_of c1 (by decide)
  obtain ⟨N, -, hN, rfl⟩ := inR_of c2 (by decide)
  simp only [Bool.true_eq_false, if_false]
  obtain ⟨s', c5', g1, g2, g3, g4⟩ := sale_L hB hC hM ha hN 300 0 s (cpF mw 0 ms 0 18) (by omega) (by omega) hS (hMs.asIs (now := mw) b2)
  have y3 : L_X5_sale_49 (nI N) (nI a) (nI (hnp h)) (nI (hnd h)) cL cki cpl cho cwe cpr 300 (nI s.1) (nI s.2.1) (nI s.2.2.1) (nI s.2.2.2.1) (nI s.2.2.2.2) 0 = _ := g3
  have y4 : L_X6_sale_39 (nI N) (nI a) (nI (hnp h)) mL mp (nI (hnd h)) md 300 (cpF mw 0 ms 0 18) 0 = _ := g4
  rw [v5_unpack hB hS, ob5_s, y3, y4, ob5_s, ob1_s, show (1 : Int32).toNatClampNeg = 1 from rfl, show (0 : Int32).toNatClampNeg = 0 from rfl, g2.1, g2.2.1]
  by_cases q : a3 = 0
  · rw [if_pos q, if_pos q]; exact ⟨_, _, _, _, _, _, _, rfl, rfl⟩
  · rw [if_neg q, if_neg q]; exact ⟨_, _, _, _, _, _, _, rfl, rfl⟩
