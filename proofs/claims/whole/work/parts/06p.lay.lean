/-! THE CALLS: fault, lay -/
theorem fault_both {cpn mtn : Int32} {cpt mtx : Nat → Int32} (hT : RT cpn cpt mtn mtx) (dnu dki dpr dpe dpl dho dwe mto mrp mrr mrd : Nat → Int32) : Ft (m_X0_readFrom cpn cpt dnu dki dpr dpe dpl dho dwe) (m_X6_fault mtn mtx mto mrp mrr mrd) := by
  obtain ⟨k, V, hk, rfl, rfl, hV⟩ := hT
  have hD : DR (((0, 0, 0), ((fun _ => 0, fun _ => 0), (fun _ => 0, fun _ => 0, fun _ => 0, fun _ => 0))) : Hd) 0 50 0 0 0 50 0 dki dpr dpe dpl dho dwe 0 0 50 0 mrp mrr mrd := ⟨⟨by decide, by decide, by decide, fun p hp => absurd hp (Nat.not_lt_zero p), fun d hd => absurd hd (Nat.not_lt_zero d)⟩, ⟨rfl, rfl, rfl, fun p hp => absurd hp (Nat.not_lt_zero p), fun d hd => absurd hd (Nat.not_lt_zero d)⟩, ⟨rfl, rfl, rfl, fun p hp => absurd hp (Nat.not_lt_zero p), fun d hd => absurd hd (Nat.not_lt_zero d)⟩, rfl, rfl, rfl, by decide, by decide, fun p hp => absurd hp (Nat.not_lt_zero p)⟩
  exact fault_L hk hV 300 0 _ 0 50 0 0 0 50 0 0 0 50 0 dnu dki dpr dpe dpl dho dwe mto mrp mrr mrd (by omega) (by omega) hD
theorem api_fault {cpn mtn dP drf dD dco dL mat mrP mrD mrc mrL : Int32} {cpt mtx dnu dki dpr dpe dpl dho dwe mto mrp mrr mrd : Nat → Int32} (hT : RT cpn cpt mtn mtx) : ∃ r dP' drf' dD' dco' dL' dnu' dki' dpr' dpe' dpl' dho' dwe' mat' mrP' mrD' mrc' mrL' mto' mrp' mrr' mrd', m_X5_fault cpn cpt dnu dki dpr dpe dpl dho dwe = some (r, dP', drf', dD', dco', dL', dnu', dki', dpr', dpe', dpl', dho', dwe') ∧ m_X6_fault mtn mtx mto mrp mrr mrd = some (r, mat', mrP', mrD', mrc', mrL', mto', mrp', mrr', mrd') := by
  unfold m_X5_fault
  rcases fault_both hT dnu dki dpr dpe dpl dho dwe mto mrp mrr mrd with ⟨p, a, b, -, z1, z2⟩ | ⟨h, ro, co, aq, dP, drf, dD, dco, dL, mrP, mrD, mrc, mrL, nu, dki, dpr, dpe, dpl, dho, dwe, to, mrp, mrr, mrd, -, z1, z2⟩
  · obtain ⟨a1, a2, a3, a4, a5, a6, a7, a8, a9, a10, a11, a12⟩ := a
    obtain ⟨b1, b2, b3, b4, b5, b6, b7, b8, b9⟩ := b
    exact ⟨nI p, a1, a2, a3, a4, a5, a6, a7, a8, a9, a10, a11, a12, b1, b2, b3, b4, b5, b6, b7, b8, b9, by rw [z1]; rfl, z2⟩
  · exact ⟨-4, dP, drf, dD, dco, dL, nu, dki, dpr, dpe, dpl, dho, dwe, aq, mrP, mrD, mrc, mrL, to, mrp, mrr, mrd, by rw [z1]; rfl, z2⟩
def zF (c : Nat → Int32) (i : Nat) : Nat → Int32 := fun j => if j < i then 0 else c j
theorem zero_L {c : Nat → Int32} : ∀ n i, 18 < n + i → i ≤ 18 → L_X6_settles_56 n (zF c i) (nI i) = some (zF c 18) := by
  intro n
  induction n with
  | zero => intro i h1 h2; omega
  | succ n ih =>
    intro i h4 h5
    rw [L_X6_settles_56]
    by_cases hi : 18 ≤ i
    · have e : i = 18 := by omega
      subst e
      rw [if_pos (show (18 : Int32) ≤ nI 18 by decide)]
    · have IH := ih (i + 1) (by omega) (by omega)
      rw [if_neg (show ¬ (18 : Int32) ≤ nI i from nI_ge (a := i) (b := 18) (by omega) (by omega))]
      simp (disch := omega) only [pz_ok, gu_true, pz_cl, pv_e, nI_1, pz_add]
      rw [show upd (zF c i) i 0 = zF c (i + 1) by
        funext j
        unfold upd zF
        by_cases c1 : j = i
        · subst c1
          rw [if_pos rfl, if_pos (by omega)]
        · rw [if_neg c1]
          by_cases c2 : j < i
          · rw [if_pos c2, if_pos (by omega)]
          · rw [if_neg c2, if_neg (by omega)]]
      exact IH
theorem settle_L {h : Hd} {ro co : Nat} {dP drf dD dco dL mrP mrD mrc mrL : Int32} {dki dpr dpe dpl dho dwe mrp mrr mrd : Nat → Int32} (hD : DR h ro co dP drf dD dco dL dki dpr dpe dpl dho dwe mrP mrD mrc mrL mrp mrr mrd) (mp md ms : Nat → Int32) : ∃ mp' md' ms', m_X6_settles mrP mrD mrc mrL mrp mp mrd md ms mrr = some (mrP, mrD, mrL, 0, 0, 0, mp', md', ms') ∧ HM h mrP mrD mrL mp' md' ∧ MS (hnp h) (ro, 0, 0, 0, co) ms' := by
  obtain ⟨⟨b1, b2, b3, b4, b5⟩, -, ⟨rfl, rfl, rfl, c4, c5⟩, -, -, rfl, d3, d4, d5⟩ := hD
  refine ⟨cpF mp 0 mrp 0 16, cpF md 0 mrd 0 40, cpF (upd (zF ms 18) 0 (nI co)) 2 mrr 0 (hnp h), ?_, ⟨rfl, rfl, rfl, fun p hp => ?_, fun d hd => ?_⟩, ?_, ?_, fun p hp => ?_⟩
  · unfold m_X6_settles
    have y1 : m_X6_copies 0 0 16 16 mrp 16 mp = some (cpF mp 0 mrp 0 16) := r_copies (a := 0) (f := 0) (n0 := 16) (by omega) (by omega) (by omega) (by omega) (by omega)
    have y2 : m_X6_copies 0 0 40 40 mrd 40 md = some (cpF md 0 mrd 0 40) := r_copies (a := 0) (f := 0) (n0 := 40) (by omega) (by omega) (by omega) (by omega) (by omega)
    have y3 : L_X6_settles_56 300 ms 0 = some (zF ms 18) := by
      have z := zero_L (c := ms) 300 0 (by omega) (by omega)
      rw [show zF ms 0 = ms by funext j; unfold zF; rw [if_neg (Nat.not_lt_zero j)]] at z
      exact z
    have y4 : m_X6_copies 2 0 (nI (hnp h)) 8 mrr 18 (upd (zF ms 18) 0 (nI co)) = some (cpF (upd (zF ms 18) 0 (nI co)) 2 mrr 0 (hnp h)) := r_copies (a := 2) (f := 0) (n0 := hnp h) (by omega) (by omega) (by omega) (by omega) (by omega)
    rw [y1, ob1_s, y2, ob1_s, y3, ob1_s, pv_e]
    have y5 : (0 : Int32).toNatClampNeg = 0 := by decide
    rw [y5, y4, ob1_s]
  · have e1 := cpF_in (to := mp) (fo := mrp) (a := 0) (f := 0) (n := 16) (show 2 * p < 16 by omega)
    have e2 := cpF_in (to := mp) (fo := mrp) (a := 0) (f := 0) (n := 16) (show 2 * p + 1 < 16 by omega)
    rw [Nat.zero_add] at e1 e2
    rw [e1, e2]
    exact c4 p hp
  · have e0 := cpF_in (to := md) (fo := mrd) (a := 0) (f := 0) (n := 40) (show 4 * d < 40 by omega)
    have e1 := cpF_in (to := md) (fo := mrd) (a := 0) (f := 0) (n := 40) (show 4 * d + 1 < 40 by omega)
    have e2 := cpF_in (to := md) (fo := mrd) (a := 0) (f := 0) (n := 40) (show 4 * d + 2 < 40 by omega)
    have e3 := cpF_in (to := md) (fo := mrd) (a := 0) (f := 0) (n := 40) (show 4 * d + 3 < 40 by omega)
    rw [Nat.zero_add] at e0 e1 e2 e3
    rw [e0, e1, e2, e3]
    exact c5 d hd
  · rw [cpF_out (by omega)]; rfl
  · rw [cpF_out (by omega)]; rfl
  · refine ⟨?_, ?_⟩
    · rw [cpF_in hp, Nat.zero_add]; exact d5 p hp
    · rw [cpF_out (by omega)]
      unfold upd zF hw
      rw [if_neg (by omega), if_pos (by omega)]
      simp only [Nat.zero_testBit]
      rfl
theorem DR.RN {h : Hd} {ro co : Nat} {dP drf dD dco dL mrP mrD mrc mrL : Int32} {dki dpr dpe dpl dho dwe mrp mrr mrd : Nat → Int32} (hD : DR h ro co dP drf dD dco dL dki dpr dpe dpl dho dwe mrP mrD mrc mrL mrp mrr mrd) {ms : Nat → Int32} (hM : MS (hnp h) (ro, 0, 0, 0, co) ms) : RN h (ro, 0, 0, 0, co) drf 0 0 0 dco ms := by
  obtain ⟨⟨b1, b2, b3, b4, b5⟩, -, -, rfl, rfl, -, d3, d4, -⟩ := hD
  refine ⟨⟨?_, Nat.two_pow_pos _, Nat.two_pow_pos _, fun p hp => ?_, Nat.two_pow_pos _, d3⟩, ⟨rfl, rfl, rfl, rfl, rfl⟩, hM⟩
  · exact Nat.lt_of_lt_of_le d4 (Nat.pow_le_pow_right (n := 2) (by decide) (show 2 * hnp h ≤ 16 by omega))
  · exact Nat.zero_testBit p
theorem DR.RH {h : Hd} {ro co : Nat} {dP drf dD dco dL mrP mrD mrc mrL : Int32} {dki dpr dpe dpl dho dwe mrp mrr mrd : Nat → Int32} (hD : DR h ro co dP drf dD dco dL dki dpr dpe dpl dho dwe mrP mrD mrc mrL mrp mrr mrd) (hn : hnp h ≠ 0) {mp md : Nat → Int32} (hM : HM h mrP mrD mrL mp md) : RH h dP dD dL dki dpr dpe dpl dho dwe mrP mrD mrL mp md := by
  obtain ⟨⟨b1, b2, b3, b4, b5⟩, hC, -⟩ := hD
  exact ⟨⟨by omega, b1, b2, b3, b4, b5⟩, hC, hM⟩
theorem api_lay {h : Hd} {s : Sd} {cP cD cL mP mD mL cro cbo csp cou cco cnx cdp ma ckc mk cln msn cpn mtn dP drf dD dco dL mat mrP mrD mrc mrL : Int32} {cki cpr cpe cpl cho cwe mp md ms mwa mkp csP csD csT mse cpt mtx dnu dki dpr dpe dpl dho dwe mto mrp mrr mrd : Nat → Int32} {cri cke : Nat → Int64} {aL aD : Nat} (hH : RH h cP cD cL cki cpr cpe cpl cho cwe mP mD mL mp md) (hN : RN h s cro cbo csp cou cco ms) (hP : RP h cnx cdp cri ma mwa) (hK : RK h ckc cke mk mkp) (hS : RS h cln csP csD csT msn mse) (hT : RT cpn cpt mtn mtx) : ∃ r aL' aD' ckc' dP' drf' dD' dco' dL' dnu' dki' dpr' dpe' dpl' dho' dwe' cro' cbo' csp' cou' cco' cdp' cln' mP' mD' mL' ma' mk' msn' mat' mrP' mrD' mrc' mrL' mto' mrp' mrr' mrd' mp' md' ms', m_X5_lay aL aD ckc cpn cpt dnu dki dpr dpe dpl dho dwe cro cbo csp cou cco cdp cln = some (r, aL', aD', ckc', dP', drf', dD', dco', dL', dnu', dki', dpr', dpe', dpl', dho', dwe', cro', cbo', csp', cou', cco', cdp', cln') ∧ m_X6_lay mP mD mL ma mk msn mtn mtx mto mrp mrr mrd mp md ms = some (r, mP', mD', mL', ma', mk', msn', mat', mrP', mrD', mrc', mrL', mto', mrp', mrr', mrd', mp', md', ms') ∧ ((aL' = aL ∧ aD' = aD ∧ RH h cP cD cL cki cpr cpe cpl cho cwe mP' mD' mL' mp' md' ∧ (∃ s, RN h s cro' cbo' csp' cou' cco' ms') ∧ RP h cnx cdp' cri ma' mwa ∧ RK h ckc' cke mk' mkp ∧ RS h cln' csP csD csT msn' mse) ∨ (aL' = aD ∧ aD' = aL ∧ (∃ h, RH h dP' dD' dL' dki' dpr' dpe' dpl' dho' dwe' mP' mD' mL' mp' md' ∧ (∃ s, RN h s cro' cbo' csp' cou' cco' ms') ∧ RP h cnx cdp' cri ma' mwa ∧ RK h ckc' cke mk' mkp ∧ RS h cln' csP csD csT msn' mse))) := by
  unfold m_X5_lay m_X6_lay
  rcases fault_both hT dnu dki dpr dpe dpl dho dwe mto mrp mrr mrd with ⟨p, a, b, hp, z1, z2⟩ | ⟨h', ro, co, aq, dP', drf', dD', dco', dL', mrP', mrD', mrc', mrL', nu', dki', dpr', dpe', dpl', dho', dwe', to', mrp', mrr', mrd', hD, z1, z2⟩
  · obtain ⟨a1, a2, a3, a4, a5, a6, a7, a8, a9, a10, a11, a12⟩ := a
    obtain ⟨b1, b2, b3, b4, b5, b6, b7, b8, b9⟩ := b
    rw [z1, z2]
    have hne : ¬ nI p = -4 := fun q => by
      have h1 := congrArg Int32.toInt q
      rw [nI_toInt (by omega)] at h1
      have h4 : (-4 : Int32).toInt = -4 := by decide
      omega
    refine ⟨-2, aL, aD, ckc, a1, a2, a3, a4, a5, a6, a7, a8, a9, a10, a11, a12, cro, cbo, csp, cou, cco, cdp, cln, mP, mD, mL, ma, mk, msn, b1, b2, b3, b4, b5, b6, b7, b8, b9, mp, md, ms, ?_, ?_, Or.inl ⟨rfl, rfl, hH, ⟨s, hN⟩, hP, hK, hS⟩⟩
    · simp only [ob13, if_neg hne]
    · simp only [ob10, if_neg hne]
  · rw [z1, z2]
    have hD0 := hD
    obtain ⟨⟨q1, q2, q3, q4, q5⟩, ⟨rfl, rfl, rfl, e4, e5⟩, ⟨rfl, rfl, rfl, f4, f5⟩, -⟩ := hD
    by_cases hn : hnp h' = 0
    · have n0 : nI (hnp h') = 0 := by rw [hn]; rfl
      refine ⟨-2, aL, aD, ckc, nI (hnp h'), drf', nI (hnd h'), dco', nI (hlaw h'), nu', dki', dpr', dpe', dpl', dho', dwe', cro, cbo, csp, cou, cco, cdp, cln, mP, mD, mL, ma, mk, msn, aq, nI (hnp h'), nI (hnd h'), mrc', nI (hlaw h'), to', mrp', mrr', mrd', mp, md, ms, ?_, ?_, Or.inl ⟨rfl, rfl, hH, ⟨s, hN⟩, hP, hK, hS⟩⟩
      · simp only [ob13]
        rw [if_pos trivial, if_pos n0]
      · simp only [ob10]
        rw [if_pos trivial, if_pos n0]
    · have n0 : ¬ nI (hnp h') = 0 := fun q => hn ((pz_eq (b := 0) (by omega) (by omega)).mp q)
      obtain ⟨mp', md', ms', y1, y2, y3⟩ := settle_L hD0 mp md ms
      refine ⟨nI (hnp h'), aD, aL, 0, nI (hnp h'), drf', nI (hnd h'), dco', nI (hlaw h'), nu', dki', dpr', dpe', dpl', dho', dwe', drf', 0, 0, 0, dco', 0, 0, nI (hnp h'), nI (hnd h'), nI (hlaw h'), 0, 0, 0, aq, nI (hnp h'), nI (hnd h'), mrc', nI (hlaw h'), to', mrp', mrr', mrd', mp', md', ms', ?_, ?_, Or.inr ⟨rfl, rfl, h', hD0.RH hn y2, ⟨_, hD0.RN y3⟩, ?_, ?_, ?_⟩⟩
      · simp only [ob13]
        rw [if_pos trivial, if_neg n0]
        rfl
      · simp only [ob10]
        rw [if_pos trivial, if_neg n0, y1]
        rfl
      · obtain ⟨k, x, hist, w1, w2, w3, w4, w5, w6⟩ := hP
        exact ⟨0, x, hist, by omega, w2, w3, rfl, rfl, fun i hi => absurd hi (Nat.not_lt_zero i)⟩
      · exact ⟨0, fun _ => s, by omega, rfl, rfl, fun i hi => absurd hi (Nat.not_lt_zero i)⟩
      · exact ⟨0, fun _ => 0, fun _ => 0, fun _ => false, by omega, rfl, rfl, fun i hi => absurd hi (Nat.not_lt_zero i)⟩
