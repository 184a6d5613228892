/-! THE CALLS: hush and its kin, deed, ruin, count -/
theorem pz_e0 {x : Nat} (h : x < 2147483648) : (nI x = 0) = (x = 0) := by rw [pz_l0, pz_eq h (by decide)]
theorem nd_0 (a b n : Nat) (ha : a < 2 ^ n) (hn : n ≤ 32) : nd a b = 0 ↔ ∀ p, p < n → a.testBit p = true → b.testBit p = true := by
  constructor
  · intro h p hp h1
    have h2 := congrArg (fun y => y.testBit p) h
    simp only [nd_bit _ _ _ (show p < 32 by omega), h1, Nat.zero_testBit] at h2
    cases c : b.testBit p
    · rw [c] at h2; cases h2
    · rfl
  · intro h
    refine bits_ext (n := n) (Nat.lt_of_le_of_lt (nd_le _ _) ha) (Nat.two_pow_pos n) (fun p hp => ?_)
    rw [nd_bit _ _ _ (by omega), Nat.zero_testBit]
    cases c : a.testBit p
    · rfl
    · rw [h p hp c]; rfl
theorem and_0 (a b n : Nat) (ha : a < 2 ^ n) : a &&& b = 0 ↔ ∀ d, d < n → a.testBit d = true → b.testBit d = false := by
  constructor
  · intro h d hd h1
    have h2 := congrArg (fun y => y.testBit d) h
    simp only [Nat.testBit_and, h1, Nat.zero_testBit, Bool.true_and] at h2
    exact h2
  · intro h
    refine bits_ext (n := n) (Nat.lt_of_le_of_lt Nat.and_le_left ha) (Nat.two_pow_pos n) (fun d hd => ?_)
    rw [Nat.testBit_and, Nat.zero_testBit]
    cases c : a.testBit d
    · rfl
    · rw [h d hd c]; rfl
theorem sm_mono {P Q : Nat → Bool} (f : Nat → Nat) : ∀ {n : Nat}, (∀ j, j < n → P j = true → Q j = true) → sm P f n ≤ sm Q f n
  | 0, _ => Nat.le_refl _
  | n + 1, h => by
    unfold sm
    have h1 := sm_mono f (fun j hj => h j (by omega) : ∀ j, j < n → P j = true → Q j = true)
    by_cases hP : P n = true
    · rw [if_pos hP, if_pos (h n (by omega) hP)]; omega
    · rw [if_neg hP]; omega
theorem sub_le {a b n : Nat} (ha : a < 2 ^ n) (h : ∀ p, p < n → a.testBit p = true → b.testBit p = true) : a ≤ b := by
  have e : a &&& b = a := by
    refine bits_ext (n := n) (Nat.lt_of_le_of_lt Nat.and_le_left ha) ha (fun p hp => ?_)
    rw [Nat.testBit_and]
    cases c : a.testBit p
    · rfl
    · rw [h p hp c]; rfl
  rw [← e]; exact Nat.and_le_right
theorem p2le {n : Nat} (h : n ≤ 8) : 2 ^ n ≤ 256 := Nat.pow_le_pow_right (n := 2) (by decide) h
/-- which sets leave none that tells: all loose, with every loose one that tells -/
theorem valid_iff {np : Nat} {Lo : Nat → Bool} {T : Nat → Nat} {S i : Nat} (hn : np ≤ 8) (hi : i < 2 ^ np) (hT : ∀ p, p < np → T p < 512) :
    (decide (nd i (bts Lo np) = 0) && decide (orS T (nd (bts Lo np) i) np &&& S = 0)) = true ↔ ∀ p, p < np → (i.testBit p = true → Lo p = true) ∧ (Lo p = true → T p &&& S ≠ 0 → i.testBit p = true) := by
  rw [Bool.and_eq_true, decide_eq_true_iff, decide_eq_true_iff, nd_0 i _ np hi (by omega), and_0 _ S 9 (orS_lt T _ 9 np hT)]
  constructor
  · rintro ⟨h1, h2⟩ p hp
    refine ⟨fun h => ?_, fun hL hS => ?_⟩
    · have := h1 p hp h
      rw [bts_bit] at this
      simpa [hp] using this
    · cases c : i.testBit p
      · exfalso
        apply hS
        rw [and_0 _ _ 9 (hT p hp)]
        intro d hd hTd
        refine h2 d hd ((orS_bit T _ d np).mpr ⟨p, hp, ?_, hTd⟩)
        rw [nd_bit _ _ _ (by omega), bts_bit, c, hL]
        simp [hp]
      · rfl
  · intro h
    refine ⟨fun p hp h1 => ?_, fun d hd h1 => ?_⟩
    · rw [bts_bit, (h p hp).1 h1]; simp [hp]
    · obtain ⟨p, hp, h2, h3⟩ := (orS_bit T _ d np).mp h1
      rw [nd_bit _ _ _ (by omega), bts_bit] at h2
      have hL : Lo p = true := by
        cases c : Lo p
        · rw [c] at h2; simp at h2
        · rfl
      have hni : ¬ i.testBit p = true := fun q => by rw [q] at h2; simp at h2
      cases c : S.testBit d
      · rfl
      · exfalso
        refine hni ((h p hp).2 hL (fun q => ?_))
        have := (and_0 _ _ 9 (hT p hp)).mp q d hd h3
        rw [this] at c; cases c
theorem r_hushesL {np : Nat} {mD : Int32} {now mp md : Nat → Int32} {Lo : Nat → Bool} {T pr : Nat → Nat} {S M : Nat} (hn : np ≤ 8) (hS : S < 512) (hT : ∀ p, p < np → m_X6_toldBy (nI p) mD md now mp = some (nI (T p)) ∧ T p < 512) (hp : ∀ p, p < np → mp (2 * p + 1) = nI (pr p) ∧ pr p ≤ 60) (hM : M = bts (fun p => Lo p && decide (T p &&& S ≠ 0)) np) :
    ∀ n i, 2 ^ np < n + i → i ≤ 2 ^ np → L_X6_hushes_14 (nI np) (nI (bts Lo np)) mD md now mp (nI S) n (nI (if i ≤ M then 0 else M)) (if i ≤ M then -1 else nI (sm M.testBit pr np)) (nI i) = some (nI M, nI (sm M.testBit pr np)) := by
  have h256 := p2le hn
  have hM2 : M < 2 ^ np := by rw [hM]; exact bts_lt _ _
  have hA2 : bts Lo np < 2 ^ np := bts_lt _ _
  have hprM : ∀ X, sm X pr np ≤ 60 * np := fun X => sm_le X pr 60 np (fun j hj => (hp j hj).2)
  intro n
  induction n with
  | zero => intro i h1 h2; omega
  | succ n ih =>
    intro i h1 h2
    rw [L_X6_hushes_14, pz_shl np (by omega)]
    by_cases hi : 2 ^ np ≤ i
    · have e : i = 2 ^ np := by omega
      rw [if_pos (nI_le hi (by omega)), if_neg (by omega), if_neg (by omega)]
    · have IH := ih (i + 1) (by omega) (by omega)
      have hnd := nd_le (bts Lo np) i
      have hni := nd_le i (bts Lo np)
      have hand : orS T (nd (bts Lo np) i) np &&& S < 2147483648 := Nat.lt_of_le_of_lt Nat.and_le_right (by omega)
      have q1 := r_toldSet (S := nd (bts Lo np) i) hn (by omega) (fun p hp => (hT p hp).1)
      have q2 := r_price (mp := mp) (pr := pr) (S := i) hn (by omega) (fun p hq => (hp p hq).1)
      rw [if_neg (nI_ge (by omega) (by omega)), pz_not, pz_not, q1, q2]
      simp (disch := omega) only [ob1_s, pz_and, pz_e0, bz_10, bz_b0, bI_0]
      have hv := valid_iff (Lo := Lo) (T := T) (S := S) hn (show i < 2 ^ np by omega) (fun p hp => (hT p hp).2)
      by_cases V : (decide (nd i (bts Lo np) = 0) && decide (orS T (nd (bts Lo np) i) np &&& S = 0)) = true
      · have hle : M ≤ i := by
          rw [hM]
          refine sub_le (n := np) (bts_lt _ _) (fun p hp hb => ?_)
          rw [bts_bit] at hb
          simp only [hp, decide_true, Bool.true_and, Bool.and_eq_true, decide_eq_true_iff] at hb
          exact (hv.mp V p hp).2 hb.1 hb.2
        simp only [V, Bool.true_eq_false, if_false]
        by_cases e : i = M
        · rw [if_pos (show i ≤ M by omega), if_pos (show i ≤ M by omega)]
          rw [if_pos (show (-1 : Int32) < 0 by decide), ob1_s, if_neg (show ¬ (1 : Int32) = 0 by decide), ob1_s, if_neg (show ¬ (1 : Int32) = 0 by decide)]
          simp only [pv_e, nI_1]
          rw [if_neg (show ¬ i + 1 ≤ M by omega), if_neg (show ¬ i + 1 ≤ M by omega)] at IH
          rw [← e] at IH ⊢
          exact IH
        · rw [if_neg (show ¬ i ≤ M by omega), if_neg (show ¬ i ≤ M by omega)]
          rw [if_neg (show ¬ i + 1 ≤ M by omega), if_neg (show ¬ i + 1 ≤ M by omega)] at IH
          have hb1 := hprM M.testBit
          have hb2 := hprM i.testBit
          have hmono : sm M.testBit pr np ≤ sm i.testBit pr np := sm_mono pr (fun p hp hb => by
            rw [hM, bts_bit] at hb
            simp only [hp, decide_true, Bool.true_and, Bool.and_eq_true, decide_eq_true_iff] at hb
            exact (hv.mp V p hp).2 hb.1 hb.2)
          rw [if_neg (nI_pos (by omega)), if_pos (nI_le hmono (by omega)), ob1_s, if_pos rfl, ob1_s, if_pos rfl]
          simp only [pv_e, nI_1]
          exact IH
      · have hf : (decide (nd i (bts Lo np) = 0) && decide (orS T (nd (bts Lo np) i) np &&& S = 0)) = false := by
          cases c : (decide (nd i (bts Lo np) = 0) && decide (orS T (nd (bts Lo np) i) np &&& S = 0))
          · rfl
          · exact absurd c V
        have hne : i ≠ M := fun e => V (hv.mpr (fun p hp => by
          have hb : i.testBit p = (Lo p && decide (T p &&& S ≠ 0)) := by rw [e, hM, bts_bit]; simp [hp]
          rw [hb]
          refine ⟨fun q => ?_, fun q1 q2 => ?_⟩
          · rw [Bool.and_eq_true] at q; exact q.1
          · rw [q1]; simpa using q2))
        simp only [hf, if_true, ob1_s, pv_e, nI_1]
        have e1 : (i ≤ M) = (i + 1 ≤ M) := propext ⟨fun q => by omega, fun q => by omega⟩
        simp only [e1]
        exact IH
theorem r_hushes {np : Nat} {mD mL a2 : Int32} {now mp md : Nat → Int32} {Lo : Nat → Bool} {T pr : Nat → Nat} {S : Nat} (hn : np ≤ 8) (hS : S < 512) (hL : ∀ p, p < np → m_X6_isLoose (nI p) mL now mp = some (bI (Lo p))) (hT : ∀ p, p < np → m_X6_toldBy (nI p) mD md now mp = some (nI (T p)) ∧ T p < 512) (hp : ∀ p, p < np → mp (2 * p + 1) = nI (pr p) ∧ pr p ≤ 60) :
    m_X6_hushes (nI S) a2 (nI np) mD mL now mp md = some (if a2 = 0 then nI (sm (bts (fun p => Lo p && decide (T p &&& S ≠ 0)) np).testBit pr np) else nI (bts (fun p => Lo p && decide (T p &&& S ≠ 0)) np)) := by
  unfold m_X6_hushes
  have h256 := p2le hn
  have h := r_hushesL (Lo := Lo) hn hS hT hp rfl 300 0 (by omega) (Nat.zero_le _)
  rw [if_pos (Nat.zero_le _), if_pos (Nat.zero_le _)] at h
  rw [r_loose hn hL, ob1_s, pz_l0, h, ob2_s]
  by_cases c : a2 = nI 0
  · rw [if_pos c, if_pos c]
  · rw [if_neg c, if_neg c]
theorem c_silence {np : Nat} {bo sp law rooms cnd a2 : Int32} {cki cpl cho cwe cpr : Nat → Int32} {Lo : Nat → Bool} {T R pr : Nat → Nat} {S : Nat} (hn : np ≤ 8) (hL : ∀ p, p < np → m_X5_isLoose (nI p) bo sp law cki = some (bI (Lo p))) (hT : ∀ p, p < np → m_X4_roomOf (nI p) rooms = some (nI (R p)) ∧ m_X0_toldBy (nI p) (nI (R p)) cnd cpl cki cho cwe = some (nI (T p)) ∧ T p < 512) (hp : ∀ p, p < np → cpr p = nI (pr p)) :
    m_X5_silence (nI S) a2 (nI np) cnd law rooms bo sp cki cpl cho cwe cpr = some (if a2 = 0 then nI (sm (bts (fun p => Lo p && decide (T p &&& S ≠ 0)) np).testBit pr np) else nI (bts (fun p => Lo p && decide (T p &&& S ≠ 0)) np)) := by
  unfold m_X5_silence
  have h256 := p2le hn
  have hb := bts_lt (fun p => Lo p && decide (T p &&& S ≠ 0)) np
  rw [c_tellers (S := S) hn hL hT, ob1_s, c_price hn (by omega) hp, ob1_s]
  by_cases c : a2 = 0
  · rw [if_pos c, if_pos c]
  · rw [if_neg c, if_neg c]
theorem api_hush {h : Hd} {s : Sd} {cP cD cL mP mD mL cro cbo csp cou cco : Int32} {cki cpr cpe cpl cho cwe mp md ms mw : Nat → Int32} (a1 : Int32) (a2 : Int32) (hH : RH h cP cD cL cki cpr cpe cpl cho cwe mP mD mL mp md) (hN : RN h s cro cbo csp cou cco ms) : ∃ r mw', m_X5_hush a1 a2 cP cD cL cro cbo csp cou cki cpl cho cwe cpr = some r ∧ m_X6_hush a1 a2 mP mD mL ms mw mp md = some (r, mw') := by
  obtain ⟨hB, hC, hM⟩ := hH
  obtain ⟨hS, ⟨e1, e2, e3, e4, e5⟩, hMs⟩ := hN
  obtain ⟨b1, b2, b3, b4, b5, b6⟩ := id hB
  obtain ⟨s1, s2, s3, s4, s5⟩ := hS.small b2 b3
  have t5 := v5_told hB hC hS e1
  have l5 := v5_loose hB hC hS e2 e3
  have t6 := v6_told hB hM (hMs.asIs (now := mw) b2)
  have l6 := v6_loose hB hM (hMs.asIs (now := mw) b2)
  have eP := hC.1
  have eP2 := hM.1
  have eD := hC.2.1
  have eD2 := hM.2.1
  subst eP eP2 eD eD2
  have k1 := fun (S : Nat) => c_silence (a2 := a2) (S := S) b2 l5 t5 (fun p hp => (hC.2.2.2.1 p hp).2)
  have k2 := fun (S : Nat) (hS9 : S < 512) => r_hushes (a2 := a2) (S := S) b2 hS9 l6 (fun p hp => ⟨t6 p hp, (t5 p hp).2.2⟩) (fun p hp => ⟨(hM.2.2.2.1 p hp).2, (b5 p hp).2⟩)
  unfold m_X5_hush m_X6_hush
  rw [x5_deed _ _ (by omega), x6_deed _ _ (by omega), pz_l0, pz_l1, x5_within a2 0 1 (by decide) (by decide), x6_in a2 0 1 (by decide) (by decide), r_asItIs, show (nI 1).toNatClampNeg = 1 from rfl, hMs.2.1, e4]
  simp only [ob1_s, ← pz_l0, ← pz_l1, bI_0]
  cases c1 : okI a1 (hnd h)
  · exact ⟨-1, _, rfl, rfl⟩
  cases c2 : inR a2 0 1
  · exact ⟨-1, _, rfl, rfl⟩
  obtain ⟨d, hd, rfl⟩ := okI_of c1 (by omega)
  rw [x5_out (by omega) (by omega), x6_has (by omega) (by omega)]
  simp only [ob1_s, bI_0, Bool.true_eq_false, if_false]
  cases c3 : s.2.2.2.1.testBit d
  · simp only [if_true]
    have h2 : 2 ^ d < 512 := show 2 ^ d < 2 ^ 9 from Nat.pow_lt_pow_right (by decide) (by omega)
    rw [pz_shl d (by omega), k1, k2 _ h2]
    exact ⟨_, _, rfl, rfl⟩
  · exact ⟨-4, _, rfl, rfl⟩
theorem r_heavyL {n0 : Nat} {md ms : Nat → Int32} {we : Nat → Nat} {w ou : Nat} (hn : n0 ≤ 9) (hw1 : w < 1000) (ho : ou < 512) (hms : ms 1 = nI ou) (hw : ∀ d, d < n0 → md (4 * d + 3) = nI (we d) ∧ we d < 1000) : ∀ n i, n0 < n + i → i ≤ n0 → L_X6_hushAll_30 (nI n0) md (nI w) ms n (nI (bts (fun d => decide (w ≤ we d) && !ou.testBit d) i)) (nI i) = some (nI (bts (fun d => decide (w ≤ we d) && !ou.testBit d) n0)) := by
  intro n
  induction n with
  | zero => intro i h1 h2; omega
  | succ n ih =>
    intro i h1 h2
    rw [L_X6_hushAll_30]
    by_cases hi : n0 ≤ i
    · have e : i = n0 := by omega
      subst e
      rw [if_pos (nI_le (Nat.le_refl _) (by omega))]
    · have IH := ih (i + 1) (by omega) (by omega)
      rw [if_neg (nI_ge (by omega) (by omega))]
      obtain ⟨w1, w2⟩ := hw i (by omega)
      rw [x6_weighs (by omega), w1, show (1 : Int32).toNatClampNeg = 1 from rfl, hms, x6_has (by omega) (by omega)]
      simp (disch := omega) only [ob1_s, bI_0, pz_lt, pv_e, nI_1, pz_shl, pz_or, pz_or0]
      simp only [bts] at IH
      by_cases c1 : we i < w
      · have c2 : ¬ w ≤ we i := by omega
        simp [c1, c2] at IH ⊢; exact IH
      · have c2 : w ≤ we i := by omega
        cases c3 : ou.testBit i <;> simp [c1, c2, c3] at IH ⊢ <;> exact IH

theorem r_oneL {n0 : Nat} {md ms : Nat → Int32} {pe : Nat → Nat} {w ou : Nat} (hn : n0 ≤ 9) (hw1 : w < 1000) (ho : ou < 512) (hms : ms 1 = nI ou) (hw : ∀ d, d < n0 → md (4 * d) = nI (pe d) ∧ pe d < 1000) : ∀ n i, n0 < n + i → i ≤ n0 → L_X6_hushOne_29 (nI n0) md (nI w) ms n (nI (bts (fun d => decide (pe d = w) && !ou.testBit d) i)) (nI i) = some (nI (bts (fun d => decide (pe d = w) && !ou.testBit d) n0)) := by
  intro n
  induction n with
  | zero => intro i h1 h2; omega
  | succ n ih =>
    intro i h1 h2
    rw [L_X6_hushOne_29]
    by_cases hi : n0 ≤ i
    · have e : i = n0 := by omega
      subst e
      rw [if_pos (nI_le (Nat.le_refl _) (by omega))]
    · have IH := ih (i + 1) (by omega) (by omega)
      rw [if_neg (nI_ge (by omega) (by omega))]
      obtain ⟨w1, w2⟩ := hw i (by omega)
      rw [show (1 : Int32).toNatClampNeg = 1 from rfl, hms, x6_has (by omega) (by omega)]
      simp (disch := omega) only [pz_l4, pz_mul, pz_ok, gu_true, pz_cl, w1, pz_eq, ob1_s, bI_0, pv_e, nI_1, pz_shl, pz_or, pz_or0]
      simp only [bts] at IH
      by_cases c1 : pe i = w
      · cases c3 : ou.testBit i <;> simp [c1, c3] at IH ⊢ <;> exact IH
      · simp [c1] at IH ⊢; exact IH

theorem r_ruinL {n0 : Nat} {md ms : Nat → Int32} {pe we : Nat → Nat} {w ou : Nat} (hn : n0 ≤ 9) (hw1 : w < 1000) (ho : ou < 512) (hms : ms 1 = nI ou) (hw : ∀ d, d < n0 → md (4 * d) = nI (pe d) ∧ pe d < 1000 ∧ md (4 * d + 3) = nI (we d)) : ∀ n i, n0 < n + i → i ≤ n0 → L_X6_ruin_15 (nI n0) md (nI w) ms n (nI (sm (fun d => decide (pe d = w) && ou.testBit d) we i)) (nI i) = some (nI (sm (fun d => decide (pe d = w) && ou.testBit d) we n0)) := by
  intro n
  induction n with
  | zero => intro i h1 h2; omega
  | succ n ih =>
    intro i h1 h2
    rw [L_X6_ruin_15]
    by_cases hi : n0 ≤ i
    · have e : i = n0 := by omega
      subst e
      rw [if_pos (nI_le (Nat.le_refl _) (by omega))]
    · have IH := ih (i + 1) (by omega) (by omega)
      rw [if_neg (nI_ge (by omega) (by omega))]
      obtain ⟨w1, w2, w3⟩ := hw i (by omega)
      rw [x6_weighs (by omega), w3, show (1 : Int32).toNatClampNeg = 1 from rfl, hms, x6_has (by omega) (by omega)]
      simp (disch := omega) only [pz_l4, pz_mul, pz_ok, gu_true, pz_cl, w1, pz_eq, ob1_s, bI_0, pv_e, nI_1, pz_add, pz_add0]
      simp only [sm] at IH
      by_cases c1 : pe i = w
      · cases c3 : ou.testBit i <;> simp [c1, c3] at IH ⊢ <;> exact IH
      · simp [c1] at IH ⊢; exact IH

theorem r_manyL {n0 k : Nat} {ms : Nat → Int32} {hwf : Nat → Nat} (hn : n0 ≤ 8) (hk : k < 10) (hw : ∀ p, p < n0 → ms (10 + p) = nI (hwf p) ∧ hwf p < 10) : ∀ n i, n0 < n + i → i ≤ n0 → L_X6_manyAre_4 (nI n0) ms (nI k) n (nI (cnt (fun p => decide (hwf p = k)) i)) (nI i) = some (nI (cnt (fun p => decide (hwf p = k)) n0)) := by
  intro n
  induction n with
  | zero => intro i h1 h2; omega
  | succ n ih =>
    intro i h1 h2
    rw [L_X6_manyAre_4]
    by_cases hi : n0 ≤ i
    · have e : i = n0 := by omega
      subst e
      rw [if_pos (nI_le (Nat.le_refl _) (by omega))]
    · have IH := ih (i + 1) (by omega) (by omega)
      rw [if_neg (nI_ge (by omega) (by omega))]
      obtain ⟨w1, w2⟩ := hw i (by omega)
      simp (disch := omega) only [pz_l10, pz_add, pz_ok, gu_true, pz_cl, w1, pz_eq, pv_e, nI_1, pz_add0]
      simp only [cnt] at IH
      by_cases c1 : hwf i = k <;> simp [c1] at IH ⊢ <;> exact IH

theorem bts_nd (P : Nat → Bool) (o n : Nat) (hn : n ≤ 32) : nd (bts P n) o = bts (fun d => P d && !o.testBit d) n := by
  refine bits_ext (n := n) (Nat.lt_of_le_of_lt (nd_le _ _) (bts_lt _ _)) (bts_lt _ _) (fun i hi => ?_)
  rw [nd_bit _ _ _ (by omega), bts_bit, bts_bit]
  simp [hi]
theorem api_hushAll {h : Hd} {s : Sd} {cP cD cL mP mD mL cro cbo csp cou cco : Int32} {cki cpr cpe cpl cho cwe mp md ms mw : Nat → Int32} (a1 : Int32) (a2 : Int32) (hH : RH h cP cD cL cki cpr cpe cpl cho cwe mP mD mL mp md) (hN : RN h s cro cbo csp cou cco ms) : ∃ r mw', m_X5_hushAll a1 a2 cP cD cL cwe cro cbo csp cou cki cpl cho cpr = some r ∧ m_X6_hushAll a1 a2 mP mD mL ms mw md mp = some (r, mw') := by
  obtain ⟨hB, hC, hM⟩ := hH
  obtain ⟨hS, ⟨e1, e2, e3, e4, e5⟩, hMs⟩ := hN
  obtain ⟨b1, b2, b3, b4, b5, b6⟩ := id hB
  obtain ⟨s1, s2, s3, s4, s5⟩ := hS.small b2 b3
  have t5 := v5_told hB hC hS e1
  have l5 := v5_loose hB hC hS e2 e3
  have t6 := v6_told hB hM (hMs.asIs (now := mw) b2)
  have l6 := v6_loose hB hM (hMs.asIs (now := mw) b2)
  have eP := hC.1
  have eP2 := hM.1
  have eD := hC.2.1
  have eD2 := hM.2.1
  subst eP eP2 eD eD2
  have k1 := fun (S : Nat) => c_silence (a2 := a2) (S := S) b2 l5 t5 (fun p hp => (hC.2.2.2.1 p hp).2)
  have k2 := fun (S : Nat) (hS9 : S < 512) => r_hushes (a2 := a2) (S := S) b2 hS9 l6 (fun p hp => ⟨t6 p hp, (t5 p hp).2.2⟩) (fun p hp => ⟨(hM.2.2.2.1 p hp).2, (b5 p hp).2⟩)
  unfold m_X5_hushAll m_X6_hushAll
  rw [pz_l0, pz_l1, pz_l30, x5_within a1 1 30 (by decide) (by decide), x6_in a1 1 30 (by decide) (by decide), x5_within a2 0 1 (by decide) (by decide), x6_in a2 0 1 (by decide) (by decide), r_asItIs]
  simp only [ob1_s, ← pz_l0, ← pz_l1, bI_0]
  cases c1 : inR a1 1 30
  · exact ⟨-1, _, rfl, rfl⟩
  cases c2 : inR a2 0 1
  · exact ⟨-1, _, rfl, rfl⟩
  obtain ⟨w, hw1, hw2, rfl⟩ := inR_of c1 (by decide)
  have g1 := c_heavy (nd := hnd h) (we := hwe h) (w := w) b3 (by omega) (fun d hd => ⟨(hC.2.2.2.2 d hd).2.2.2, by have := b6 d hd; omega⟩)
  have g2 := r_heavyL (n0 := hnd h) (we := hwe h) (w := w) (ou := s.2.2.2.1) b3 (by omega) s4 hMs.2.1 (fun d hd => ⟨(hM.2.2.2.2 d hd).2.2.2, by have := b6 d hd; omega⟩) 300 0 (by omega) (by omega)
  rw [show bts (fun d => decide (w ≤ hwe h d) && !s.2.2.2.1.testBit d) 0 = 0 from rfl, ← pz_l0] at g2
  simp only [Bool.true_eq_false, if_false]
  have hlt : bts (fun d => decide (w ≤ hwe h d) && !s.2.2.2.1.testBit d) (hnd h) < 512 := lt512 hB (bts_lt _ _)
  rw [g1, ob1_s, e4, pz_not, bts_nd _ _ _ (by omega), g2, ob1_s, k1, k2 _ hlt]
  exact ⟨_, _, rfl, rfl⟩
theorem api_hushOne {h : Hd} {s : Sd} {cP cD cL mP mD mL cro cbo csp cou cco : Int32} {cki cpr cpe cpl cho cwe mp md ms mw : Nat → Int32} (a1 : Int32) (a2 : Int32) (hH : RH h cP cD cL cki cpr cpe cpl cho cwe mP mD mL mp md) (hN : RN h s cro cbo csp cou cco ms) : ∃ r mw', m_X5_hushOne a1 a2 cP cD cL cpe cro cbo csp cou cki cpl cho cwe cpr = some r ∧ m_X6_hushOne a1 a2 mP mD mL ms mw md mp = some (r, mw') := by
  obtain ⟨hB, hC, hM⟩ := hH
  obtain ⟨hS, ⟨e1, e2, e3, e4, e5⟩, hMs⟩ := hN
  obtain ⟨b1, b2, b3, b4, b5, b6⟩ := id hB
  obtain ⟨s1, s2, s3, s4, s5⟩ := hS.small b2 b3
  have t5 := v5_told hB hC hS e1
  have l5 := v5_loose hB hC hS e2 e3
  have t6 := v6_told hB hM (hMs.asIs (now := mw) b2)
  have l6 := v6_loose hB hM (hMs.asIs (now := mw) b2)
  have eP := hC.1
  have eP2 := hM.1
  have eD := hC.2.1
  have eD2 := hM.2.1
  subst eP eP2 eD eD2
  have k1 := fun (S : Nat) => c_silence (a2 := a2) (S := S) b2 l5 t5 (fun p hp => (hC.2.2.2.1 p hp).2)
  have k2 := fun (S : Nat) (hS9 : S < 512) => r_hushes (a2 := a2) (S := S) b2 hS9 l6 (fun p hp => ⟨t6 p hp, (t5 p hp).2.2⟩) (fun p hp => ⟨(hM.2.2.2.1 p hp).2, (b5 p hp).2⟩)
  unfold m_X5_hushOne m_X6_hushOne
  rw [pz_l0, pz_l1, pz_l5, x5_person a1, x6_in a1 0 5 (by decide) (by decide), x5_within a2 0 1 (by decide) (by decide), x6_in a2 0 1 (by decide) (by decide), r_asItIs]
  simp only [ob1_s, ← pz_l0, ← pz_l1, bI_0]
  cases c1 : inR a1 0 5
  · exact ⟨-1, _, rfl, rfl⟩
  cases c2 : inR a2 0 1
  · exact ⟨-1, _, rfl, rfl⟩
  obtain ⟨w, hw1, hw2, rfl⟩ := inR_of c1 (by decide)
  have g1 := c_deedsOf (nd := hnd h) (pe := hpe h) (w := w) b3 (by omega) (fun d hd => ⟨(hC.2.2.2.2 d hd).1, by have := b6 d hd; omega⟩)
  have g2 := r_oneL (n0 := hnd h) (pe := hpe h) (w := w) (ou := s.2.2.2.1) b3 (by omega) s4 hMs.2.1 (fun d hd => ⟨(hM.2.2.2.2 d hd).1, by have := b6 d hd; omega⟩) 300 0 (by omega) (by omega)
  rw [show bts (fun d => decide (hpe h d = w) && !s.2.2.2.1.testBit d) 0 = 0 from rfl, ← pz_l0] at g2
  simp only [Bool.true_eq_false, if_false]
  have hlt : bts (fun d => decide (hpe h d = w) && !s.2.2.2.1.testBit d) (hnd h) < 512 := lt512 hB (bts_lt _ _)
  rw [g1, ob1_s, e4, pz_not, bts_nd _ _ _ (by omega), g2, ob1_s, k1, k2 _ hlt]
  exact ⟨_, _, rfl, rfl⟩
theorem api_ruin {h : Hd} {s : Sd} {cP cD cL mP mD mL cro cbo csp cou cco : Int32} {cki cpr cpe cpl cho cwe mp md ms : Nat → Int32} (a1 : Int32) (hH : RH h cP cD cL cki cpr cpe cpl cho cwe mP mD mL mp md) (hN : RN h s cro cbo csp cou cco ms) : ∃ r, m_X5_ruin a1 cD cpe cou cwe = some r ∧ m_X6_ruin a1 mD md ms = some r := by
  obtain ⟨hB, hC, hM⟩ := hH
  obtain ⟨hS, ⟨e1, e2, e3, e4, e5⟩, hMs⟩ := hN
  obtain ⟨b1, b2, b3, b4, b5, b6⟩ := id hB
  obtain ⟨s1, s2, s3, s4, s5⟩ := hS.small b2 b3
  have eD := hC.2.1
  have eD2 := hM.2.1
  unfold m_X5_ruin m_X6_ruin
  rw [x5_person a1, pz_l0, pz_l5, x6_in a1 0 5 (by decide) (by decide)]
  simp only [ob1_s, ← pz_l0, bI_0]
  cases c1 : inR a1 0 5
  · exact ⟨-1, rfl, rfl⟩
  obtain ⟨w, hw1, hw2, rfl⟩ := inR_of c1 (by decide)
  have g1 := c_deedsOf (nd := hnd h) (pe := hpe h) (w := w) b3 (by omega) (fun d hd => ⟨(hC.2.2.2.2 d hd).1, by have := b6 d hd; omega⟩)
  have g2 := r_ruinL (n0 := hnd h) (pe := hpe h) (we := hwe h) (w := w) (ou := s.2.2.2.1) b3 (by omega) s4 hMs.2.1 (fun d hd => ⟨(hM.2.2.2.2 d hd).1, by have := b6 d hd; omega, (hM.2.2.2.2 d hd).2.2.2⟩) 300 0 (by omega) (by omega)
  rw [show sm (fun d => decide (hpe h d = w) && s.2.2.2.1.testBit d) (hwe h) 0 = 0 from rfl, ← pz_l0] at g2
  have hlt : bts (fun d => decide (hpe h d = w)) (hnd h) < 512 := lt512 hB (bts_lt _ _)
  simp only [Bool.true_eq_false, if_false]
  rw [eD, g1, ob1_s, e4, pz_and, c_weight b3 (Nat.lt_of_le_of_lt Nat.and_le_left (by omega)) (fun d hd => (hC.2.2.2.2 d hd).2.2.2), ob1_s, eD2, g2, ob1_s]
  refine ⟨_, rfl, ?_⟩
  congr 2
  refine sm_congr (fun d hd => ?_) (fun d hd _ => rfl)
  rw [Nat.testBit_and, bts_bit]
  simp [hd]
theorem api_deed {h : Hd} {s : Sd} {cP cD cL mP mD mL cro cbo csp cou cco : Int32} {cki cpr cpe cpl cho cwe mp md ms mw : Nat → Int32} (a1 : Int32) (a2 : Int32) (hH : RH h cP cD cL cki cpr cpe cpl cho cwe mP mD mL mp md) (hN : RN h s cro cbo csp cou cco ms) : ∃ r mw', m_X5_deed a1 a2 cP cD cL cro cbo csp cou cki cpl cho cwe cpe = some r ∧ m_X6_deed a1 a2 mP mD mL ms mw mp md = some (r, mw') := by
  obtain ⟨hB, hC, hM⟩ := hH
  obtain ⟨hS, ⟨e1, e2, e3, e4, e5⟩, hMs⟩ := hN
  obtain ⟨b1, b2, b3, b4, b5, b6⟩ := id hB
  obtain ⟨s1, s2, s3, s4, s5⟩ := hS.small b2 b3
  have t5 := v5_told hB hC hS e1
  have l5 := v5_loose hB hC hS e2 e3
  have t6 := v6_told hB hM (hMs.asIs (now := mw) b2)
  have l6 := v6_loose hB hM (hMs.asIs (now := mw) b2)
  have eP := hC.1
  have eP2 := hM.1
  have eD := hC.2.1
  have eD2 := hM.2.1
  subst eP eP2 eD eD2
  have d6 := v6_does hB hM (hMs.asIs (now := mw) b2)
  unfold m_X5_deed m_X6_deed
  rw [x5_deed _ _ (by omega), x6_deed _ _ (by omega), show m_X6_in a2 0 5 = some (bI (inR a2 0 5)) from x6_in a2 0 5 (by decide) (by decide), r_asItIs]
  simp only [ob1_s, bI_0]
  cases c1 : okI a1 (hnd h)
  · exact ⟨-1, _, rfl, rfl⟩
  obtain ⟨d, hd, rfl⟩ := okI_of c1 (by omega)
  have m1 := hM.2.2.2.2 d hd
  have c4 := hC.2.2.2.2 d hd
  simp only [Bool.true_eq_false, if_false]
  cases c2 : inR a2 0 5
  · have hne : ∀ k : Nat, k ≤ 5 → ¬ a2 = nI k := fun k hk q => by rw [q, inR_nI (by omega) hk (by decide)] at c2; cases c2
    simp only [if_neg (show ¬ a2 = 0 from hne 0 (by omega)), if_neg (show ¬ a2 = 5 from hne 5 (by omega)), if_neg (show ¬ a2 = 1 from hne 1 (by omega)), if_neg (show ¬ a2 = 2 from hne 2 (by omega)), if_neg (show ¬ a2 = 3 from hne 3 (by omega)), if_neg (show ¬ a2 = 4 from hne 4 (by omega)), if_true]
    exact ⟨-1, _, rfl, rfl⟩
  obtain ⟨k, -, hk, rfl⟩ := inR_of c2 (by decide)
  simp only [Bool.true_eq_false, if_false]
  have hbit : (if s.2.2.2.1.testBit d = false then some (0 : Int32) else some 1) = some (nI (s.2.2.2.1 / 2 ^ d % 2)) := by
    have h := pz_tb s.2.2.2.1 d
    cases c : s.2.2.2.1.testBit d
    · rw [c] at h; simp at h; rw [if_pos rfl, show s.2.2.2.1 / 2 ^ d % 2 = 0 by omega]; rfl
    · rw [c] at h; simp at h; rw [if_neg (by decide), h]; rfl
  rcases (show k = 0 ∨ k = 1 ∨ k = 2 ∨ k = 3 ∨ k = 4 ∨ k = 5 by omega) with rfl | rfl | rfl | rfl | rfl | rfl
  · rw [if_pos (show nI 0 = (0 : Int32) from rfl), if_neg (show ¬ (4 : Int32) ≤ nI 0 by decide)]
    simp (disch := omega) only [pz_l4, pz_mul, pz_add, pz_ok, gu_true, pz_cl, c4.1]
    rw [show 4 * d + 0 = 4 * d from rfl, m1.1]
    exact ⟨_, _, rfl, rfl⟩
  · rw [if_neg (by decide), if_pos (show nI 1 = (1 : Int32) from rfl), if_neg (show ¬ (4 : Int32) ≤ nI 1 by decide)]
    simp (disch := omega) only [pz_l4, pz_mul, pz_add, pz_ok, gu_true, pz_cl, c4.2.1, m1.2.1]
    exact ⟨_, _, rfl, rfl⟩
  · rw [if_neg (by decide), if_neg (by decide), if_pos (show nI 2 = (2 : Int32) from rfl), if_neg (show ¬ (4 : Int32) ≤ nI 2 by decide)]
    simp (disch := omega) only [pz_l4, pz_mul, pz_add, pz_ok, gu_true, pz_cl, c4.2.2.1, m1.2.2.1]
    exact ⟨_, _, rfl, rfl⟩
  · rw [if_neg (by decide), if_neg (by decide), if_neg (by decide), if_pos (show nI 3 = (3 : Int32) from rfl), if_neg (show ¬ (4 : Int32) ≤ nI 3 by decide)]
    simp (disch := omega) only [pz_l4, pz_mul, pz_add, pz_ok, gu_true, pz_cl, c4.2.2.2, m1.2.2.2]
    exact ⟨_, _, rfl, rfl⟩
  · rw [if_neg (by decide), if_neg (by decide), if_neg (by decide), if_neg (by decide), if_pos (show nI 4 = (4 : Int32) from rfl), if_pos (show (4 : Int32) ≤ nI 4 by decide), if_pos (show nI 4 = (4 : Int32) from rfl)]
    rw [e4, x5_out (by omega) (by omega), ob1_s, show (1 : Int32).toNatClampNeg = 1 from rfl, hMs.2.1, pz_bit1 (by omega) (by omega)]
    simp only [bI_0]
    rw [hbit]
    exact ⟨_, _, rfl, rfl⟩
  · rw [if_neg (by decide), if_neg (by decide), if_neg (by decide), if_neg (by decide), if_neg (by decide), if_pos (show nI 5 = (5 : Int32) from rfl), if_pos (show (4 : Int32) ≤ nI 5 by decide), if_neg (show ¬ nI 5 = (4 : Int32) by decide)]
    rw [pz_shl d (by omega), c_tellers (S := 2 ^ d) b2 l5 t5, ob1_s, r_tellers b2 l6 (fun p hp => d6 p d hp hd), ob1_s]
    have e : bts (fun p => vL h s p && tellS (hnd h) (hpl h) (hho h) (hwe h) (hki h p) (rmo s.1 p) d) (hnp h) = bts (fun p => vL h s p && decide (vT h s p &&& 2 ^ d ≠ 0)) (hnp h) := bts_congr (fun p hp => by
      rw [and_pow, show (vT h s p).testBit d = (decide (d < hnd h) && tellS (hnd h) (hpl h) (hho h) (hwe h) (hki h p) (rmo s.1 p) d) from bts_bit _ _ _]
      simp [hd])
    rw [e]
    exact ⟨_, _, rfl, rfl⟩
theorem api_count {h : Hd} {s : Sd} {cP cD cL mP mD mL cro cbo csp cou cco cnx cdp ma ckc mk cln msn cpn mtn : Int32} {cki cpr cpe cpl cho cwe mp md ms mwa mkp csP csD csT mse cpt mtx mw : Nat → Int32} {cri cke : Nat → Int64} (a1 : Int32) (hH : RH h cP cD cL cki cpr cpe cpl cho cwe mP mD mL mp md) (hN : RN h s cro cbo csp cou cco ms) (hP : RP h cnx cdp cri ma mwa) (hK : RK h ckc cke mk mkp) (hS_1 : RS h cln csP csD csT msn mse) (hT : RT cpn cpt mtn mtx) : ∃ r mw', m_X5_count a1 ckc cpn cdp cln cbo csp cou cco cP cD cL cki = some r ∧ m_X6_count a1 mP mD mL ma mk msn mtn ms mw mp = some (r, mw') := by
  obtain ⟨hB, hC, hM⟩ := hH
  obtain ⟨hS, ⟨e1, e2, e3, e4, e5⟩, hMs⟩ := hN
  obtain ⟨b1, b2, b3, b4, b5, b6⟩ := id hB
  obtain ⟨s1, s2, s3, s4, s5⟩ := hS.small b2 b3
  have t5 := v5_told hB hC hS e1
  have l5 := v5_loose hB hC hS e2 e3
  have t6 := v6_told hB hM (hMs.asIs (now := mw) b2)
  have l6 := v6_loose hB hM (hMs.asIs (now := mw) b2)
  have eP := hC.1
  have eP2 := hM.1
  have eD := hC.2.1
  have eD2 := hM.2.1
  subst eP eP2 eD eD2
  obtain ⟨pk, px, ph, -, -, -, rfl, rfl, -⟩ := hP
  obtain ⟨kk, kh, -, rfl, rfl, -⟩ := hK
  obtain ⟨sk, sP, sD, sB, -, rfl, rfl, -⟩ := hS_1
  obtain ⟨tk, tV, -, rfl, rfl, -⟩ := hT
  have lo := c_loose b2 l5
  have lo6 := r_loose b2 l6
  have hlo := lt256 hB (bts_lt (vL h s) (hnp h))
  have c10 : ∀ (X n : Nat), X < 2 ^ n → n ≤ 10 → cnt X.testBit 10 = cnt X.testBit n := fun X n hX hn => by
    have key : ∀ m, n ≤ m → m ≤ 10 → cnt X.testBit m = cnt X.testBit n := by
      intro m
      induction m with
      | zero => intro h1 h2; have : n = 0 := by omega
                subst this; rfl
      | succ m ihm =>
        intro h1 h2
        by_cases c : n = m + 1
        · subst c; rfl
        · have hb : X.testBit m = false := Nat.testBit_lt_two_pow (Nat.lt_of_lt_of_le hX (Nat.pow_le_pow_right (by decide) (by omega)))
          show cnt X.testBit m + (if X.testBit m = true then 1 else 0) = _
          rw [ihm (by omega) (by omega), hb]; simp
    exact key 10 (by omega) (by omega)
  have many := fun (k : Nat) (hk : k < 10) => r_manyL (n0 := hnp h) (k := k) (ms := ms) (hwf := fun p => hw s.2.1 s.2.2.1 p) b2 hk (fun p hp => ⟨(hMs.2.2 p hp).2, by have := hw_lt s.2.1 s.2.2.1 p; omega⟩) 300 0 (by omega) (by omega)
  have b1c : cnt s.2.1.testBit (hnp h) = cnt (fun p => decide (hw s.2.1 s.2.2.1 p = 1)) (hnp h) := cnt_congr (fun p hp => by
    unfold hw
    cases q1 : s.2.1.testBit p
    · cases q2 : s.2.2.1.testBit p <;> simp
    · rw [hS.2.2.2.1 p q1]; simp)
  have b2c : cnt s.2.2.1.testBit (hnp h) = cnt (fun p => decide (hw s.2.1 s.2.2.1 p = 2)) (hnp h) := cnt_congr (fun p hp => by
    unfold hw
    cases q2 : s.2.2.1.testBit p
    · cases q1 : s.2.1.testBit p <;> simp
    · simp)
  have hm1 := many 1 (by omega)
  have hm2 := many 2 (by omega)
  rw [show cnt (fun p => decide (hw s.2.1 s.2.2.1 p = 1)) 0 = 0 from rfl] at hm1
  rw [show cnt (fun p => decide (hw s.2.1 s.2.2.1 p = 2)) 0 = 0 from rfl] at hm2
  unfold m_X5_count m_X6_count
  rw [r_asItIs, ob1_s, lo, lo6, ob1_s, ob1_s, e2, e3, e4, j6_bits _ (by omega), j6_bits _ (by omega), j6_bits _ (by omega), j6_bits _ (by omega), r_bits (by omega), show (1 : Int32).toNatClampNeg = 1 from rfl, show (0 : Int32).toNatClampNeg = 0 from rfl, hMs.1, hMs.2.1, r_bits (by omega), e5]
  unfold m_X6_manyAre
  rw [show (0 : Int32) = nI 0 from rfl, show (1 : Int32) = nI 1 from rfl, show (2 : Int32) = nI 2 from rfl, hm1, hm2]
  simp only [ob1_s]
  rw [c10 _ _ hS.2.1 (by omega), c10 _ _ hS.2.2.1 (by omega), b1c, b2c]
  by_cases q0 : a1 = nI 0
  · simp only [if_pos q0]; exact ⟨_, _, rfl, rfl⟩
  simp only [if_neg q0]
  by_cases q1 : a1 = nI 1
  · simp only [if_pos q1]; exact ⟨_, _, rfl, rfl⟩
  simp only [if_neg q1]
  by_cases q2 : a1 = nI 2
  · simp only [if_pos q2]; exact ⟨_, _, rfl, rfl⟩
  simp only [if_neg q2]
  by_cases q3 : a1 = 3
  · simp only [if_pos q3]; exact ⟨_, _, rfl, rfl⟩
  simp only [if_neg q3]
  by_cases q4 : a1 = 4
  · simp only [if_pos q4]; exact ⟨_, _, rfl, rfl⟩
  simp only [if_neg q4]
  by_cases q5 : a1 = 5
  · simp only [if_pos q5]; exact ⟨_, _, rfl, rfl⟩
  simp only [if_neg q5]
  by_cases q6 : a1 = 6
  · simp only [if_pos q6]; exact ⟨_, _, rfl, rfl⟩
  simp only [if_neg q6]
  by_cases q7 : a1 = 7
  · simp only [if_pos q7]; exact ⟨_, _, rfl, rfl⟩
  simp only [if_neg q7]
  by_cases q8 : a1 = 8
  · simp only [if_pos q8]; exact ⟨_, _, rfl, rfl⟩
  simp only [if_neg q8]
  by_cases q9 : a1 = 9
  · simp only [if_pos q9]; exact ⟨_, _, rfl, rfl⟩
  simp only [if_neg q9]
  by_cases q10 : a1 = 10
  · simp only [if_pos q10]; exact ⟨_, _, rfl, rfl⟩
  simp only [if_neg q10]
  exact ⟨-1, _, rfl, rfl⟩
