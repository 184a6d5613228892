/-! THE CALLS: save, cover -/
theorem e6_nlt {a b : Nat} (h : b ≤ a) (ha : a < 2147483648) : ¬ nI a < nI b := fun q => by rw [pz_lt ha (by omega)] at q; omega
def fillF (told : Nat → Int32) (T : Nat → Nat) (i : Nat) : Nat → Int32 := fun j => if j < i then nI (T j) else told j
theorem c_fillToldL {np : Nat} {rooms cnd : Int32} {cpl cki cho cwe told : Nat → Int32} {T R : Nat → Nat} (hn : np ≤ 8) (hT : ∀ p, p < np → m_X4_roomOf (nI p) rooms = some (nI (R p)) ∧ m_X0_toldBy (nI p) (nI (R p)) cnd cpl cki cho cwe = some (nI (T p)) ∧ T p < 512) : ∀ n i, np < n + i → i ≤ np → L_X5_fillTold_2 (nI np) rooms cnd cpl cki cho cwe n (fillF told T i) (nI i) = some (fillF told T np) := by
  intro n
  induction n with
  | zero => intro i h1 h2; omega
  | succ n ih =>
    intro i h1 h2
    rw [L_X5_fillTold_2]
    by_cases hi : np ≤ i
    · have e : i = np := by omega
      subst e
      rw [if_pos (nI_le (Nat.le_refl _) (by omega))]
    · have IH := ih (i + 1) (by omega) (by omega)
      obtain ⟨t1, t2, t3⟩ := hT i (by omega)
      rw [if_neg (nI_ge (by omega) (by omega)), t1, ob1_s, t2, ob1_s, pz_ok (by omega) (by omega), gu_true, pz_cl (by omega)]
      simp only [pv_e, nI_1]
      rw [show upd (fillF told T i) i (nI (T i)) = fillF told T (i + 1) by
        funext j
        unfold upd fillF
        by_cases c : j = i
        · subst c; rw [if_pos rfl, if_pos (Nat.lt_succ_self _)]
        · rw [if_neg c]
          by_cases c2 : j < i
          · rw [if_pos c2, if_pos (by omega)]
          · rw [if_neg c2, if_neg (by omega)]]
      exact IH
theorem c_fillTold {np : Nat} {rooms cnd : Int32} {cpl cki cho cwe : Nat → Int32} {T R : Nat → Nat} (told : Nat → Int32) (hn : np ≤ 8) (hT : ∀ p, p < np → m_X4_roomOf (nI p) rooms = some (nI (R p)) ∧ m_X0_toldBy (nI p) (nI (R p)) cnd cpl cki cho cwe = some (nI (T p)) ∧ T p < 512) : m_X5_fillTold (nI np) cnd rooms cpl cki cho cwe told = some (fillF told T np) := by
  unfold m_X5_fillTold
  have h := c_fillToldL (told := told) hn hT 300 0 (by omega) (by omega)
  rw [show fillF told T 0 = told by funext j; unfold fillF; rw [if_neg (by omega)], ← pz_l0] at h
  rw [h, ob1_s]
theorem fill_at {told : Nat → Int32} {T : Nat → Nat} {np : Nat} : ∀ p, p < np → fillF told T np p = nI (T p) := fun p hp => by unfold fillF; rw [if_pos hp]
theorem orS_512 {T : Nat → Nat} {np S : Nat} (hT : ∀ p, p < np → T p < 512) : orS T S np < 512 := orS_lt T S 9 np hT
theorem c_weightLeft {np dn ou S : Nat} {told cwe : Nat → Int32} {T we : Nat → Nat} (hn : np ≤ 8) (hd : dn ≤ 9) (hS : S < 2147483648) (hT : ∀ p, p < np → told p = nI (T p) ∧ T p < 512) (hw : ∀ d, d < dn → cwe d = nI (we d)) : m_X5_weightLeft (nI S) (nI np) (nI dn) told (nI ou) cwe = some (nI (sm (nd (orS T S np) ou).testBit we dn)) := by
  unfold m_X5_weightLeft
  have h1 := orS_512 (S := S) (fun p hp => (hT p hp).2)
  have h2 := nd_le (orS T S np) ou
  rw [c_toldSet hn hS (fun p hp => (hT p hp).1), ob1_s, pz_not, c_weight hd (by omega) hw, ob1_s]
theorem save_L {np dn ou co A : Nat} {told cwe cpr mp ms md now : Nat → Int32} {T we pr : Nat → Nat} (hn : np ≤ 8) (hd : dn ≤ 9) (hA : A < 2 ^ np) (hco : co < 1000) (ho : ou < 512) (hc : ∀ p, p < np → told p = nI (T p) ∧ T p < 512) (hw : ∀ d, d < dn → cwe d = nI (we d) ∧ md (4 * d + 3) = nI (we d) ∧ we d ≤ 30) (hp : ∀ p, p < np → cpr p = nI (pr p) ∧ mp (2 * p + 1) = nI (pr p) ∧ pr p ≤ 60) (h0 : ms 0 = nI co) (h1 : ms 1 = nI ou) (hT : ∀ p, p < np → m_X6_toldBy (nI p) (nI dn) md now mp = some (nI (T p))) :
    ∀ n i b l, 2 ^ np < n + i → i ≤ 2 ^ np → l < 1000 → ∃ B L : Nat, L_X5_save_32 (nI np) (nI A) cpr (nI co) (nI dn) told (nI ou) cwe (n + 1) (nI b) (nI l) (nI i) = some (nI B, nI L) ∧ L_X6_save_28 (nI np) (nI A) mp ms (nI dn) md now n (nI b) (nI l) (nI i) = some (nI B, nI L) := by
  have h256 := p2le hn
  intro n
  induction n with
  | zero => intro i b l h1 h2; omega
  | succ n ih =>
    intro i b l q1 q2 q3
    rw [L_X5_save_32, L_X6_save_28, pz_shl np (by omega)]
    by_cases hi : 2 ^ np ≤ i
    · rw [if_pos (nI_le hi (by omega)), if_pos (nI_le hi (by omega))]
      exact ⟨b, l, rfl, rfl⟩
    · rw [if_neg (nI_ge (by omega) (by omega)), if_neg (nI_ge (by omega) (by omega)), pz_not]
      have hni := nd_le i A
      have hnA := nd_le A i
      simp only [pz_e0 (show nd i A < 2147483648 by omega)]
      simp only [pv_e, nI_1]
      by_cases c1 : nd i A = 0
      · rw [if_pos c1, if_pos c1, c_price hn (by omega) (fun p hq => (hp p hq).1), r_price hn (by omega) (fun p hq => (hp p hq).2.1), ob1_s, ob1_s, show (0 : Int32).toNatClampNeg = 0 from rfl, h0]
        have hpr := sm_le i.testBit pr 60 np (fun j hj => (hp j hj).2.2)
        by_cases c2 : sm i.testBit pr np ≤ co
        · rw [if_pos (nI_le c2 (by omega)), if_neg (e6_nlt c2 (by omega)), pz_not, c_weightLeft hn hd (by omega) hc (fun d hq => (hw d hq).1), ob1_s, r_toldSet hn (by omega) hT, ob1_s, show (1 : Int32).toNatClampNeg = 1 from rfl, h1, pz_not, r_weigh hd (by have h1 := orS_512 (S := nd A i) (fun p hp => (hc p hp).2); have h2 := nd_le (orS T (nd A i) np) ou; omega) (fun d hq => (hw d hq).2.1), ob1_s]
          have hwe := sm_le (nd (orS T (nd A i) np) ou).testBit we 30 dn (fun j hj => (hw j hj).2.2)
          generalize sm (nd (orS T (nd A i) np) ou).testBit we dn = W at hwe
          rw [if_neg (nI_pos (by omega))]
          by_cases c3 : l ≤ W
          · rw [if_pos (nI_le c3 (by omega)), if_pos (nI_le c3 (by omega)), ob1_s, if_neg (nI_pos (by omega)), if_pos (nI_le c3 (by omega))]
            exact ih (i + 1) b l (by omega) (by omega) q3
          · rw [if_neg (nI_ge (by omega) (by omega)), if_neg (nI_ge (by omega) (by omega)), ob1_s, if_neg (nI_pos (by omega)), if_neg (nI_ge (by omega) (by omega))]
            exact ih (i + 1) i W (by omega) (by omega) (by omega)
        · rw [if_neg (nI_ge (by omega) (by omega)), if_pos (nI_lt (show co < sm i.testBit pr np by omega) (by omega))]
          exact ih (i + 1) b l (by omega) (by omega) q3
      · rw [if_neg c1, if_neg c1]
        exact ih (i + 1) b l (by omega) (by omega) q3
theorem nd_zero {a n : Nat} (ha : a < 2 ^ n) (hn : n ≤ 32) : nd a 0 = a := by
  refine bits_ext (n := n) (Nat.lt_of_le_of_lt (nd_le _ _) ha) ha (fun i hi => ?_)
  rw [nd_bit _ _ _ (by omega), Nat.zero_testBit, Bool.not_false, Bool.and_true]
theorem zero_nd (a : Nat) : nd 0 a = 0 := Nat.le_zero.mp (nd_le 0 a)
theorem sm_zero (f : Nat → Nat) : ∀ n, sm (Nat.testBit 0) f n = 0
  | 0 => rfl
  | n + 1 => by unfold sm; rw [Nat.zero_testBit, if_neg (by decide), sm_zero f n]
theorem api_save {h : Hd} {s : Sd} {cP cD cL mP mD mL cro cbo csp cou cco : Int32} {cki cpr cpe cpl cho cwe mp md ms ctd mw : Nat → Int32} (a1 : Int32) (hH : RH h cP cD cL cki cpr cpe cpl cho cwe mP mD mL mp md) (hN : RN h s cro cbo csp cou cco ms) : ∃ r ctd' mw', m_X5_save a1 cP cD cL cro cbo csp cou cco cpl cki cho cwe ctd cpr = some (r, ctd') ∧ m_X6_save a1 mP mD mL ms mw mp md = some (r, mw') := by
  obtain ⟨hB, hC, hM⟩ := hH
  obtain ⟨hS, ⟨e1, e2, e3, e4, e5⟩, hMs⟩ := hN
  obtain ⟨b1, b2, b3, b4, b5, b6⟩ := id hB
  obtain ⟨s1, s2, s3, s4, s5⟩ := hS.small b2 b3
  have t5 := v5_told hB hC hS e1
  have l5 := v5_loose hB hC hS e2 e3
  have t6 := v6_told hB hM (hMs.asIs (now := mw) b2)
  have l6 := v6_loose hB hM (hMs.asIs (now := mw) b2)
  have eP := hC.1
  have eP2 := hM.1
  have eD := hC.2.1
  have eD2 := hM.2.1
  subst eP eP2 eD eD2
  have lo := c_loose b2 l5
  have lo6 := r_loose b2 l6
  have hf := c_fillTold ctd b2 t5
  have hA := bts_lt (vL h s) (hnp h)
  have h256 := p2le b2
  unfold m_X5_save m_X6_save
  rw [show m_X5_isWithin a1 0 1 = some (bI (inR a1 0 1)) from x5_within a1 0 1 (by decide) (by decide), show m_X6_in a1 0 1 = some (bI (inR a1 0 1)) from x6_in a1 0 1 (by decide) (by decide), ob1_s, ob1_s]
  simp only [bI_0]
  cases c1 : inR a1 0 1
  · exact ⟨-1, _, _, rfl, rfl⟩
  simp only [Bool.true_eq_false, if_false]
  rw [hf, ob1_s, lo, ob1_s, r_asItIs, ob1_s, lo6, ob1_s, e4, c_weightLeft b2 b3 (by omega) (fun p hp => ⟨fill_at p hp, (t5 p hp).2.2⟩) (fun d hd => (hC.2.2.2.2 d hd).2.2.2), ob1_s]
  have hwq := sm_le (nd (orS (vT h s) (bts (vL h s) (hnp h)) (hnp h)) s.2.2.2.1).testBit (hwe h) 30 (hnd h) (fun j hj => (b6 j hj).2.2.2.2)
  obtain ⟨B, L, k1, k2⟩ := save_L (told := fillF ctd (vT h s) (hnp h)) (ou := s.2.2.2.1) (co := s.2.2.2.2) (ms := ms) (cpr := cpr) (pr := hpr h) (we := hwe h) (cwe := cwe) b2 b3 hA (by omega) s4 (fun p hp => ⟨fill_at p hp, (t5 p hp).2.2⟩) (fun d hd => ⟨(hC.2.2.2.2 d hd).2.2.2, (hM.2.2.2.2 d hd).2.2.2, (b6 d hd).2.2.2.2⟩) (fun p hp => ⟨(hC.2.2.2.1 p hp).2, (hM.2.2.2.1 p hp).2, (b5 p hp).2⟩) hMs.1 hMs.2.1 t6 299 1 0 (sm (nd (orS (vT h s) (bts (vL h s) (hnp h)) (hnp h)) s.2.2.2.1).testBit (hwe h) (hnd h)) (by omega) (Nat.one_le_two_pow) (by omega)
  have k0 : L_X6_save_28 (nI (hnp h)) (nI (bts (vL h s) (hnp h))) mp ms (nI (hnd h)) md (cpF mw 0 ms 0 18) 300 0 (-1) 0 = some (nI B, nI L) := by
    rw [L_X6_save_28, pz_shl _ (by omega), pz_l0, if_neg (nI_ge (Nat.pos_of_ne_zero (by have := Nat.one_le_two_pow (n := hnp h); omega)) (by omega)), pz_not, zero_nd, if_pos rfl, r_price b2 (by omega) (fun p hp => (hM.2.2.2.1 p hp).2), ob1_s, sm_zero, show (nI 0).toNatClampNeg = 0 from rfl, hMs.1, if_neg (e6_nlt (Nat.zero_le _) (by omega)), pz_not, nd_zero hA (by omega), r_toldSet b2 (by omega) t6, ob1_s, show (1 : Int32).toNatClampNeg = 1 from rfl, hMs.2.1, pz_not, r_weigh b3 (by have h1 := orS_512 (S := bts (vL h s) (hnp h)) (fun p hp => (t5 p hp).2.2); have h2 := nd_le (orS (vT h s) (bts (vL h s) (hnp h)) (hnp h)) s.2.2.2.1; omega) (fun d hd => (hM.2.2.2.2 d hd).2.2.2), ob1_s, if_pos (show (-1 : Int32) < nI 0 by decide), ob1_s, if_pos (show (-1 : Int32) < nI 0 by decide)]
    simp only [pv_e, nI_1]
    exact k2
  have z1 : L_X5_save_32 (nI (hnp h)) (nI (bts (vL h s) (hnp h))) cpr (nI s.2.2.2.2) (nI (hnd h)) (fillF ctd (vT h s) (hnp h)) (nI s.2.2.2.1) cwe 300 0 (nI (sm (nd (orS (vT h s) (bts (vL h s) (hnp h)) (hnp h)) s.2.2.2.1).testBit (hwe h) (hnd h))) 1 = some (nI B, nI L) := k1
  rw [e5, z1, k0, ob2_s, ob2_s]
  by_cases q : a1 = 0
  · rw [if_pos q, if_pos q]; exact ⟨_, _, _, rfl, rfl⟩
  · rw [if_neg q, if_neg q]; exact ⟨_, _, _, rfl, rfl⟩
theorem cnt_mono {P Q : Nat → Bool} : ∀ {n : Nat}, (∀ j, j < n → P j = true → Q j = true) → cnt P n ≤ cnt Q n
  | 0, _ => Nat.le_refl _
  | n + 1, h => by
    unfold cnt
    have h1 := cnt_mono (fun j hj => h j (by omega) : ∀ j, j < n → P j = true → Q j = true)
    by_cases hP : P n = true
    · rw [if_pos hP, if_pos (h n (by omega) hP)]; omega
    · rw [if_neg hP]; omega
theorem cnt8 {x n : Nat} (hx : x < 2 ^ n) (hn : n ≤ 8) : cnt x.testBit 10 < 9 := by
  have e : ∀ x, x < 256 → cnt x.testBit 10 < 9 := by decide +kernel
  exact e x (Nat.lt_of_lt_of_le hx (p2le hn))
theorem cover_L {np A : Nat} {mD : Int32} {told mp md now : Nat → Int32} {T : Nat → Nat} (hn : np ≤ 8) (hA : A < 2 ^ np) (hc : ∀ p, p < np → told p = nI (T p) ∧ T p < 512) (hT : ∀ p, p < np → m_X6_toldBy (nI p) mD md now mp = some (nI (T p))) :
    ∀ n i b f, 2 ^ np < n + i → i ≤ 2 ^ np → b < 2 ^ np → (f = 9 ∧ b = A ∨ f = cnt b.testBit 10 ∧ b < i) → ∃ r, r < 2 ^ np ∧ L_X5_cover_36 (nI np) (nI A) told (nI (orS T A np)) n (nI b) (nI f) (nI i) = some (nI r) ∧ L_X6_cover_25 (nI np) (nI A) mD md now mp n (nI b) (nI i) = some (nI r) := by
  have h256 := p2le hn
  intro n
  induction n with
  | zero => intro i b f h1 h2; omega
  | succ n ih =>
    intro i b f q1 q2 q3 q4
    rw [L_X5_cover_36, L_X6_cover_25, pz_shl np (by omega)]
    by_cases hi : 2 ^ np ≤ i
    · rw [if_pos (nI_le hi (by omega)), if_pos (nI_le hi (by omega))]
      exact ⟨b, q3, rfl, rfl⟩
    · rw [if_neg (nI_ge (by omega) (by omega)), if_neg (nI_ge (by omega) (by omega)), pz_not, j6_bits i (by omega), ob1_s]
      have hni := nd_le i A
      have g1 := cnt8 (show i < 2 ^ np by omega) hn
      have g2 := cnt8 q3 hn
      have o1 := orS_512 (S := i) (fun p hp => (hc p hp).2)
      have o2 := orS_512 (S := A) (fun p hp => (hc p hp).2)
      have k : i ≤ i + 1 := by omega
      have stay : ∀ f', (f' = 9 ∧ b = A ∨ f' = cnt b.testBit 10 ∧ b < i) → (f' = 9 ∧ b = A ∨ f' = cnt b.testBit 10 ∧ b < i + 1) := fun f' hh => hh.imp id (fun x => ⟨x.1, by omega⟩)
      rw [r_toldSet hn (show i < 2147483648 by omega) hT, r_toldSet hn (show A < 2147483648 by omega) hT, r_bits (S := i) (by omega), r_bits (S := b) (by omega), c_toldSet hn (by omega) (fun p hp => (hc p hp).1)]
      simp only [pz_e0 (show nd i A < 2147483648 by omega), ob1_s, pv_e, nI_1]
      simp (disch := omega) only [pz_eq, pz_le, pz_lt]
      by_cases c1 : nd i A = 0
      · rw [if_pos c1, if_pos c1]
        by_cases c2 : orS T i np = orS T A np
        · rw [if_pos c2, if_pos c2, ob1_s, if_neg (show ¬ (1 : Int32) = 0 by decide)]
          have hf9 : f ≤ 9 := by rcases q4 with ⟨a, -⟩ | ⟨a, -⟩ <;> omega
          simp only [show (nI f ≤ nI (cnt i.testBit 10)) = (f ≤ cnt i.testBit 10) from pz_le (by omega) (by omega)]
          rcases q4 with ⟨a, e⟩ | ⟨a, e⟩
          · rw [if_neg (show ¬ f ≤ cnt i.testBit 10 by omega)]
            have m1 : cnt i.testBit 10 ≤ cnt b.testBit 10 := by
              rw [e]
              refine cnt_mono (fun j hj hb => ?_)
              by_cases hjn : j < np
              · exact (nd_0 i A np (by omega) (by omega)).mp c1 j hjn hb
              · rw [Nat.testBit_lt_two_pow (Nat.lt_of_lt_of_le (show i < 2 ^ np by omega) (Nat.pow_le_pow_right (by decide) (by omega)))] at hb; cases hb
            have m2 : i ≤ b := by rw [e]; exact sub_le (n := np) (by omega) (fun p hp hb => (nd_0 i A np (by omega) (by omega)).mp c1 p hp hb)
            obtain ⟨r, hr, z1, z2⟩ := ih (i + 1) i (cnt i.testBit 10) (by omega) (by omega) (by omega) (Or.inr ⟨rfl, by omega⟩)
            refine ⟨r, hr, z1, ?_⟩
            by_cases c3 : cnt i.testBit 10 < cnt b.testBit 10
            · rw [if_pos c3]; exact z2
            · rw [if_neg c3, if_pos (by omega)]
              by_cases c4 : b ≤ i
              · rw [if_pos c4, show b = i by omega]; exact z2
              · rw [if_neg c4]; exact z2
          · by_cases c3 : f ≤ cnt i.testBit 10
            · rw [if_pos c3, if_neg (show ¬ cnt i.testBit 10 < cnt b.testBit 10 by omega), if_pos (show b ≤ i by omega)]
              obtain ⟨r, hr, z1, z2⟩ := ih (i + 1) b f (by omega) (by omega) q3 (Or.inr ⟨a, by omega⟩)
              refine ⟨r, hr, z1, ?_⟩
              by_cases c4 : cnt i.testBit 10 = cnt b.testBit 10
              · rw [if_pos c4]; exact z2
              · rw [if_neg c4]; exact z2
            · rw [if_neg c3, if_pos (show cnt i.testBit 10 < cnt b.testBit 10 by omega)]
              exact ih (i + 1) i (cnt i.testBit 10) (by omega) (by omega) (by omega) (Or.inr ⟨rfl, by omega⟩)
        · rw [if_neg c2, if_neg c2, ob1_s, if_pos rfl, ite_self]
          exact ih (i + 1) b f (by omega) (by omega) q3 (stay f q4)
      · rw [if_neg c1, if_neg c1, ob1_s, if_pos rfl]
        exact ih (i + 1) b f (by omega) (by omega) q3 (stay f q4)
theorem api_cover {h : Hd} {s : Sd} {cP cD cL mP mD mL cro cbo csp cou cco : Int32} {cki cpr cpe cpl cho cwe mp md ms ctd mw : Nat → Int32} (a1 : Int32) (hH : RH h cP cD cL cki cpr cpe cpl cho cwe mP mD mL mp md) (hN : RN h s cro cbo csp cou cco ms) : ∃ r ctd' mw', m_X5_cover a1 cP cD cL cro cbo csp cpl cki cho cwe ctd = some (r, ctd') ∧ m_X6_cover a1 mP mD mL ms mw mp md = some (r, mw') := by
  obtain ⟨hB, hC, hM⟩ := hH
  obtain ⟨hS, ⟨e1, e2, e3, e4, e5⟩, hMs⟩ := hN
  obtain ⟨b1, b2, b3, b4, b5, b6⟩ := id hB
  obtain ⟨s1, s2, s3, s4, s5⟩ := hS.small b2 b3
  have t5 := v5_told hB hC hS e1
  have l5 := v5_loose hB hC hS e2 e3
  have t6 := v6_told hB hM (hMs.asIs (now := mw) b2)
  have l6 := v6_loose hB hM (hMs.asIs (now := mw) b2)
  have eP := hC.1
  have eP2 := hM.1
  have eD := hC.2.1
  have eD2 := hM.2.1
  subst eP eP2 eD eD2
  have lo := c_loose b2 l5
  have lo6 := r_loose b2 l6
  have hf := c_fillTold ctd b2 t5
  have hA := bts_lt (vL h s) (hnp h)
  have h256 := p2le b2
  unfold m_X5_cover m_X6_cover
  rw [show m_X5_isWithin a1 0 1 = some (bI (inR a1 0 1)) from x5_within a1 0 1 (by decide) (by decide), show m_X6_in a1 0 1 = some (bI (inR a1 0 1)) from x6_in a1 0 1 (by decide) (by decide), ob1_s, ob1_s]
  simp only [bI_0]
  cases c1 : inR a1 0 1
  · exact ⟨-1, _, _, rfl, rfl⟩
  simp only [Bool.true_eq_false, if_false]
  rw [hf, ob1_s, lo, ob1_s, r_asItIs, ob1_s, lo6, ob1_s, c_toldSet b2 (by omega) fill_at, ob1_s]
  obtain ⟨r, hr, k1, k2⟩ := cover_L (told := fillF ctd (vT h s) (hnp h)) b2 hA (fun p hp => ⟨fill_at p hp, (t5 p hp).2.2⟩) t6 300 0 (bts (vL h s) (hnp h)) 9 (by omega) (by omega) hA (Or.inl ⟨rfl, rfl⟩)
  have z1 : L_X5_cover_36 (nI (hnp h)) (nI (bts (vL h s) (hnp h))) (fillF ctd (vT h s) (hnp h)) (nI (orS (vT h s) (bts (vL h s) (hnp h)) (hnp h))) 300 (nI (bts (vL h s) (hnp h))) 9 0 = some (nI r) := k1
  have z2 : L_X6_cover_25 (nI (hnp h)) (nI (bts (vL h s) (hnp h))) (nI (hnd h)) md (cpF mw 0 ms 0 18) mp 300 (nI (bts (vL h s) (hnp h))) 0 = some (nI r) := k2
  rw [z1, z2, ob1_s, ob1_s, j6_bits r (by omega), r_bits (by omega), ob1_s, ob1_s]
  by_cases q : a1 = 0
  · rw [if_pos q, if_pos q]; exact ⟨_, _, _, rfl, rfl⟩
  · rw [if_neg q, if_neg q]; exact ⟨_, _, _, rfl, rfl⟩
