/-! THE CALLS: likely -/
theorem lk_all : ∀ n, n < 9 → ∀ x, x < 11 → L_X5_likely_60 (nI n) (nI x) 300 1 1 0 = some (nI ((10 - x) ^ n), nI (10 ^ n)) ∧ L_X6_likely_66 (nI (2 ^ n - 1)) (nI x) 300 1 1 0 = some (nI (10 ^ n), nI ((10 - x) ^ n)) ∧ L_X6_likely_130 300 (nI (10 ^ n) - nI ((10 - x) ^ n)) (nI (10 ^ n)) = some (nI (Nat.gcd (10 ^ n - (10 - x) ^ n) (10 ^ n))) ∧ (!decide (nI (Nat.gcd (10 ^ n - (10 - x) ^ n) (10 ^ n)) = 0)) = true ∧ L_X5_likely_99 (nI n) 300 (nI (10 ^ n)) (nI (10 ^ n) - nI ((10 - x) ^ n)) 0 = some (nI (10 ^ n) / nI (Nat.gcd (10 ^ n - (10 - x) ^ n) (10 ^ n)), (nI (10 ^ n) - nI ((10 - x) ^ n)) / nI (Nat.gcd (10 ^ n - (10 - x) ^ n) (10 ^ n))) := by decide +kernel
theorem lk_bits : ∀ n, n < 9 → cnt (2 ^ n - 1).testBit 10 = n := by decide +kernel
theorem lk_same {S S' : Nat} {x : Int32} (h1 : S < 2147483648) (h2 : S' < 2147483648) (e : cnt S.testBit 10 = cnt S'.testBit 10) : ∀ n a b c, L_X6_likely_66 (nI S) x n a b c = L_X6_likely_66 (nI S') x n a b c := by
  intro n
  induction n with
  | zero => intro a b c; rfl
  | succ n ih =>
    intro a b c
    rw [L_X6_likely_66, L_X6_likely_66, r_bits h1, r_bits h2, e]
    simp only [ob1_s, pv_e, ih]
theorem api_likely {h : Hd} {s : Sd} {cP cD cL mP mD mL cro cbo csp cou cco : Int32} {cki cpr cpe cpl cho cwe mp md ms mw : Nat → Int32} (a1 : Int32) (a2 : Int32) (a3 : Int32) (hH : RH h cP cD cL cki cpr cpe cpl cho cwe mP mD mL mp md) (hN : RN h s cro cbo csp cou cco ms) : ∃ r mw', m_X5_likely a1 a2 a3 cP cD cL cro cbo csp cou cki cpl cho cwe = some r ∧ m_X6_likely a1 a2 a3 mP mD mL ms mw mp md = some (r, mw') := by
  obtain ⟨hB, hC, hM⟩ := hH
  obtain ⟨hS, ⟨e1, e2, e3, e4, e5⟩, hMs⟩ := hN
  obtain ⟨b1, b2, b3, b4, b5, b6⟩ := id hB
  obtain ⟨s1, s2, s3, s4, s5⟩ := hS.small b2 b3
  have t5 := v5_told hB hC hS e1
  have l5 := v5_loose hB hC hS e2 e3
  have t6 := v6_told hB hM (hMs.asIs (now := mw) b2)
  have l6 := v6_loose hB hM (hMs.asIs (now := mw) b2)
  have eP := hC.1
  have eP2 := hM.1
  have eD := hC.2.1
  have eD2 := hM.2.1
  subst eP eP2 eD eD2
  have d6 := v6_does hB hM (hMs.asIs (now := mw) b2)
  unfold m_X5_likely m_X6_likely
  rw [x5_deed _ _ (by omega), x6_deed _ _ (by omega), show m_X5_isWithin a2 0 10 = some (bI (inR a2 0 10)) from x5_within a2 0 10 (by decide) (by decide), show m_X6_in a2 0 10 = some (bI (inR a2 0 10)) from x6_in a2 0 10 (by decide) (by decide), show m_X5_isWithin a3 0 1 = some (bI (inR a3 0 1)) from x5_within a3 0 1 (by decide) (by decide), show m_X6_in a3 0 1 = some (bI (inR a3 0 1)) from x6_in a3 0 1 (by decide) (by decide), r_asItIs]
  simp only [ob1_s, bI_0]
  cases c1 : okI a1 (hnd h)
  · exact ⟨-1, _, rfl, rfl⟩
  cases c2 : inR a2 0 10
  · exact ⟨-1, _, rfl, rfl⟩
  cases c3 : inR a3 0 1
  · exact ⟨-1, _, rfl, rfl⟩
  obtain ⟨d, hd, rfl⟩ := okI_of c1 (by omega)
  obtain ⟨x, -, hx, rfl⟩ := inR_of c2 (by decide)
  simp only [Bool.true_eq_false, if_false]
  rw [e4, x5_out (by omega) (by omega), show (1 : Int32).toNatClampNeg = 1 from rfl, hMs.2.1, x6_has (by omega) (by omega), ob1_s, ob1_s]
  simp only [bI_0]
  cases c4 : s.2.2.2.1.testBit d
  · have e : bts (fun p => vL h s p && tellS (hnd h) (hpl h) (hho h) (hwe h) (hki h p) (rmo s.1 p) d) (hnp h) = bts (fun p => vL h s p && decide (vT h s p &&& 2 ^ d ≠ 0)) (hnp h) := bts_congr (fun p hp => by
      rw [and_pow, show (vT h s p).testBit d = (decide (d < hnd h) && tellS (hnd h) (hpl h) (hho h) (hwe h) (hki h p) (rmo s.1 p) d) from bts_bit _ _ _]
      simp [hd])
    have hb := lt256 hB (bts_lt (fun p => vL h s p && decide (vT h s p &&& 2 ^ d ≠ 0)) (hnp h))
    have hcn := cnt8 (bts_lt (fun p => vL h s p && decide (vT h s p &&& 2 ^ d ≠ 0)) (hnp h)) b2
    simp only [if_true]
    rw [pz_shl d (by omega), c_tellers (S := 2 ^ d) b2 l5 t5, ob1_s, j6_bits _ (by omega), ob1_s, r_tellers b2 l6 (fun p hp => d6 p d hp hd), ob1_s, ob1_s, e]
    have hc2 : cnt (fun k => (bts (fun p => vL h s p && decide (vT h s p &&& 2 ^ d ≠ 0)) (hnp h)).testBit k) 10 < 9 := hcn
    obtain ⟨f1, f2, f3, f4, f5⟩ := lk_all _ hc2 x (by omega)
    have hp2 : 2 ^ cnt (fun k => (bts (fun p => vL h s p && decide (vT h s p &&& 2 ^ d ≠ 0)) (hnp h)).testBit k) 10 ≤ 2 ^ 8 := Nat.pow_le_pow_right (by decide) (by omega)
    rw [lk_same (S' := 2 ^ cnt (fun k => (bts (fun p => vL h s p && decide (vT h s p &&& 2 ^ d ≠ 0)) (hnp h)).testBit k) 10 - 1) (by omega) (by omega) (lk_bits _ hc2).symm]
    simp only [f1, f2, ob2_s, ob1_s, pv_e, bI_0, if_true, f3, f4, f5, gu_true]
    by_cases q : a3 = 0
    · rw [if_pos q, if_pos q]; exact ⟨_, _, rfl, rfl⟩
    · rw [if_neg q, if_neg q]; exact ⟨_, _, rfl, rfl⟩
  · have f2 : L_X6_likely_66 0 (nI x) 300 1 1 0 = some (1, 1) := by
      have g := (lk_all 0 (by omega) x (by omega)).2.1
      rw [show (10 : Nat) ^ 0 = 1 from rfl, show (10 - x) ^ 0 = 1 from rfl] at g
      exact g
    have f3 : L_X6_likely_130 300 1 1 = some 1 := by decide +kernel
    simp only [bI_0, Bool.true_eq_false, if_false, ob1_s, f2, ob2_s, f3]
    by_cases q : a3 = 0
    · rw [if_pos q]; exact ⟨_, _, rfl, rfl⟩
    · rw [if_neg q]; exact ⟨_, _, rfl, rfl⟩
