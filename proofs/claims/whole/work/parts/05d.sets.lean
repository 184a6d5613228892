/-! SETS OF PIECES AND OF DEEDS: both sides -/
theorem pz_or0 (a : Nat) : nI a ||| 0 = nI a := by rw [pz_l0, pz_or, Nat.or_zero]
theorem pz_add0 (a : Nat) : nI a + 0 = nI a := nI_add a 0
/-- what all of a set tell -/
def orS (T : Nat → Nat) (S : Nat) : Nat → Nat
  | 0 => 0
  | n + 1 => orS T S n ||| (if S.testBit n = true then T n else 0)
theorem orS_lt (T : Nat → Nat) (S k : Nat) : ∀ n, (∀ j, j < n → T j < 2 ^ k) → orS T S n < 2 ^ k
  | 0, _ => Nat.two_pow_pos k
  | n + 1, h => by
    unfold orS
    refine Nat.or_lt_two_pow (orS_lt T S k n (fun j hj => h j (by omega))) ?_
    split
    · exact h n (by omega)
    · exact Nat.two_pow_pos k
theorem orS_bit (T : Nat → Nat) (S d : Nat) : ∀ n, (orS T S n).testBit d = true ↔ ∃ p, p < n ∧ S.testBit p = true ∧ (T p).testBit d = true
  | 0 => by simp [orS]
  | n + 1 => by
    unfold orS
    rw [Nat.testBit_or, Bool.or_eq_true, orS_bit T S d n]
    constructor
    · rintro (⟨p, h1, h2⟩ | h)
      · exact ⟨p, by omega, h2⟩
      · by_cases c : S.testBit n = true
        · rw [if_pos c] at h; exact ⟨n, by omega, c, h⟩
        · rw [if_neg c] at h; simp at h
    · rintro ⟨p, h1, h2, h3⟩
      by_cases c : p = n
      · subst c; right; rw [if_pos h2]; exact h3
      · left; exact ⟨p, by omega, h2, h3⟩
theorem orS_congr {T T' : Nat → Nat} {S : Nat} : ∀ {n : Nat}, (∀ j, j < n → T j = T' j) → orS T S n = orS T' S n
  | 0, _ => rfl
  | n + 1, h => by unfold orS; rw [orS_congr (fun j hj => h j (by omega)), h n (by omega)]

theorem c_looseL {np : Nat} {bo sp law : Int32} {cki : Nat → Int32} {Lo : Nat → Bool} (hn : np ≤ 8) (hL : ∀ p, p < np → m_X5_isLoose (nI p) bo sp law cki = some (bI (Lo p))) : ∀ n i, np < n + i → i ≤ np → L_X5_looseOnes_4 (nI np) bo sp law cki n (nI (bts Lo i)) (nI i) = some (nI (bts Lo np)) := by
  intro n
  induction n with
  | zero => intro i h1 h2; omega
  | succ n ih =>
    intro i h1 h2
    rw [L_X5_looseOnes_4]
    by_cases hi : np ≤ i
    · have e : i = np := by omega
      subst e
      rw [if_pos (nI_le (Nat.le_refl _) (by omega))]
    · have IH := ih (i + 1) (by omega) (by omega)
      rw [if_neg (nI_ge (by omega) (by omega))]
      simp (disch := omega) only [hL i (by omega), ob1_s, pv_e, bI_0, nI_1, pz_shl, pz_or]
      simp only [bts] at IH
      cases c1 : Lo i <;> simp [c1] at IH ⊢ <;> exact IH

theorem c_loose {np : Nat} {bo sp law : Int32} {cki : Nat → Int32} {Lo : Nat → Bool} (hn : np ≤ 8) (hL : ∀ p, p < np → m_X5_isLoose (nI p) bo sp law cki = some (bI (Lo p))) : m_X5_looseOnes (nI np) law bo sp cki = some (nI (bts Lo np)) := by
  unfold m_X5_looseOnes
  have h := c_looseL hn hL 300 0 (by omega) (by omega)
  rw [show bts Lo 0 = 0 from rfl] at h
  rw [pz_l0, h, ob1_s]

theorem c_tellersL {np : Nat} {bo sp law rooms cnd : Int32} {cki cpl cho cwe : Nat → Int32} {Lo : Nat → Bool} {T R : Nat → Nat} {S : Nat} (hn : np ≤ 8) (hL : ∀ p, p < np → m_X5_isLoose (nI p) bo sp law cki = some (bI (Lo p))) (hT : ∀ p, p < np → m_X4_roomOf (nI p) rooms = some (nI (R p)) ∧ m_X0_toldBy (nI p) (nI (R p)) cnd cpl cki cho cwe = some (nI (T p)) ∧ T p < 512) : ∀ n i, np < n + i → i ≤ np → L_X5_looseTellers_4 (nI np) bo sp law cki rooms cnd cpl cho cwe (nI S) n (nI (bts (fun p => Lo p && decide (T p &&& S ≠ 0)) i)) (nI i) = some (nI (bts (fun p => Lo p && decide (T p &&& S ≠ 0)) np)) := by
  intro n
  induction n with
  | zero => intro i h1 h2; omega
  | succ n ih =>
    intro i h1 h2
    rw [L_X5_looseTellers_4]
    by_cases hi : np ≤ i
    · have e : i = np := by omega
      subst e
      rw [if_pos (nI_le (Nat.le_refl _) (by omega))]
    · have IH := ih (i + 1) (by omega) (by omega)
      rw [if_neg (nI_ge (by omega) (by omega))]
      obtain ⟨t1, t2, t3⟩ := hT i (by omega)
      have hand : T i &&& S < 2147483648 := Nat.lt_of_le_of_lt Nat.and_le_left (by omega)
      rw [hL i (by omega), t1, ob1_s, ob1_s, t2, ob1_s]
      simp (disch := omega) only [pv_e, bI_0, nI_1, pz_shl, pz_or, pz_and, pz_l0, pz_eq]
      simp only [bts] at IH
      cases c1 : Lo i <;> by_cases c2 : T i &&& S = 0 <;> simp [c1, c2] at IH ⊢ <;> exact IH

theorem c_tellers {np : Nat} {bo sp law rooms cnd : Int32} {cki cpl cho cwe : Nat → Int32} {Lo : Nat → Bool} {T R : Nat → Nat} {S : Nat} (hn : np ≤ 8) (hL : ∀ p, p < np → m_X5_isLoose (nI p) bo sp law cki = some (bI (Lo p))) (hT : ∀ p, p < np → m_X4_roomOf (nI p) rooms = some (nI (R p)) ∧ m_X0_toldBy (nI p) (nI (R p)) cnd cpl cki cho cwe = some (nI (T p)) ∧ T p < 512) : m_X5_looseTellers (nI S) (nI np) cnd law rooms bo sp cki cpl cho cwe = some (nI (bts (fun p => Lo p && decide (T p &&& S ≠ 0)) np)) := by
  unfold m_X5_looseTellers
  have h := c_tellersL (S := S) hn hL hT 300 0 (by omega) (by omega)
  rw [show bts (fun p => Lo p && decide (T p &&& S ≠ 0)) 0 = 0 from rfl] at h
  rw [pz_l0, h, ob1_s]

theorem c_toldSetL {np : Nat} {told : Nat → Int32} {T : Nat → Nat} {S : Nat} (hn : np ≤ 8) (hS : S < 2147483648) (hT : ∀ p, p < np → told p = nI (T p)) : ∀ n i, np < n + i → i ≤ np → L_X5_toldBySet_4 (nI np) (nI S) told n (nI (orS T S i)) (nI i) = some (nI (orS T S np)) := by
  intro n
  induction n with
  | zero => intro i h1 h2; omega
  | succ n ih =>
    intro i h1 h2
    rw [L_X5_toldBySet_4]
    by_cases hi : np ≤ i
    · have e : i = np := by omega
      subst e
      rw [if_pos (nI_le (Nat.le_refl _) (by omega))]
    · have IH := ih (i + 1) (by omega) (by omega)
      rw [if_neg (nI_ge (by omega) (by omega))]
      simp (disch := omega) only [pz_bit, pz_ok, gu_true, pz_cl, hT i (by omega), pv_e, nI_1, pz_or]
      simp only [orS] at IH
      cases c1 : S.testBit i <;> simp [c1] at IH ⊢ <;> exact IH

theorem c_toldSet {np : Nat} {told : Nat → Int32} {T : Nat → Nat} {S : Nat} (hn : np ≤ 8) (hS : S < 2147483648) (hT : ∀ p, p < np → told p = nI (T p)) : m_X5_toldBySet (nI S) (nI np) told = some (nI (orS T S np)) := by
  unfold m_X5_toldBySet
  have h := c_toldSetL hn hS hT 300 0 (by omega) (by omega)
  rw [show orS T S 0 = 0 from rfl] at h
  rw [pz_l0, h, ob1_s]

theorem c_priceL {np : Nat} {cpr : Nat → Int32} {pr : Nat → Nat} {S : Nat} (hn : np ≤ 8) (hS : S < 2147483648) (hp : ∀ p, p < np → cpr p = nI (pr p)) : ∀ n i, np < n + i → i ≤ np → L_X0_priceOf_4 (nI np) (nI S) cpr n (nI (sm S.testBit pr i)) (nI i) = some (nI (sm S.testBit pr np)) := by
  intro n
  induction n with
  | zero => intro i h1 h2; omega
  | succ n ih =>
    intro i h1 h2
    rw [L_X0_priceOf_4]
    by_cases hi : np ≤ i
    · have e : i = np := by omega
      subst e
      rw [if_pos (nI_le (Nat.le_refl _) (by omega))]
    · have IH := ih (i + 1) (by omega) (by omega)
      rw [if_neg (nI_ge (by omega) (by omega))]
      simp (disch := omega) only [pz_bit, pz_ok, gu_true, pz_cl, hp i (by omega), pv_e, nI_1, pz_add]
      simp only [sm] at IH
      cases c1 : S.testBit i <;> simp [c1] at IH ⊢ <;> exact IH

theorem c_price {np : Nat} {cpr : Nat → Int32} {pr : Nat → Nat} {S : Nat} (hn : np ≤ 8) (hS : S < 2147483648) (hp : ∀ p, p < np → cpr p = nI (pr p)) : m_X0_priceOf (nI S) (nI np) cpr = some (nI (sm S.testBit pr np)) := by
  unfold m_X0_priceOf
  have h := c_priceL hn hS hp 300 0 (by omega) (by omega)
  rw [show sm S.testBit pr 0 = 0 from rfl] at h
  rw [pz_l0, h, ob1_s]

theorem c_weightL {nd : Nat} {cwe : Nat → Int32} {we : Nat → Nat} {S : Nat} (hn : nd ≤ 9) (hS : S < 2147483648) (hw : ∀ d, d < nd → cwe d = nI (we d)) : ∀ n i, nd < n + i → i ≤ nd → L_X0_weightOf_4 (nI nd) (nI S) cwe n (nI (sm S.testBit we i)) (nI i) = some (nI (sm S.testBit we nd)) := by
  intro n
  induction n with
  | zero => intro i h1 h2; omega
  | succ n ih =>
    intro i h1 h2
    rw [L_X0_weightOf_4]
    by_cases hi : nd ≤ i
    · have e : i = nd := by omega
      subst e
      rw [if_pos (nI_le (Nat.le_refl _) (by omega))]
    · have IH := ih (i + 1) (by omega) (by omega)
      rw [if_neg (nI_ge (by omega) (by omega))]
      simp (disch := omega) only [pz_bit, pz_ok, gu_true, pz_cl, hw i (by omega), pv_e, nI_1, pz_add]
      simp only [sm] at IH
      cases c1 : S.testBit i <;> simp [c1] at IH ⊢ <;> exact IH

theorem c_weight {nd : Nat} {cwe : Nat → Int32} {we : Nat → Nat} {S : Nat} (hn : nd ≤ 9) (hS : S < 2147483648) (hw : ∀ d, d < nd → cwe d = nI (we d)) : m_X0_weightOf (nI S) (nI nd) cwe = some (nI (sm S.testBit we nd)) := by
  unfold m_X0_weightOf
  have h := c_weightL hn hS hw 300 0 (by omega) (by omega)
  rw [show sm S.testBit we 0 = 0 from rfl] at h
  rw [pz_l0, h, ob1_s]

theorem c_heavyL {nd : Nat} {cwe : Nat → Int32} {we : Nat → Nat} {w : Nat} (hn : nd ≤ 9) (hw1 : w < 1000) (hw : ∀ d, d < nd → cwe d = nI (we d) ∧ we d < 1000) : ∀ n i, nd < n + i → i ≤ nd → L_X0_deedsAsHeavyAs_4 (nI nd) cwe (nI w) n (nI (bts (fun d => decide (w ≤ we d)) i)) (nI i) = some (nI (bts (fun d => decide (w ≤ we d)) nd)) := by
  intro n
  induction n with
  | zero => intro i h1 h2; omega
  | succ n ih =>
    intro i h1 h2
    rw [L_X0_deedsAsHeavyAs_4]
    by_cases hi : nd ≤ i
    · have e : i = nd := by omega
      subst e
      rw [if_pos (nI_le (Nat.le_refl _) (by omega))]
    · have IH := ih (i + 1) (by omega) (by omega)
      rw [if_neg (nI_ge (by omega) (by omega))]
      obtain ⟨w1, w2⟩ := hw i (by omega)
      simp (disch := omega) only [pz_ok, gu_true, pz_cl, w1, pz_lt, pv_e, nI_1, pz_shl, pz_or]
      simp only [bts] at IH
      by_cases c1 : we i < w
      · have c2 : ¬ w ≤ we i := by omega
        simp [c1, c2] at IH ⊢; exact IH
      · have c2 : w ≤ we i := by omega
        simp [c1, c2] at IH ⊢; exact IH

theorem c_heavy {nd : Nat} {cwe : Nat → Int32} {we : Nat → Nat} {w : Nat} (hn : nd ≤ 9) (hw1 : w < 1000) (hw : ∀ d, d < nd → cwe d = nI (we d) ∧ we d < 1000) : m_X0_deedsAsHeavyAs (nI w) (nI nd) cwe = some (nI (bts (fun d => decide (w ≤ we d)) nd)) := by
  unfold m_X0_deedsAsHeavyAs
  have h := c_heavyL hn hw1 hw 300 0 (by omega) (by omega)
  rw [show bts (fun d => decide (w ≤ we d)) 0 = 0 from rfl] at h
  rw [pz_l0, h, ob1_s]

theorem c_deedsOfL {nd : Nat} {cpe : Nat → Int32} {pe : Nat → Nat} {w : Nat} (hn : nd ≤ 9) (hw1 : w < 1000) (hw : ∀ d, d < nd → cpe d = nI (pe d) ∧ pe d < 1000) : ∀ n i, nd < n + i → i ≤ nd → L_X0_deedsOf_4 (nI nd) cpe (nI w) n (nI (bts (fun d => decide (pe d = w)) i)) (nI i) = some (nI (bts (fun d => decide (pe d = w)) nd)) := by
  intro n
  induction n with
  | zero => intro i h1 h2; omega
  | succ n ih =>
    intro i h1 h2
    rw [L_X0_deedsOf_4]
    by_cases hi : nd ≤ i
    · have e : i = nd := by omega
      subst e
      rw [if_pos (nI_le (Nat.le_refl _) (by omega))]
    · have IH := ih (i + 1) (by omega) (by omega)
      rw [if_neg (nI_ge (by omega) (by omega))]
      obtain ⟨w1, w2⟩ := hw i (by omega)
      simp (disch := omega) only [pz_ok, gu_true, pz_cl, w1, pz_eq, pv_e, nI_1, pz_shl, pz_or]
      simp only [bts] at IH
      by_cases c1 : pe i = w <;> simp [c1] at IH ⊢ <;> exact IH

theorem c_deedsOf {nd : Nat} {cpe : Nat → Int32} {pe : Nat → Nat} {w : Nat} (hn : nd ≤ 9) (hw1 : w < 1000) (hw : ∀ d, d < nd → cpe d = nI (pe d) ∧ pe d < 1000) : m_X0_deedsOf (nI w) (nI nd) cpe = some (nI (bts (fun d => decide (pe d = w)) nd)) := by
  unfold m_X0_deedsOf
  have h := c_deedsOfL hn hw1 hw 300 0 (by omega) (by omega)
  rw [show bts (fun d => decide (pe d = w)) 0 = 0 from rfl] at h
  rw [pz_l0, h, ob1_s]

theorem r_looseL {np : Nat} {law : Int32} {now mp : Nat → Int32} {Lo : Nat → Bool} (hn : np ≤ 8) (hL : ∀ p, p < np → m_X6_isLoose (nI p) law now mp = some (bI (Lo p))) : ∀ n i, np < n + i → i ≤ np → L_X6_loose_4 (nI np) law now mp n (nI (bts Lo i)) (nI i) = some (nI (bts Lo np)) := by
  intro n
  induction n with
  | zero => intro i h1 h2; omega
  | succ n ih =>
    intro i h1 h2
    rw [L_X6_loose_4]
    by_cases hi : np ≤ i
    · have e : i = np := by omega
      subst e
      rw [if_pos (nI_le (Nat.le_refl _) (by omega))]
    · have IH := ih (i + 1) (by omega) (by omega)
      rw [if_neg (nI_ge (by omega) (by omega))]
      simp (disch := omega) only [hL i (by omega), ob1_s, pv_e, bI_0, nI_1, pz_shl, pz_or, pz_or0]
      simp only [bts] at IH
      cases c1 : Lo i <;> simp [c1] at IH ⊢ <;> exact IH

theorem r_loose {np : Nat} {law : Int32} {now mp : Nat → Int32} {Lo : Nat → Bool} (hn : np ≤ 8) (hL : ∀ p, p < np → m_X6_isLoose (nI p) law now mp = some (bI (Lo p))) : m_X6_loose (nI np) law now mp = some (nI (bts Lo np)) := by
  unfold m_X6_loose
  have h := r_looseL hn hL 300 0 (by omega) (by omega)
  rw [show bts Lo 0 = 0 from rfl] at h
  rw [pz_l0, h, ob1_s]

theorem r_tellersL {np : Nat} {law cnd d : Int32} {now mp md : Nat → Int32} {Lo Te : Nat → Bool} (hn : np ≤ 8) (hL : ∀ p, p < np → m_X6_isLoose (nI p) law now mp = some (bI (Lo p))) (hT : ∀ p, p < np → m_X6_doesTell (nI p) d cnd md now mp = some (bI (Te p))) : ∀ n i, np < n + i → i ≤ np → L_X6_tellers_4 (nI np) law now mp d cnd md n (nI (bts (fun p => Lo p && Te p) i)) (nI i) = some (nI (bts (fun p => Lo p && Te p) np)) := by
  intro n
  induction n with
  | zero => intro i h1 h2; omega
  | succ n ih =>
    intro i h1 h2
    rw [L_X6_tellers_4]
    by_cases hi : np ≤ i
    · have e : i = np := by omega
      subst e
      rw [if_pos (nI_le (Nat.le_refl _) (by omega))]
    · have IH := ih (i + 1) (by omega) (by omega)
      rw [if_neg (nI_ge (by omega) (by omega))]
      rw [hL i (by omega), hT i (by omega), ob1_s, ob1_s]
      simp (disch := omega) only [pv_e, bI_0, nI_1, pz_shl, pz_or, pz_or0]
      simp only [bts] at IH
      cases c1 : Lo i <;> cases c2 : Te i <;> simp [c1, c2] at IH ⊢ <;> exact IH

theorem r_tellers {np : Nat} {law cnd d : Int32} {now mp md : Nat → Int32} {Lo Te : Nat → Bool} (hn : np ≤ 8) (hL : ∀ p, p < np → m_X6_isLoose (nI p) law now mp = some (bI (Lo p))) (hT : ∀ p, p < np → m_X6_doesTell (nI p) d cnd md now mp = some (bI (Te p))) : m_X6_tellers d (nI np) cnd law now mp md = some (nI (bts (fun p => Lo p && Te p) np)) := by
  unfold m_X6_tellers
  have h := r_tellersL hn hL hT 300 0 (by omega) (by omega)
  rw [show bts (fun p => Lo p && Te p) 0 = 0 from rfl] at h
  rw [pz_l0, h, ob1_s]

theorem r_priceL {np : Nat} {mp : Nat → Int32} {pr : Nat → Nat} {S : Nat} (hn : np ≤ 8) (hS : S < 2147483648) (hp : ∀ p, p < np → mp (2 * p + 1) = nI (pr p)) : ∀ n i, np < n + i → i ≤ np → L_X6_priceOf_4 (nI np) (nI S) mp n (nI (sm S.testBit pr i)) (nI i) = some (nI (sm S.testBit pr np)) := by
  intro n
  induction n with
  | zero => intro i h1 h2; omega
  | succ n ih =>
    intro i h1 h2
    rw [L_X6_priceOf_4]
    by_cases hi : np ≤ i
    · have e : i = np := by omega
      subst e
      rw [if_pos (nI_le (Nat.le_refl _) (by omega))]
    · have IH := ih (i + 1) (by omega) (by omega)
      rw [if_neg (nI_ge (by omega) (by omega))]
      simp (disch := omega) only [x6_has hS (show i < 32 by omega), ob1_s, bI_0, pz_l2, pz_mul, pz_ok, gu_true, pz_cl, hp i (by omega), pv_e, nI_1, pz_add, pz_add0]
      simp only [sm] at IH
      cases c1 : S.testBit i <;> simp [c1] at IH ⊢ <;> exact IH

theorem r_price {np : Nat} {mp : Nat → Int32} {pr : Nat → Nat} {S : Nat} (hn : np ≤ 8) (hS : S < 2147483648) (hp : ∀ p, p < np → mp (2 * p + 1) = nI (pr p)) : m_X6_priceOf (nI S) (nI np) mp = some (nI (sm S.testBit pr np)) := by
  unfold m_X6_priceOf
  have h := r_priceL hn hS hp 300 0 (by omega) (by omega)
  rw [show sm S.testBit pr 0 = 0 from rfl] at h
  rw [pz_l0, h, ob1_s]

theorem r_weighL {nd : Nat} {md : Nat → Int32} {we : Nat → Nat} {S : Nat} (hn : nd ≤ 9) (hS : S < 2147483648) (hw : ∀ d, d < nd → md (4 * d + 3) = nI (we d)) : ∀ n i, nd < n + i → i ≤ nd → L_X6_allWeigh_4 (nI nd) (nI S) md n (nI (sm S.testBit we i)) (nI i) = some (nI (sm S.testBit we nd)) := by
  intro n
  induction n with
  | zero => intro i h1 h2; omega
  | succ n ih =>
    intro i h1 h2
    rw [L_X6_allWeigh_4]
    by_cases hi : nd ≤ i
    · have e : i = nd := by omega
      subst e
      rw [if_pos (nI_le (Nat.le_refl _) (by omega))]
    · have IH := ih (i + 1) (by omega) (by omega)
      rw [if_neg (nI_ge (by omega) (by omega))]
      simp (disch := omega) only [x6_has hS (show i < 32 by omega), x6_weighs, ob1_s, bI_0, hw i (by omega), pv_e, nI_1, pz_add, pz_add0]
      simp only [sm] at IH
      cases c1 : S.testBit i <;> simp [c1] at IH ⊢ <;> exact IH

theorem r_weigh {nd : Nat} {md : Nat → Int32} {we : Nat → Nat} {S : Nat} (hn : nd ≤ 9) (hS : S < 2147483648) (hw : ∀ d, d < nd → md (4 * d + 3) = nI (we d)) : m_X6_allWeigh (nI S) (nI nd) md = some (nI (sm S.testBit we nd)) := by
  unfold m_X6_allWeigh
  have h := r_weighL hn hS hw 300 0 (by omega) (by omega)
  rw [show sm S.testBit we 0 = 0 from rfl] at h
  rw [pz_l0, h, ob1_s]

theorem r_toldSetL {np : Nat} {cnd : Int32} {now mp md : Nat → Int32} {T : Nat → Nat} {S : Nat} (hn : np ≤ 8) (hS : S < 2147483648) (hT : ∀ p, p < np → m_X6_toldBy (nI p) cnd md now mp = some (nI (T p))) : ∀ n i, np < n + i → i ≤ np → L_X6_toldByAll_4 (nI np) (nI S) cnd md now mp n (nI (orS T S i)) (nI i) = some (nI (orS T S np)) := by
  intro n
  induction n with
  | zero => intro i h1 h2; omega
  | succ n ih =>
    intro i h1 h2
    rw [L_X6_toldByAll_4]
    by_cases hi : np ≤ i
    · have e : i = np := by omega
      subst e
      rw [if_pos (nI_le (Nat.le_refl _) (by omega))]
    · have IH := ih (i + 1) (by omega) (by omega)
      rw [if_neg (nI_ge (by omega) (by omega))]
      simp (disch := omega) only [x6_has hS (show i < 32 by omega), ob1_s, bI_0, hT i (by omega), pv_e, nI_1, pz_or, pz_or0]
      simp only [orS] at IH
      cases c1 : S.testBit i <;> simp [c1] at IH ⊢ <;> exact IH

theorem r_toldSet {np : Nat} {cnd : Int32} {now mp md : Nat → Int32} {T : Nat → Nat} {S : Nat} (hn : np ≤ 8) (hS : S < 2147483648) (hT : ∀ p, p < np → m_X6_toldBy (nI p) cnd md now mp = some (nI (T p))) : m_X6_toldByAll (nI S) (nI np) cnd md now mp = some (nI (orS T S np)) := by
  unfold m_X6_toldByAll
  have h := r_toldSetL hn hS hT 300 0 (by omega) (by omega)
  rw [show orS T S 0 = 0 from rfl] at h
  rw [pz_l0, h, ob1_s]

theorem r_toldL {nd p : Nat} {now mp md : Nat → Int32} {Te : Nat → Bool} (hn : nd ≤ 9) (hT : ∀ d, d < nd → m_X6_doesTell (nI p) (nI d) (nI nd) md now mp = some (bI (Te d))) : ∀ n i, nd < n + i → i ≤ nd → L_X6_toldBy_4 (nI nd) (nI p) md now mp n (nI (bts Te i)) (nI i) = some (nI (bts Te nd)) := by
  intro n
  induction n with
  | zero => intro i h1 h2; omega
  | succ n ih =>
    intro i h1 h2
    rw [L_X6_toldBy_4]
    by_cases hi : nd ≤ i
    · have e : i = nd := by omega
      subst e
      rw [if_pos (nI_le (Nat.le_refl _) (by omega))]
    · have IH := ih (i + 1) (by omega) (by omega)
      rw [if_neg (nI_ge (by omega) (by omega))]
      simp (disch := omega) only [hT i (by omega), ob1_s, pv_e, bI_0, nI_1, pz_shl, pz_or, pz_or0]
      simp only [bts] at IH
      cases c1 : Te i <;> simp [c1] at IH ⊢ <;> exact IH

theorem r_told {nd p : Nat} {now mp md : Nat → Int32} {Te : Nat → Bool} (hn : nd ≤ 9) (hT : ∀ d, d < nd → m_X6_doesTell (nI p) (nI d) (nI nd) md now mp = some (bI (Te d))) : m_X6_toldBy (nI p) (nI nd) md now mp = some (nI (bts Te nd)) := by
  unfold m_X6_toldBy
  have h := r_toldL hn hT 300 0 (by omega) (by omega)
  rw [show bts Te 0 = 0 from rfl] at h
  rw [pz_l0, h, ob1_s]

theorem r_bitsL {S : Nat} (hS : S < 2147483648) : ∀ n i, 10 < n + i → i ≤ 10 → L_X6_bits_4 (nI S) n (nI (cnt S.testBit i)) (nI i) = some (nI (cnt S.testBit 10)) := by
  intro n
  induction n with
  | zero => intro i h1 h2; omega
  | succ n ih =>
    intro i h1 h2
    rw [L_X6_bits_4]
    by_cases hi : 10 ≤ i
    · have e : i = 10 := by omega
      rw [e]
      rw [if_pos (show (10 : Int32) ≤ nI 10 by decide)]
    · have IH := ih (i + 1) (by omega) (by omega)
      rw [if_neg (show ¬ (10 : Int32) ≤ nI i from nI_ge (b := 10) (by omega) (by omega))]
      simp (disch := omega) only [pz_bit1, pv_e, nI_1, pz_add]
      simp only [cnt] at IH
      have hm : S / 2 ^ i % 2 = (if S.testBit i = true then 1 else 0) := by
        have h := pz_tb S i
        cases c : S.testBit i
        · simp [c] at h; simp; omega
        · simp [c] at h; simp; omega
      rw [hm]; exact IH

theorem r_bits {S : Nat} (hS : S < 2147483648) : m_X6_bits (nI S) = some (nI (cnt S.testBit 10)) := by
  unfold m_X6_bits
  have h := r_bitsL hS 300 0 (by omega) (by omega)
  rw [show cnt S.testBit 0 = 0 from rfl] at h
  rw [pz_l0, h, ob1_s]
theorem x6_loose {law ki h p : Nat} {now mp : Nat → Int32} (hl : law < 2147483648) (hp : p < 8) (hw : now (10 + p) = nI h) (hh : h < 3) (hk : mp (2 * p) = nI ki) (hki : ki < 32) : m_X6_isLoose (nI p) (nI law) now mp = some (bI (decide (h = 0) && !law.testBit ki)) := by
  unfold m_X6_isLoose
  have e0 : (nI h = 0) = (h = 0) := by rw [pz_l0, pz_eq (by omega) (by decide)]
  simp (disch := omega) only [pz_l10, pz_l2, pz_add, pz_mul, pz_ok, gu_true, pz_cl, hw, hk, x6_has hl hki, ob1_s, bI_0, e0]
  rw [show (if law.testBit ki = false then some (1 : Int32) else some 0) = some (bI (!law.testBit ki)) by cases law.testBit ki <;> rfl, bz_b0]
