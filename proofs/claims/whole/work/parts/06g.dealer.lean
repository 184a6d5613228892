/-! THE CALLS: dealer -/
/-- the first of the largest, and how large: none is -1 and 0 -/
def bst (G : Nat → Nat) : Nat → Int32 × Nat
  | 0 => (-1, 0)
  | n + 1 => if G n ≤ (bst G n).2 then bst G n else (nI n, G n)
theorem bst_s (G : Nat → Nat) (n : Nat) : bst G (n + 1) = if G n ≤ (bst G n).2 then bst G n else (nI n, G n) := rfl
theorem bst_is (G : Nat → Nat) : ∀ n, ((bst G n).1 = -1 ∧ (bst G n).2 = 0 ∧ ∀ p, p < n → G p = 0) ∨ ∃ p, p < n ∧ (bst G n).1 = nI p ∧ (bst G n).2 = G p ∧ 0 < G p
  | 0 => Or.inl ⟨rfl, rfl, fun p hp => absurd hp (Nat.not_lt_zero p)⟩
  | n + 1 => by
    rw [bst_s]
    by_cases c : G n ≤ (bst G n).2
    · rw [if_pos c]
      rcases bst_is G n with ⟨h1, h2, h3⟩ | ⟨p, h1, h2, h3, h4⟩
      · refine Or.inl ⟨h1, h2, fun p hp => ?_⟩
        by_cases e : p = n
        · subst e; omega
        · exact h3 p (by omega)
      · exact Or.inr ⟨p, by omega, h2, h3, h4⟩
    · rw [if_neg c]
      exact Or.inr ⟨n, by omega, rfl, rfl, by omega⟩
theorem bst_cg {G G' : Nat → Nat} : ∀ {n : Nat}, (∀ p, p < n → G p = G' p) → bst G n = bst G' n
  | 0, _ => rfl
  | n + 1, h => by rw [bst_s, bst_s, bst_cg (fun p hp => h p (by omega) : ∀ p, p < n → G p = G' p), h n (by omega)]
theorem bst_le {G : Nat → Nat} {b : Nat} : ∀ {n : Nat}, (∀ p, p < n → G p ≤ b) → (bst G n).2 ≤ b
  | 0, _ => Nat.zero_le _
  | n + 1, h => by
    rw [bst_s]
    by_cases c : G n ≤ (bst G n).2
    · rw [if_pos c]; exact bst_le (fun p hp => h p (by omega))
    · rw [if_neg c]; exact h n (by omega)
theorem c_loudL {np dn ou A : Nat} {told cwe : Nat → Int32} {T we G : Nat → Nat} (hn : np ≤ 8) (hd : dn ≤ 9) (hA : A < 2147483648) (hT : ∀ p, p < np → told p = nI (T p) ∧ T p < 512) (hw : ∀ d, d < dn → cwe d = nI (we d) ∧ we d ≤ 30) (hG : ∀ p, p < np → G p = if A.testBit p = true then sm (nd (T p) ou).testBit we dn else 0) :
    ∀ n i, np < n + i → i ≤ np → L_X5_loudest_8 (nI np) told (nI ou) (nI dn) cwe (nI A) n (bst G i).1 (nI (bst G i).2) (nI i) = some (bst G np).1 := by
  have hGb : ∀ p, p < np → G p ≤ 270 := fun p hp => by
    have := sm_le (nd (T p) ou).testBit we 30 dn (fun j hj => (hw j hj).2)
    rw [hG p hp]
    by_cases c : A.testBit p = true
    · rw [if_pos c]; omega
    · rw [if_neg c]; omega
  intro n
  induction n with
  | zero => intro i h1 h2; omega
  | succ n ih =>
    intro i h1 h2
    rw [L_X5_loudest_8]
    by_cases hi : np ≤ i
    · have e : i = np := by omega
      subst e
      rw [if_pos (nI_le (Nat.le_refl _) (by omega))]
    · have IH := ih (i + 1) (by omega) (by omega)
      obtain ⟨t1, t2⟩ := hT i (by omega)
      have hb := bst_le (G := G) (b := 270) (n := i) (fun p hp => hGb p (by omega))
      have hg := hG i (by omega)
      have hsm := sm_le (nd (T i) ou).testBit we 30 dn (fun j hj => (hw j hj).2)
      rw [bst_s] at IH
      rw [if_neg (nI_ge (by omega) (by omega)), pz_ok (by omega) (by omega), gu_true, pz_cl (by omega), t1, pz_not, c_weight hd (Nat.lt_of_le_of_lt (nd_le _ _) (by omega)) (fun d hq => (hw d hq).1), ob1_s]
      simp only [pz_bit hA (show i < 32 by omega), pv_e, nI_1]
      simp only [pz_le (show sm (nd (T i) ou).testBit we dn < 2147483648 by omega) (show (bst G i).2 < 2147483648 by omega)]
      by_cases c : A.testBit i = true
      · rw [if_pos c] at hg
        rw [if_pos c, ← hg]
        by_cases c2 : G i ≤ (bst G i).2
        · rw [if_pos c2] at IH ⊢; exact IH
        · rw [if_neg c2] at IH ⊢; exact IH
      · rw [if_neg c] at hg
        rw [if_pos (show G i ≤ (bst G i).2 by omega)] at IH
        rw [if_neg c]; exact IH
theorem c_loud {np dn ou A : Nat} {told cwe : Nat → Int32} {T we G : Nat → Nat} (hn : np ≤ 8) (hd : dn ≤ 9) (hA : A < 2147483648) (hT : ∀ p, p < np → told p = nI (T p) ∧ T p < 512) (hw : ∀ d, d < dn → cwe d = nI (we d) ∧ we d ≤ 30) (hG : ∀ p, p < np → G p = if A.testBit p = true then sm (nd (T p) ou).testBit we dn else 0) :
    m_X5_loudest (nI A) (nI ou) (nI np) (nI dn) told cwe = some (bst G np).1 := by
  unfold m_X5_loudest
  have h : L_X5_loudest_8 (nI np) told (nI ou) (nI dn) cwe (nI A) 300 (-1) 0 0 = some (bst G np).1 := c_loudL hn hd hA hT hw hG 300 0 (by omega) (by omega)
  rw [h, ob1_s]
theorem r_loudL {np dn ou : Nat} {mL : Int32} {now mp md : Nat → Int32} {T we G : Nat → Nat} {Lo : Nat → Bool} (hn : np ≤ 8) (hd : dn ≤ 9) (hL : ∀ p, p < np → m_X6_isLoose (nI p) mL now mp = some (bI (Lo p))) (hT : ∀ p, p < np → m_X6_toldBy (nI p) (nI dn) md now mp = some (nI (T p)) ∧ T p < 512) (hw : ∀ d, d < dn → md (4 * d + 3) = nI (we d) ∧ we d ≤ 30) (h1 : now 1 = nI ou) (hG : ∀ p, p < np → G p = if Lo p = true then sm (nd (T p) ou).testBit we dn else 0) :
    ∀ n i, np < n + i → i ≤ np → L_X6_dealer_36 (nI np) mL now mp (nI dn) md n (bst G i).1 (nI (bst G i).2) (nI i) = some ((bst G np).1, nI (bst G np).2) := by
  have hGb : ∀ p, p < np → G p ≤ 270 := fun p hp => by
    have := sm_le (nd (T p) ou).testBit we 30 dn (fun j hj => (hw j hj).2)
    rw [hG p hp]
    by_cases c : Lo p = true
    · rw [if_pos c]; omega
    · rw [if_neg c]; omega
  intro n
  induction n with
  | zero => intro i h1 h2; omega
  | succ n ih =>
    intro i q1 q2
    rw [L_X6_dealer_36]
    by_cases hi : np ≤ i
    · have e : i = np := by omega
      subst e
      rw [if_pos (nI_le (Nat.le_refl _) (by omega))]
    · have IH := ih (i + 1) (by omega) (by omega)
      obtain ⟨t1, t2⟩ := hT i (by omega)
      have hb := bst_le (G := G) (b := 270) (n := i) (fun p hp => hGb p (by omega))
      have hg := hG i (by omega)
      have hgb := hGb i (by omega)
      rw [bst_s] at IH
      have hgain : (if bI (Lo i) = 0 then some (0 : Int32) else ob1 (m_X6_toldBy (nI i) (nI dn) md now mp) (fun (x20 : Int32) => ob1 (m_X6_allWeigh ((x20 &&& ((now (1 : Int32).toNatClampNeg) ^^^ (-1)))) (nI dn) md) (fun (x21 : Int32) => some x21))) = some (nI (G i)) := by
        rw [hg]
        cases c : Lo i
        · rw [if_pos (show bI false = 0 from rfl), if_neg (by decide)]; rfl
        · rw [if_neg (by decide), if_pos rfl, t1, ob1_s, show (1 : Int32).toNatClampNeg = 1 from rfl, h1, pz_not, r_weigh hd (Nat.lt_of_le_of_lt (nd_le _ _) (by omega)) (fun d hq => (hw d hq).1), ob1_s]
      rw [if_neg (nI_ge (by omega) (by omega)), hL i (by omega), ob1_s, hgain, ob1_s]
      simp only [pz_le (show G i < 2147483648 by omega) (show (bst G i).2 < 2147483648 by omega), pv_e, nI_1]
      by_cases c2 : G i ≤ (bst G i).2
      · simp only [if_pos c2] at IH ⊢; rw [ob1_s]; exact IH
      · simp only [if_neg c2] at IH ⊢; rw [ob1_s]; exact IH
theorem r_loud {np dn ou : Nat} {mL : Int32} {now mp md : Nat → Int32} {T we G : Nat → Nat} {Lo : Nat → Bool} (hn : np ≤ 8) (hd : dn ≤ 9) (hL : ∀ p, p < np → m_X6_isLoose (nI p) mL now mp = some (bI (Lo p))) (hT : ∀ p, p < np → m_X6_toldBy (nI p) (nI dn) md now mp = some (nI (T p)) ∧ T p < 512) (hw : ∀ d, d < dn → md (4 * d + 3) = nI (we d) ∧ we d ≤ 30) (h1 : now 1 = nI ou) (hG : ∀ p, p < np → G p = if Lo p = true then sm (nd (T p) ou).testBit we dn else 0) :
    L_X6_dealer_36 (nI np) mL now mp (nI dn) md 300 (-1) 0 0 = some ((bst G np).1, nI (bst G np).2) := r_loudL hn hd hL hT hw h1 hG 300 0 (by omega) (by omega)
theorem cnt_one {P Q : Nat → Bool} {p : Nat} : ∀ {n : Nat}, p < n → P p = false → Q p = true → (∀ q, q < n → q ≠ p → P q = Q q) → cnt Q n = cnt P n + 1
  | 0, h, _, _, _ => absurd h (Nat.not_lt_zero _)
  | n + 1, h, h1, h2, h3 => by
    show cnt Q n + (if Q n = true then 1 else 0) = cnt P n + (if P n = true then 1 else 0) + 1
    by_cases c : n = p
    · subst c
      rw [h1, h2, cnt_congr (fun q hq => (h3 q (by omega) (by omega)).symm : ∀ q, q < n → Q q = P q)]; simp
    · rw [cnt_one (n := n) (by omega) h1 h2 (fun q hq => h3 q (by omega)), h3 n (by omega) c]; omega
theorem cnt_full {P : Nat → Bool} : ∀ {n : Nat}, n ≤ cnt P n → ∀ p, p < n → P p = true
  | 0, _, p, hp => absurd hp (Nat.not_lt_zero _)
  | n + 1, h, p, hp => by
    have h1 := cnt_le P n
    have h2 : n + 1 ≤ cnt P n + (if P n = true then 1 else 0) := h
    by_cases c : P n = true
    · rw [if_pos c] at h2
      by_cases e : p = n
      · subst e; exact c
      · exact cnt_full (n := n) (by omega) p (by omega)
    · rw [if_neg c] at h2; omega
theorem nd_0or (T o U : Nat) (hT : T < 512) (h : nd T o = 0) : nd T (o ||| U) = 0 :=
  (nd_0 T _ 9 hT (by decide)).mpr (fun p hp hb => by rw [Nat.testBit_or, (nd_0 T o 9 hT (by decide)).mp h p hp hb, Bool.true_or])
theorem nd_0self (T o : Nat) (hT : T < 512) : nd T (o ||| T) = 0 :=
  (nd_0 T _ 9 hT (by decide)).mpr (fun p hp hb => by rw [Nat.testBit_or, hb, Bool.or_true])
theorem MS.spoke {np p T : Nat} {s : Sd} {b : Nat → Int32} (hn : np ≤ 8) (hp : p < np) (h : MS np s b) : MS np (sSp s p T) (upd (upd b 1 (nI (s.2.2.2.1 ||| T))) (10 + p) 2) := by
  refine ⟨?_, ?_, fun q hq => ⟨?_, ?_⟩⟩
  · rw [upd_n (by omega), upd_n (by omega)]; exact h.1
  · rw [upd_n (by omega), upd_s]; rfl
  · rw [upd_n (by omega), upd_n (by omega)]; exact (h.2.2 q hq).1
  · show _ = nI (hw s.2.1 (s.2.2.1 ||| 2 ^ p) q)
    rw [hw_sp (by omega)]
    by_cases c : q = p
    · subst c
      rw [if_pos rfl, upd_s]; rfl
    · rw [if_neg c, upd_n (by omega), upd_n (by omega)]; exact (h.2.2 q hq).2
theorem vL_sp {h : Hd} {s : Sd} {p T q : Nat} (hq : q < 8) : vL h (sSp s p T) q = if q = p then false else vL h s q := by
  show (decide (hw s.2.1 (s.2.2.1 ||| 2 ^ p) q = 0) && _) = _
  rw [hw_sp (by omega)]
  by_cases c : q = p
  · rw [if_pos c, if_pos c]; rfl
  · rw [if_neg c, if_neg c]
/-- where the dealer stands after some turns -/
def Dl (h : Hd) (s0 s : Sd) (i : Nat) : Prop := CS (hnp h) (hnd h) s ∧ s.1 = s0.1 ∧ (∀ p, p < hnp h → vL h s p = true → vL h s0 p = true) ∧ (∀ p, p < hnp h → vL h s0 p = true → vL h s p = false → nd (vT h s0 p) s.2.2.2.1 = 0) ∧ i ≤ cnt (fun p => vL h s0 p && !vL h s p) (hnp h)
theorem Dl.next {h : Hd} {s0 s : Sd} {i p : Nat} (hB : HB h) (hD : Dl h s0 s i) (hp : p < hnp h) (hL : vL h s p = true) : Dl h s0 (sSp s p (vT h s0 p)) (i + 1) := by
  obtain ⟨d1, d2, d3, d4, d5⟩ := hD
  have h0 : hw s.2.1 s.2.2.1 p = 0 := by
    have c3 := hL
    rw [Bool.and_eq_true] at c3
    exact of_decide_eq_true c3.1
  have b2 := hB.2.1
  refine ⟨d1.spoke hp (vT_lt2 s0 p) h0, d2, fun q hq hb => ?_, fun q hq hb hc => ?_, ?_⟩
  · rw [vL_sp (by omega)] at hb
    by_cases c : q = p
    · rw [if_pos c] at hb; cases hb
    · rw [if_neg c] at hb; exact d3 q hq hb
  · show nd (vT h s0 q) (s.2.2.2.1 ||| vT h s0 p) = 0
    rw [vL_sp (by omega)] at hc
    by_cases c : q = p
    · subst c; exact nd_0self _ _ (vT_lt hB s0 q)
    · rw [if_neg c] at hc; exact nd_0or _ _ _ (vT_lt hB s0 q) (d4 q hq hb hc)
  · have e := cnt_one (P := fun q => vL h s0 q && !vL h s q) (Q := fun q => vL h s0 q && !vL h (sSp s p (vT h s0 p)) q) hp (by show (vL h s0 p && !vL h s p) = false; rw [hL]; simp) (by show (vL h s0 p && !vL h (sSp s p (vT h s0 p)) p) = true; rw [vL_sp (by omega), if_pos rfl, d3 p hp hL]; rfl) (fun q hq hne => by show (vL h s0 q && !vL h s q) = (vL h s0 q && !vL h (sSp s p (vT h s0 p)) q); rw [vL_sp (by omega), if_neg hne])
    omega
theorem deal_L {h : Hd} {s0 : Sd} {a1 mL : Int32} {told cwe mp md : Nat → Int32} (hB : HB h) (hM : HM h (nI (hnp h)) (nI (hnd h)) mL mp md) (hc : ∀ p, p < hnp h → told p = nI (vT h s0 p)) (hw : ∀ d, d < hnd h → cwe d = nI (hwe h d)) (ha : a1 = -1 ∨ ∃ t, t < 2147483648 ∧ a1 = nI t) :
    ∀ n i s now su (who : Int32), hnp h + 2 < n + i → i ≤ hnp h → Dl h s0 s i → MS (hnp h) s now → (∀ t, a1 = nI t → t < 2147483648 → i ≤ t → who = -4) →
      ∃ now' sF wF, L_X6_dealer_22 (nI (hnp h)) mL mp (nI (hnd h)) md a1 n now (nI su) (nI i) who 1 = some (now', sF, wF) ∧ (a1 = -1 → L_X5_dealer_30 (nI (hnp h)) a1 told (nI (bts (vL h s0) (hnp h))) (nI (hnd h)) cwe n (nI s.2.2.2.1) (nI su) (nI i) = some (sF, told)) ∧ ∀ t, a1 = nI t → t < 2147483648 → (i ≤ t → L_X5_dealer_30 (nI (hnp h)) a1 told (nI (bts (vL h s0) (hnp h))) (nI (hnd h)) cwe n (nI s.2.2.2.1) (nI su) (nI i) = some (wF, told)) ∧ (t < i → wF = who) := by
  obtain ⟨b1, b2, b3, b4, b5, b6⟩ := id hB
  intro n
  induction n with
  | zero => intro i s now su who h1 h2; omega
  | succ n ih =>
    intro i s now su who q1 q2 hD hMs hwho
    obtain ⟨d1, d2, d3, d4, d5⟩ := id hD
    obtain ⟨s1, s2, s3, s4, s5⟩ := d1.small b2 b3
    have eT : ∀ p, vT h s p = vT h s0 p := fun p => by unfold vT; rw [d2]
    have t6 := v6_told hB hM hMs
    have l6 := v6_loose hB hM hMs
    have hA := lt256 hB (bts_lt (vL h s0) (hnp h))
    have hr := r_loud (we := hwe h) (G := fun p => if vL h s p = true then sm (nd (vT h s0 p) s.2.2.2.1).testBit (hwe h) (hnd h) else 0) (T := fun p => vT h s0 p) b2 b3 l6 (fun p hp => ⟨eT p ▸ t6 p hp, vT_lt hB s0 p⟩) (fun d hd => ⟨(hM.2.2.2.2 d hd).2.2.2, (b6 d hd).2.2.2.2⟩) hMs.2.1 (fun p hp => rfl)
    have hG : ∀ p, p < hnp h → (if vL h s p = true then sm (nd (vT h s0 p) s.2.2.2.1).testBit (hwe h) (hnd h) else 0) = if (bts (vL h s0) (hnp h)).testBit p = true then sm (nd (vT h s0 p) s.2.2.2.1).testBit (hwe h) (hnd h) else 0 := fun p hp => by
      rw [bts_bit, decide_eq_true hp, Bool.true_and]
      cases c : vL h s p
      · cases c0 : vL h s0 p
        · rfl
        · rw [d4 p hp c0 c, sm_zero]; rfl
      · rw [d3 p hp c]
    have hl := c_loud (we := hwe h) (cwe := cwe) (dn := hnd h) (told := told) (ou := s.2.2.2.1) (A := bts (vL h s0) (hnp h)) (T := fun p => vT h s0 p) (G := fun p => if vL h s p = true then sm (nd (vT h s0 p) s.2.2.2.1).testBit (hwe h) (hnd h) else 0) b2 b3 (by omega) (fun p hp => ⟨hc p hp, vT_lt hB s0 p⟩) (fun d hd => ⟨hw d hd, (b6 d hd).2.2.2.2⟩) hG
    rw [L_X6_dealer_22, if_neg (show ¬ (1 : Int32) = 0 by decide), hr, ob2_s]
    rw [L_X5_dealer_30, hl, ob1_s]
    rcases bst_is (fun p => if vL h s p = true then sm (nd (vT h s0 p) s.2.2.2.1).testBit (hwe h) (hnd h) else 0) (hnp h) with ⟨g1, g2, g3⟩ | ⟨p, g0, g1, g2, g3⟩
    · rw [g1, if_pos (show (-1 : Int32) < 0 by decide), ob1_s, if_pos rfl, if_neg (show ¬ (0 : Int32) ≤ -1 by decide)]
      obtain ⟨n', rfl⟩ : ∃ n', n = n' + 1 := ⟨n - 1, by omega⟩
      rw [L_X6_dealer_22, if_pos rfl]
      refine ⟨now, nI su, who, rfl, fun e => ?_, fun t e ht => ⟨fun hit => ?_, fun _ => rfl⟩⟩
      · simp only [if_pos e, ite_self]
      · have hne : ¬ a1 = -1 := fun q => by rw [e, pz_m1] at q; exact absurd q (fun q2 => by
          have := congrArg (fun y : Int32 => y.toBitVec.toNat) q2
          rw [pz_tn (by omega), pz_tn (by omega)] at this
          omega)
        simp only [if_neg hne, ite_self, hwho t e ht hit]
    · have hlp : vL h s p = true := by
        cases c : vL h s p
        · rw [c] at g3; simp at g3
        · rfl
      rw [hlp, if_pos rfl] at g2 g3
      have hni : ¬ hnp h ≤ i := fun q => by
        have h1 := cnt_full (Nat.le_trans q d5) p g0
        rw [hlp] at h1; simp at h1
      have e1 := t6 p g0
      rw [eT p] at e1
      rw [g1, g2, if_neg (nI_pos (by omega)), ob1_s, if_neg (show ¬ (1 : Int32) = 0 by decide), e1, show (1 : Int32).toNatClampNeg = 1 from rfl, hMs.2.1]
      rw [if_neg (nI_ge (by omega) (by omega)), if_pos (show (0 : Int32) ≤ nI p from nI_le (a := 0) (Nat.zero_le _) (by omega)), pz_ok (show p < 8 by omega) (by omega), gu_true, pz_cl (by omega), hc p g0, pz_not, c_weight b3 (Nat.lt_of_le_of_lt (nd_le _ _) (by have := vT_lt hB s0 p; omega)) hw, ob1_s]
      simp (disch := omega) only [pv_e, ob1_s, pz_or, pz_add, nI_1, pz_l10, pz_ok, gu_true, pz_cl]
      have hD2 := hD.next hB g0 hlp
      have hM2 := hMs.spoke (T := vT h s0 p) b2 g0
      have step := fun (who' : Int32) (hw' : ∀ t, a1 = nI t → t < 2147483648 → i + 1 ≤ t → who' = -4) => ih (i + 1) (sSp s p (vT h s0 p)) _ (su + sm (nd (vT h s0 p) s.2.2.2.1).testBit (hwe h) (hnd h)) who' (by omega) (by omega) hD2 hM2 hw'
      rcases ha with ha | ⟨t, ht, ha⟩
      · have hne : ¬ nI i = a1 := fun q => by rw [ha, pz_m1] at q; exact absurd q (fun q2 => by
          have := congrArg (fun y : Int32 => y.toBitVec.toNat) q2
          rw [pz_tn (by omega), pz_tn (by omega)] at this
          omega)
        obtain ⟨now', sF, wF, z1, z2, z3⟩ := step who (fun t e ht _ => by
          exact absurd (ha.symm.trans e) (fun q => by
            rw [pz_m1] at q
            have := congrArg (fun y : Int32 => y.toBitVec.toNat) q
            rw [pz_tn (by omega), pz_tn (by omega)] at this
            omega))
        refine ⟨now', sF, wF, ?_, fun e => ?_, fun t e ht => ?_⟩
        · rw [if_neg hne, ob1_s]; exact z1
        · rw [if_neg hne]; exact z2 e
        · exact absurd (ha.symm.trans e) (fun q => by
            rw [pz_m1] at q
            have := congrArg (fun y : Int32 => y.toBitVec.toNat) q
            rw [pz_tn (by omega), pz_tn (by omega)] at this
            omega)
      · have hm1 : ¬ a1 = -1 := fun q => by
          rw [ha, pz_m1] at q
          have := congrArg (fun y : Int32 => y.toBitVec.toNat) q
          rw [pz_tn (by omega), pz_tn (by omega)] at this
          omega
        have hti : ∀ t', a1 = nI t' → t' < 2147483648 → t' = t := fun t' e h' => ((pz_eq (by omega) (by omega)).mp (ha.symm.trans e)).symm
        by_cases c : i = t
        · have ce : nI i = a1 := by rw [ha, c]
          obtain ⟨now', sF, wF, z1, z2, z3⟩ := step (nI p) (fun t' e h' hh => by have := hti t' e h'; omega)
          refine ⟨now', sF, wF, ?_, fun e => absurd e hm1, fun t' e h' => ⟨fun hh => ?_, fun hh => by have := hti t' e h'; omega⟩⟩
          · rw [if_pos ce, ob1_s]; exact z1
          · rw [if_pos ce, (z3 t' e h').2 (by have := hti t' e h'; omega)]
        · have ce : ¬ nI i = a1 := fun q => c ((pz_eq (by omega) ht).mp (q.trans ha))
          obtain ⟨now', sF, wF, z1, z2, z3⟩ := step who (fun t' e h' hh => hwho t' e h' (by omega))
          refine ⟨now', sF, wF, ?_, fun e => absurd e hm1, fun t' e h' => ⟨fun hh => ?_, fun hh => (z3 t' e h').2 (by omega)⟩⟩
          · rw [if_neg ce, ob1_s]; exact z1
          · rw [if_neg ce]
            exact (z3 t' e h').1 (by have := hti t' e h'; omega)
theorem api_dealer {h : Hd} {s : Sd} {cP cD cL mP mD mL cro cbo csp cou cco : Int32} {cki cpr cpe cpl cho cwe mp md ms ctd mw : Nat → Int32} (a1 : Int32) (hH : RH h cP cD cL cki cpr cpe cpl cho cwe mP mD mL mp md) (hN : RN h s cro cbo csp cou cco ms) : ∃ r ctd' mw', m_X5_dealer a1 cP cD cL cro cbo csp cou cpl cki cho cwe ctd = some (r, ctd') ∧ m_X6_dealer a1 mP mD mL ms mw mp md = some (r, mw') := by
  obtain ⟨hB, hC, hM⟩ := hH
  obtain ⟨hS, ⟨e1, e2, e3, e4, e5⟩, hMs⟩ := hN
  obtain ⟨b1, b2, b3, b4, b5, b6⟩ := id hB
  obtain ⟨s1, s2, s3, s4, s5⟩ := hS.small b2 b3
  have t5 := v5_told hB hC hS e1
  have l5 := v5_loose hB hC hS e2 e3
  have t6 := v6_told hB hM (hMs.asIs (now := mw) b2)
  have l6 := v6_loose hB hM (hMs.asIs (now := mw) b2)
  have eP := hC.1
  have eP2 := hM.1
  have eD := hC.2.1
  have eD2 := hM.2.1
  subst eP eP2 eD eD2
  have lo := c_loose b2 l5
  have hf := c_fillTold ctd b2 t5
  have hA := bts_lt (vL h s) (hnp h)
  unfold m_X5_dealer m_X6_dealer
  rw [hf, ob1_s, lo, ob1_s, r_asItIs, ob1_s, e4]
  by_cases c0 : -1 ≤ a1
  · rw [if_pos c0, if_pos c0]
    have ha : a1 = -1 ∨ ∃ t, t < 2147483648 ∧ a1 = nI t := by
      by_cases c1 : a1 = -1
      · exact Or.inl c1
      · right
        have h1 : (-1 : Int) ≤ a1.toInt := Int32.le_iff_toInt_le.mp c0
        have h2 := a1.toInt_lt
        have h3 : a1.toInt ≠ -1 := fun q => c1 (Int32.toInt_inj.mp q)
        exact ⟨a1.toInt.toNat, by omega, Int32.toInt_inj.mp (by rw [nI_toInt (by omega)]; omega)⟩
    have hD0 : Dl h s s 0 := by
      refine ⟨hS, rfl, fun p hp hb => hb, fun p hp h1 h2 => ?_, Nat.zero_le _⟩
      rw [h1] at h2; cases h2
    obtain ⟨now', sF, wF, z1, z2, z3⟩ := deal_L (cwe := cwe) (told := fillF ctd (vT h s) (hnp h)) (s0 := s) hB hM fill_at (fun d hd => (hC.2.2.2.2 d hd).2.2.2) ha 300 0 s (cpF mw 0 ms 0 18) 0 (-4) (by omega) (by omega) hD0 (hMs.asIs (now := mw) b2) (fun _ _ _ _ => rfl)
    have y1 : L_X6_dealer_22 (nI (hnp h)) mL mp (nI (hnd h)) md a1 300 (cpF mw 0 ms 0 18) 0 0 (-4) 1 = some (now', sF, wF) := z1
    rw [y1, ob3_s]
    rcases ha with ha | ⟨t, ht, ha⟩
    · have y2 : L_X5_dealer_30 (nI (hnp h)) a1 (fillF ctd (vT h s) (hnp h)) (nI (bts (vL h s) (hnp h))) (nI (hnd h)) cwe 300 (nI s.2.2.2.1) 0 0 = _ := z2 ha
      rw [y2, if_neg (by rw [ha]; decide)]
      exact ⟨_, _, _, rfl, rfl⟩
    · have y2 : L_X5_dealer_30 (nI (hnp h)) a1 (fillF ctd (vT h s) (hnp h)) (nI (bts (vL h s) (hnp h))) (nI (hnd h)) cwe 300 (nI s.2.2.2.1) 0 0 = _ := (z3 t ha ht).1 (Nat.zero_le _)
      rw [y2, if_pos (by rw [ha]; exact nI_le (a := 0) (Nat.zero_le _) (by omega))]
      exact ⟨_, _, _, rfl, rfl⟩
  · rw [if_neg c0, if_neg c0]; exact ⟨_, _, _, rfl, rfl⟩
