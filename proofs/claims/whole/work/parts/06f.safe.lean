/-! THE CALLS: safe, dealer -/
theorem bts_s (P : Nat → Bool) (n : Nat) : bts P (n + 1) = if P n = true then bts P n ||| 2 ^ n else bts P n := by
  show bts P n ||| (if P n = true then 2 ^ n else 0) = _
  by_cases c : P n = true
  · rw [if_pos c, if_pos c]
  · rw [if_neg c, if_neg c, Nat.or_zero]
theorem bts_4t : bts (fun _ => true) 4 = 15 := by decide
/-- no piece below i is told of at b -/
def noP (Q : Nat → Bool) (R : Nat → Nat) (b : Nat) : Nat → Bool
  | 0 => true
  | i + 1 => noP Q R b i && !(Q i && decide (R i = b))
theorem noP_L5 {np dn hr wt : Nat} {cro cbo csp cL : Int32} {cki cho cpl : Nat → Int32} {Lo : Nat → Bool} {R ki pl ho : Nat → Nat} (hn : np ≤ 8) (hd : dn ≤ 9) (hR : ∀ p, p < np → m_X4_roomOf (nI p) cro = some (nI (R p)) ∧ R p < 4) (hL : ∀ p, p < np → m_X5_isLoose (nI p) cbo csp cL cki = some (bI (Lo p))) (hk : ∀ p, p < np → cki p = nI (ki p) ∧ ki p < 4) (hpl : ∀ j, j < dn → cpl j = nI (pl j) ∧ pl j < 1000) (hho : ∀ j, j < dn → cho j = nI (ho j) ∧ ho j < 1000) (hh : hr < 1000) (hw : wt < 1000) :
    ∀ n i, np < n + i → i ≤ np → L_X5_safe_28 (nI np) cro cbo csp cL cki (nI dn) (nI hr) (nI wt) cho cpl n (nI (bts (fun b => noP (fun p => Lo p && tellP dn pl ho (ki p) (R p) dn hr wt) R b i) 4)) (nI i) = some (nI (bts (fun b => noP (fun p => Lo p && tellP dn pl ho (ki p) (R p) dn hr wt) R b np) 4)) := by
  intro n
  induction n with
  | zero => intro i h1 h2; omega
  | succ n ih =>
    intro i h1 h2
    rw [L_X5_safe_28]
    by_cases hi : np ≤ i
    · have e : i = np := by omega
      subst e
      rw [if_pos (nI_le (Nat.le_refl _) (by omega))]
    · have IH := ih (i + 1) (by omega) (by omega)
      obtain ⟨r1, r2⟩ := hR i (by omega)
      obtain ⟨k1, k2⟩ := hk i (by omega)
      rw [if_neg (nI_ge (by omega) (by omega)), r1, ob1_s, hL i (by omega), ob1_s, pz_ok (by omega) (by omega), gu_true, pz_cl (by omega), k1, x0_would hd hpl hho (by omega) (by omega) hh hw k2, ob1_s]
      simp only [bI_0, pv_e, nI_1]
      by_cases c : (Lo i && tellP dn pl ho (ki i) (R i) dn hr wt) = true
      · rw [Bool.and_eq_true] at c
        rw [if_neg (by rw [c.1]; decide), if_neg (by rw [c.2]; decide), pz_shl _ (by omega), pz_not]
        rw [show nd (bts (fun b => noP (fun p => Lo p && tellP dn pl ho (ki p) (R p) dn hr wt) R b i) 4) (2 ^ R i) = bts (fun b => noP (fun p => Lo p && tellP dn pl ho (ki p) (R p) dn hr wt) R b (i + 1)) 4 from by
          rw [bts_nd _ _ _ (by omega)]
          refine bts_congr (fun b hb => ?_)
          show _ = (noP _ R b i && !(_ && decide (R i = b)))
          simp [c.1, c.2, Nat.testBit_two_pow]]
        exact IH
      · have e : bts (fun b => noP (fun p => Lo p && tellP dn pl ho (ki p) (R p) dn hr wt) R b (i + 1)) 4 = bts (fun b => noP (fun p => Lo p && tellP dn pl ho (ki p) (R p) dn hr wt) R b i) 4 := bts_congr (fun b hb => by
          show (noP _ R b i && !((Lo i && tellP dn pl ho (ki i) (R i) dn hr wt) && decide (R i = b))) = _
          rw [Bool.eq_false_iff.mpr c]; simp)
        rw [e] at IH
        cases c1 : Lo i
        · rw [if_pos rfl]; exact IH
        · rw [c1, Bool.true_and] at c
          rw [if_neg (by decide), if_pos (Bool.eq_false_iff.mpr c)]; exact IH
theorem tellP_new {n b k room hr wt : Nat} {pl ho : Nat → Nat} : tellP (n + 1) (fun j => if j = n then b else pl j) (fun j => if j = n then hr else ho j) k room n hr wt = tellP n pl ho k room n hr wt := by
  unfold tellP
  have e : cnt (latP (fun j => if j = n then b else pl j) (fun j => if j = n then hr else ho j) room n hr) (n + 1) = cnt (latP pl ho room n hr) n := by
    rw [show ∀ P : Nat → Bool, cnt P (n + 1) = cnt P n + if P n = true then 1 else 0 from fun _ => rfl, if_neg (by unfold latP; simp), Nat.add_zero]
    refine cnt_congr (fun j hj => ?_)
    unfold latP
    simp only [if_neg (show ¬ j = n by omega)]
  rw [e]
theorem noP_L6 {np : Nat} {mL mD d : Int32} {now mp md : Nat → Int32} {Lo Q Te : Nat → Bool} {R : Nat → Nat} {b : Nat} (hn : np ≤ 8) (hd : mD = d) (hL : ∀ p, p < np → m_X6_isLoose (nI p) mL now mp = some (bI (Lo p))) (hT : ∀ p, p < np → m_X6_doesTell (nI p) d (d + 1) md now mp = some (bI (Te p))) (hQ : ∀ p, p < np → (Lo p && Te p) = (Q p && decide (R p = b))) :
    ∀ n i, np < n + i → i ≤ np → L_X6_safe_86 (nI np) mL now mp mD md n (bI (noP Q R b i)) (nI i) = some (bI (noP Q R b np)) := by
  subst hd
  intro n
  induction n with
  | zero => intro i h1 h2; omega
  | succ n ih =>
    intro i h1 h2
    rw [L_X6_safe_86]
    by_cases hi : np ≤ i
    · have e : i = np := by omega
      subst e
      rw [if_pos (nI_le (Nat.le_refl _) (by omega))]
    · have IH := ih (i + 1) (by omega) (by omega)
      have q := hQ i (by omega)
      rw [show noP Q R b (i + 1) = (noP Q R b i && !(Q i && decide (R i = b))) from rfl, ← q] at IH
      rw [if_neg (nI_ge (by omega) (by omega)), hL i (by omega), ob1_s, hT i (by omega), ob1_s]
      simp only [bI_0, pv_e, nI_1]
      cases c : noP Q R b i
      · rw [c] at IH; rw [if_pos rfl]; exact IH
      · rw [c] at IH
        rw [if_neg (by decide)]
        cases c1 : Lo i
        · rw [c1] at IH; rw [if_pos rfl]; exact IH
        · rw [c1] at IH
          rw [if_neg (by decide)]
          cases c2 : Te i <;> rw [c2] at IH
          · rw [if_pos rfl]; exact IH
          · rw [if_neg (by decide)]; exact IH
theorem safe_L {h : Hd} {s : Sd} {mL : Int32} {now mp : Nat → Int32} {hr wt : Nat} (hB : HB h) (hh : hr < 1000) (hw : wt < 1000) (hMs : MS (hnp h) s now) (hL : ∀ p, p < hnp h → m_X6_isLoose (nI p) mL now mp = some (bI (vL h s p))) :
    ∀ n b md, 4 < n + b → b ≤ 4 → HM h (nI (hnp h)) (nI (hnd h)) mL mp md → ∃ md', L_X6_safe_31 (nI (hnd h)) (nI hr) (nI wt) (nI (hnp h)) mL now mp n md (nI (bts (fun b => noP (fun p => vL h s p && tellP (hnd h) (hpl h) (hho h) (hki h p) (rmo s.1 p) (hnd h) hr wt) (rmo s.1) b (hnp h)) b)) (nI b) = some (md', nI (bts (fun b => noP (fun p => vL h s p && tellP (hnd h) (hpl h) (hho h) (hki h p) (rmo s.1 p) (hnd h) hr wt) (rmo s.1) b (hnp h)) 4)) ∧ HM h (nI (hnp h)) (nI (hnd h)) mL mp md' := by
  obtain ⟨b1, b2, b3, b4, b5, b6⟩ := id hB
  intro n
  induction n with
  | zero => intro b md h1 h2; omega
  | succ n ih =>
    intro b md h1 h2 hM
    rw [L_X6_safe_31]
    by_cases hi : 4 ≤ b
    · have e : b = 4 := by omega
      subst e
      rw [if_pos (by decide)]
      exact ⟨md, rfl, hM⟩
    · rw [if_neg (show ¬ (4 : Int32) ≤ nI b from fun q => by rw [pz_l4, pz_le (by omega) (by omega)] at q; omega)]
      simp (disch := omega) only [pz_l4, pz_l1, pz_l2, pz_l3, pz_mul, pz_add, pz_ok, gu_true, pz_cl, pv_e]
      have hM2 : HM h (nI (hnp h)) (nI (hnd h)) mL mp (upd (upd (upd md (4 * hnd h + 1) (nI b)) (4 * hnd h + 2) (nI hr)) (4 * hnd h + 3) (nI wt)) := by
        obtain ⟨m1, m2, m3, m4, m5⟩ := hM
        refine ⟨m1, m2, m3, m4, fun d hd => ?_⟩
        have m6 := m5 d hd
        refine ⟨?_, ?_, ?_, ?_⟩ <;> rw [upd_n (by omega), upd_n (by omega), upd_n (by omega)]
        · exact m6.1
        · exact m6.2.1
        · exact m6.2.2.1
        · exact m6.2.2.2
      have hT : ∀ p, p < hnp h → m_X6_doesTell (nI p) (nI (hnd h)) (nI (hnd h) + 1) (upd (upd (upd md (4 * hnd h + 1) (nI b)) (4 * hnd h + 2) (nI hr)) (4 * hnd h + 3) (nI wt)) now mp = some (bI (decide (b = rmo s.1 p) && tellP (hnd h) (hpl h) (hho h) (hki h p) (rmo s.1 p) (hnd h) hr wt)) := fun p hp => by
        have k := x6_does (n0 := hnd h + 1) (now := now) (mp := mp) (md := upd (upd (upd md (4 * hnd h + 1) (nI b)) (4 * hnd h + 2) (nI hr)) (4 * hnd h + 3) (nI wt)) (pl := fun j => if j = hnd h then b else hpl h j) (ho := fun j => if j = hnd h then hr else hho h j) (we := fun j => if j = hnd h then wt else hwe h j) (p := p) (k := hki h p) (room := rmo s.1 p) (d := hnd h) (by omega) ?_ ?_ ?_ (by omega) (by omega) (hMs.2.2 p hp).1 (by have := rmo_lt s.1 p; omega) (hM.2.2.2.1 p hp).1 (b5 p hp).1
        · rw [nI_1, k]
          unfold tellS
          simp only [if_true]
          rw [tellP_new]
        · intro j hj
          by_cases c : j = hnd h
          · subst c
            rw [upd_n (by omega), upd_n (by omega), upd_s, if_pos rfl]
            exact ⟨rfl, by omega⟩
          · rw [if_neg c]
            exact ⟨(hM2.2.2.2.2 j (by omega)).2.1, by have := b6 j (by omega); omega⟩
        · intro j hj
          by_cases c : j = hnd h
          · subst c
            rw [upd_n (by omega), upd_s, if_pos rfl]
            exact ⟨rfl, by omega⟩
          · rw [if_neg c]
            exact ⟨(hM2.2.2.2.2 j (by omega)).2.2.1, by have := b6 j (by omega); omega⟩
        · intro j hj
          by_cases c : j = hnd h
          · subst c
            rw [upd_s, if_pos rfl]
            exact ⟨rfl, by omega⟩
          · rw [if_neg c]
            exact ⟨(hM2.2.2.2.2 j (by omega)).2.2.2, by have := b6 j (by omega); omega⟩
      have g := noP_L6 (Q := fun p => vL h s p && tellP (hnd h) (hpl h) (hho h) (hki h p) (rmo s.1 p) (hnd h) hr wt) (R := rmo s.1) (b := b) b2 rfl hL hT (fun p hp => by
        rw [show decide (b = rmo s.1 p) = decide (rmo s.1 p = b) from decide_eq_decide.mpr ⟨Eq.symm, Eq.symm⟩, Bool.and_comm (decide _), ← Bool.and_assoc]) 300 0 (by omega) (by omega)
      rw [show bI (noP (fun p => vL h s p && tellP (hnd h) (hpl h) (hho h) (hki h p) (rmo s.1 p) (hnd h) hr wt) (rmo s.1) b 0) = nI 1 from rfl] at g
      rw [show (0 : Int32) = nI 0 from rfl, g, ob1_s, ← pz_l0]
      simp only [bI_0, ← pz_l1, nI_1]
      obtain ⟨md', z1, z2⟩ := ih (b + 1) _ (by omega) (by omega) hM2
      refine ⟨md', ?_, z2⟩
      cases c : noP (fun p => vL h s p && tellP (hnd h) (hpl h) (hho h) (hki h p) (rmo s.1 p) (hnd h) hr wt) (rmo s.1) b (hnp h)
      · rw [if_pos rfl, pz_or0]
        rw [show bts (fun b => noP (fun p => vL h s p && tellP (hnd h) (hpl h) (hho h) (hki h p) (rmo s.1 p) (hnd h) hr wt) (rmo s.1) b (hnp h)) (b + 1) = bts (fun b => noP (fun p => vL h s p && tellP (hnd h) (hpl h) (hho h) (hki h p) (rmo s.1 p) (hnd h) hr wt) (rmo s.1) b (hnp h)) b by
          rw [bts_s, if_neg (by rw [c]; decide)]] at z1
        exact z1
      · rw [if_neg (by decide), pz_shl b (by omega), pz_or]
        rw [show bts (fun b => noP (fun p => vL h s p && tellP (hnd h) (hpl h) (hho h) (hki h p) (rmo s.1 p) (hnd h) hr wt) (rmo s.1) b (hnp h)) (b + 1) = bts (fun b => noP (fun p => vL h s p && tellP (hnd h) (hpl h) (hho h) (hki h p) (rmo s.1 p) (hnd h) hr wt) (rmo s.1) b (hnp h)) b ||| 2 ^ b by
          rw [bts_s, if_pos c]] at z1
        exact z1
theorem api_safe {h : Hd} {s : Sd} {cP cD cL mP mD mL cro cbo csp cou cco : Int32} {cki cpr cpe cpl cho cwe mp md ms mw : Nat → Int32} (a1 : Int32) (a2 : Int32) (hH : RH h cP cD cL cki cpr cpe cpl cho cwe mP mD mL mp md) (hN : RN h s cro cbo csp cou cco ms) : ∃ r mw' md', m_X5_safe a1 a2 cP cD cL cro cbo csp cki cho cpl = some r ∧ m_X6_safe a1 a2 mP mD mL ms mw md mp = some (r, mw', md') ∧ RH h cP cD cL cki cpr cpe cpl cho cwe mP mD mL mp md' := by
  obtain ⟨hB, hC, hM⟩ := hH
  obtain ⟨hS, ⟨e1, e2, e3, e4, e5⟩, hMs⟩ := hN
  obtain ⟨b1, b2, b3, b4, b5, b6⟩ := id hB
  obtain ⟨s1, s2, s3, s4, s5⟩ := hS.small b2 b3
  have t5 := v5_told hB hC hS e1
  have l5 := v5_loose hB hC hS e2 e3
  have t6 := v6_told hB hM (hMs.asIs (now := mw) b2)
  have l6 := v6_loose hB hM (hMs.asIs (now := mw) b2)
  have eP := hC.1
  have eP2 := hM.1
  have eD := hC.2.1
  have eD2 := hM.2.1
  subst eP eP2 eD eD2
  unfold m_X5_safe m_X6_safe
  rw [show m_X5_isWithin a1 0 23 = some (bI (inR a1 0 23)) from x5_within a1 0 23 (by decide) (by decide), show m_X6_in a1 0 23 = some (bI (inR a1 0 23)) from x6_in a1 0 23 (by decide) (by decide), show m_X5_isWithin a2 1 30 = some (bI (inR a2 1 30)) from x5_within a2 1 30 (by decide) (by decide), show m_X6_in a2 1 30 = some (bI (inR a2 1 30)) from x6_in a2 1 30 (by decide) (by decide), r_asItIs]
  simp only [ob1_s, bI_0]
  cases c1 : inR a1 0 23
  · exact ⟨-1, _, _, rfl, rfl, hB, hC, hM⟩
  cases c2 : inR a2 1 30
  · exact ⟨-1, _, _, rfl, rfl, hB, hC, hM⟩
  obtain ⟨hr, -, h3, rfl⟩ := inR_of c1 (by decide)
  obtain ⟨wt, -, h4, rfl⟩ := inR_of c2 (by decide)
  simp only [Bool.true_eq_false, if_false]
  have g1 := noP_L5 (Lo := vL h s) (R := rmo s.1) (ki := hki h) (pl := hpl h) (ho := hho h) (dn := hnd h) (hr := hr) (wt := wt) (cpl := cpl) (cho := cho) b2 b3 (fun p hp => ⟨(t5 p hp).1, rmo_lt s.1 p⟩) l5 (fun p hp => ⟨(hC.2.2.2.1 p hp).1, (b5 p hp).1⟩) (fun j hj => ⟨(hC.2.2.2.2 j hj).2.1, by have := b6 j hj; omega⟩) (fun j hj => ⟨(hC.2.2.2.2 j hj).2.2.1, by have := b6 j hj; omega⟩) (by omega) (by omega) 300 0 (by omega) (by omega)
  rw [show bts (fun b => noP (fun p => vL h s p && tellP (hnd h) (hpl h) (hho h) (hki h p) (rmo s.1 p) (hnd h) hr wt) (rmo s.1) b 0) 4 = 15 from bts_4t] at g1
  obtain ⟨md', g2, g3⟩ := safe_L (hr := hr) (wt := wt) hB (by omega) (by omega) (hMs.asIs (now := mw) b2) l6 300 0 md (by omega) (by omega) hM
  have z1 : L_X5_safe_28 (nI (hnp h)) cro cbo csp cL cki (nI (hnd h)) (nI hr) (nI wt) cho cpl 300 15 0 = _ := g1
  have z2 : L_X6_safe_31 (nI (hnd h)) (nI hr) (nI wt) (nI (hnp h)) mL (cpF mw 0 ms 0 18) mp 300 md 0 0 = _ := g2
  rw [z1, z2, ob1_s, ob2_s]
  exact ⟨_, _, _, rfl, rfl, hB, hC, g3⟩
