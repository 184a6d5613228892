/-! THE CALLS: may -/
def allB (E : Nat → Bool) : Nat → Bool
  | 0 => true
  | i + 1 => allB E i && E i
theorem allB_no {E : Nat → Bool} {i : Nat} : ∀ {k : Nat}, i < k → E i = false → allB E k = false
  | 0, h, _ => absurd h (Nat.not_lt_zero _)
  | k + 1, h, e => by
    show (allB E k && E k) = false
    by_cases c : i = k
    · subst c; rw [e, Bool.and_false]
    · rw [allB_no (k := k) (by omega) e, Bool.false_and]
theorem tellP_at {n k room d hr wt : Nat} {pl ho pl2 ho2 : Nat → Nat} (e : ∀ j, j ≠ d → pl2 j = pl j ∧ ho2 j = ho j) : tellP n pl2 ho2 k room d hr wt = tellP n pl ho k room d hr wt := by
  unfold tellP
  have e : cnt (latP pl2 ho2 room d hr) n = cnt (latP pl ho room d hr) n := cnt_congr (fun j hj => by
    unfold latP
    by_cases c : j = d
    · simp [c]
    · rw [(e j c).1, (e j c).2])
  rw [e]
/-- does what was seen agree, were deed d at r at hour hr -/
def seeE (h : Hd) (s : Sd) (P D : Nat → Nat) (B : Nat → Bool) (d r hr : Nat) (j : Nat) : Bool := !decide (D j = d) || (decide (rmo s.1 (P j) = r) && tellP (hnd h) (hpl h) (hho h) (hki h (P j)) r d hr (hwe h d)) == B j
theorem bI_inj (a b : Bool) : (bI a = bI b) = (a = b) := by cases a <;> cases b <;> decide
theorem may_so5L {h : Hd} {s : Sd} {k d r hr : Nat} {P D : Nat → Nat} {B : Nat → Bool} {csP csD csT cki cwe cho cpl : Nat → Int32} (hB : HB h) (hS : s.1 < 65536) (hd : d < hnd h) (hr1 : r < 1000) (hh : hr < 1000) (hk : k ≤ 6) (hP : ∀ i, i < k → P i < hnp h ∧ D i < hnd h ∧ csP i = nI (P i) ∧ csD i = nI (D i) ∧ csT i = bI (B i)) (hkk : ∀ p, p < hnp h → cki p = nI (hki h p)) (hC : ∀ d, d < hnd h → cpl d = nI (hpl h d) ∧ cho d = nI (hho h d) ∧ cwe d = nI (hwe h d)) :
    ∀ n i, k < n + i → i ≤ k → allB (seeE h s P D B d r hr) i = true → L_X5_agreesWithSeen_3 (nI k) csP csD (nI d) (nI (hnp h)) (nI s.1) (nI r) cki (nI hr) cwe (nI (hnd h)) cho cpl csT n (nI i) = some (bI (allB (seeE h s P D B d r hr) k)) := by
  obtain ⟨b1, b2, b3, b4, b5, b6⟩ := id hB
  intro n
  induction n with
  | zero => intro i h1 h2; omega
  | succ n ih =>
    intro i h1 h2 hA
    rw [L_X5_agreesWithSeen_3]
    by_cases hi : k ≤ i
    · have e : i = k := by omega
      subst e
      rw [if_pos (nI_le (Nat.le_refl _) (by omega)), hA]; rfl
    · obtain ⟨p1, p2, p3, p4, p5⟩ := hP i (by omega)
      have hE : seeE h s P D B d r hr i = (!decide (D i = d) || (decide (rmo s.1 (P i) = r) && tellP (hnd h) (hpl h) (hho h) (hki h (P i)) r d hr (hwe h d)) == B i) := rfl
      have go : seeE h s P D B d r hr i = true → L_X5_agreesWithSeen_3 (nI k) csP csD (nI d) (nI (hnp h)) (nI s.1) (nI r) cki (nI hr) cwe (nI (hnd h)) cho cpl csT n (nI (i + 1)) = some (bI (allB (seeE h s P D B d r hr) k)) := fun q => ih (i + 1) (by omega) (by omega) (by show (allB _ i && _) = true; rw [hA, q]; rfl)
      have no : seeE h s P D B d r hr i = false → some (0 : Int32) = some (bI (allB (seeE h s P D B d r hr) k)) := fun q => by rw [allB_no (show i < k by omega) q]; rfl
      rw [if_neg (nI_ge (by omega) (by omega)), pz_ok (by omega) (by omega), gu_true, pv_e, gu_true, pz_cl (by omega), p3, p4, p5]
      have hx := x5_piece (nI (P i)) (hnp h) (by omega)
      rw [pz_ok p1 (by omega)] at hx
      have ht : (if nI (rmo s.1 (P i)) = nI r then gu (okI (nI (P i)) 8) (gu (okI (nI d) 9) (ob1 (m_X0_wouldTell (cki (nI (P i)).toNatClampNeg) (nI r) (nI d) (nI hr) (cwe (nI d).toNatClampNeg) (nI (hnd h)) cho cpl) (fun (x9 : Int32) => (if x9 = 0 then some (0 : Int32) else some (1 : Int32))))) else some (0 : Int32)) = some (bI (decide (rmo s.1 (P i) = r) && tellP (hnd h) (hpl h) (hho h) (hki h (P i)) r d hr (hwe h d))) := by
        have q := rmo_lt s.1 (P i)
        by_cases c : rmo s.1 (P i) = r
        · rw [if_pos (congrArg nI c), pz_ok (by omega) (by omega), pz_ok (by omega) (by omega), gu_true, gu_true, pz_cl (by omega), pz_cl (by omega), hkk _ p1, (hC d hd).2.2, x0_would b3 (fun j hj => ⟨(hC j hj).1, by have := b6 j hj; omega⟩) (fun j hj => ⟨(hC j hj).2.1, by have := b6 j hj; omega⟩) hr1 (by omega) hh (by have := b6 d hd; omega) (b5 _ p1).1, ob1_s, decide_eq_true c, Bool.true_and]
          cases tellP (hnd h) (hpl h) (hho h) (hki h (P i)) r d hr (hwe h d) <;> rfl
        · rw [if_neg (fun q2 => c ((pz_eq (by omega) (by omega)).mp q2)), decide_eq_false c, Bool.false_and]; rfl
      by_cases c : D i = d
      · rw [if_pos (congrArg nI c), hx, ob1_s, if_neg (by decide), x4_room (p := P i) (by omega) (by omega), ob1_s, ht, ob1_s]
        simp only [gu_true, pv_e, nI_1, bI_inj]
        rw [decide_eq_true c] at hE
        by_cases c2 : (decide (rmo s.1 (P i) = r) && tellP (hnd h) (hpl h) (hho h) (hki h (P i)) r d hr (hwe h d)) = B i
        · rw [if_pos c2]
          exact go (by rw [hE, c2]; simp)
        · rw [if_neg c2]
          exact no (by rw [hE]; simpa using c2)
      · rw [if_neg (fun q2 => c ((pz_eq (by omega) (by omega)).mp q2))]
        simp only [pv_e, nI_1]
        exact go (by rw [hE, decide_eq_false c]; rfl)
theorem may_so5 {h : Hd} {s : Sd} {k d r hr : Nat} {P D : Nat → Nat} {B : Nat → Bool} {csP csD csT cki cwe cho cpl : Nat → Int32} (hB : HB h) (hS : s.1 < 65536) (hd : d < hnd h) (hr1 : r < 1000) (hh : hr < 1000) (hk : k ≤ 6) (hP : ∀ i, i < k → P i < hnp h ∧ D i < hnd h ∧ csP i = nI (P i) ∧ csD i = nI (D i) ∧ csT i = bI (B i)) (hkk : ∀ p, p < hnp h → cki p = nI (hki h p)) (hC : ∀ d, d < hnd h → cpl d = nI (hpl h d) ∧ cho d = nI (hho h d) ∧ cwe d = nI (hwe h d)) :
    m_X5_agreesWithSeen (nI d) (nI r) (nI hr) (nI k) csP csD (nI (hnp h)) (nI (hnd h)) (nI s.1) cki cwe cho cpl csT = some (bI (allB (seeE h s P D B d r hr) k)) := by
  unfold m_X5_agreesWithSeen
  exact may_so5L hB hS hd hr1 hh hk hP hkk hC 300 0 (by omega) (by omega) rfl
theorem may_so6L {h : Hd} {s : Sd} {k d r hr : Nat} {P D : Nat → Nat} {B : Nat → Bool} {mse md now mp : Nat → Int32} (hB : HB h) (hM : MS (hnp h) s now) (hd : d < hnd h) (hr1 : r < 1000) (hh : hr < 1000) (hk : k ≤ 6) (hP : ∀ i, i < k → P i < hnp h ∧ D i < hnd h ∧ mse (3 * i) = nI (P i) ∧ mse (3 * i + 1) = nI (D i) ∧ mse (3 * i + 2) = bI (B i)) (hkk : ∀ p, p < hnp h → mp (2 * p) = nI (hki h p)) (hC : ∀ j, j < hnd h → md (4 * j + 1) = nI (if j = d then r else hpl h j) ∧ md (4 * j + 2) = nI (if j = d then hr else hho h j) ∧ md (4 * j + 3) = nI (hwe h j)) :
    ∀ n i, k < n + i → i ≤ k → L_X6_isSo_4 (nI k) mse (nI d) (nI (hnd h)) md now mp n (bI (allB (seeE h s P D B d r hr) i)) (nI i) = some (bI (allB (seeE h s P D B d r hr) k)) := by
  obtain ⟨b1, b2, b3, b4, b5, b6⟩ := id hB
  intro n
  induction n with
  | zero => intro i h1 h2; omega
  | succ n ih =>
    intro i h1 h2
    rw [L_X6_isSo_4]
    by_cases hi : k ≤ i
    · have e : i = k := by omega
      subst e
      rw [if_pos (nI_le (Nat.le_refl _) (by omega))]
    · obtain ⟨p1, p2, p3, p4, p5⟩ := hP i (by omega)
      have IH := ih (i + 1) (by omega) (by omega)
      have hE : seeE h s P D B d r hr i = (!decide (D i = d) || (decide (rmo s.1 (P i) = r) && tellP (hnd h) (hpl h) (hho h) (hki h (P i)) r d hr (hwe h d)) == B i) := rfl
      rw [show allB (seeE h s P D B d r hr) (i + 1) = (allB (seeE h s P D B d r hr) i && seeE h s P D B d r hr i) from rfl] at IH
      rw [if_neg (nI_ge (by omega) (by omega))]
      simp (disch := omega) only [pz_l3, pz_l1, pz_l2, pz_mul, pz_add, pz_ok, gu_true, pz_cl, p3, p4, p5, pz_eq, pv_e]
      cases c0 : allB (seeE h s P D B d r hr) i
      · rw [c0, Bool.false_and] at IH
        rw [if_pos (show bI false = 0 from rfl)]; exact IH
      · rw [c0, Bool.true_and] at IH
        rw [if_neg (by decide)]
        by_cases c : D i = d
        · have g := x6_does (n0 := hnd h) (md := md) (now := now) (mp := mp) (pl := fun j => if j = d then r else hpl h j) (ho := fun j => if j = d then hr else hho h j) (we := hwe h) (p := P i) (k := hki h (P i)) (room := rmo s.1 (P i)) (d := d) (by omega) (fun j hj => ⟨(hC j hj).1, by have := b6 j hj; show (if j = d then r else hpl h j) < 1000; by_cases c : j = d <;> simp only [if_pos, if_neg, c, if_true, if_false] <;> omega⟩) (fun j hj => ⟨(hC j hj).2.1, by have := b6 j hj; show (if j = d then hr else hho h j) < 1000; by_cases c : j = d <;> simp only [c, if_true, if_false] <;> omega⟩) (fun j hj => ⟨(hC j hj).2.2, by have := b6 j hj; omega⟩) hd (by omega) (hM.2.2 _ p1).1 (by have := rmo_lt s.1 (P i); omega) (hkk _ p1) (b5 _ p1).1
          have e : tellS (hnd h) (fun j => if j = d then r else hpl h j) (fun j => if j = d then hr else hho h j) (hwe h) (hki h (P i)) (rmo s.1 (P i)) d = (decide (rmo s.1 (P i) = r) && tellP (hnd h) (hpl h) (hho h) (hki h (P i)) r d hr (hwe h d)) := by
            unfold tellS
            simp only [if_true]
            rw [tellP_at (pl := hpl h) (ho := hho h) (fun j hj => ⟨if_neg hj, if_neg hj⟩)]
            by_cases c : rmo s.1 (P i) = r
            · rw [c]
            · rw [decide_eq_false c, decide_eq_false (fun q => c q.symm)]; rfl
          rw [e] at g
          rw [if_pos c, g, ob1_s]
          have hb : (if bI (B i) = nI 1 then some (nI 1) else some 0) = some (bI (B i)) := by cases B i <;> rfl
          rw [hb, ob1_s]
          simp only [bI_inj]
          rw [hE, decide_eq_true c] at IH
          by_cases c2 : (decide (rmo s.1 (P i) = r) && tellP (hnd h) (hpl h) (hho h) (hki h (P i)) r d hr (hwe h d)) = B i
          · rw [if_pos c2]
            rw [c2, show (!true || B i == B i) = true by simp] at IH
            exact IH
          · rw [if_neg c2]
            rw [show (!true || (decide (rmo s.1 (P i) = r) && tellP (hnd h) (hpl h) (hho h) (hki h (P i)) r d hr (hwe h d)) == B i) = false by simpa using c2] at IH
            exact IH
        · rw [if_neg c]
          rw [hE, decide_eq_false c] at IH
          exact IH
theorem may_so6 {h : Hd} {s : Sd} {k d r hr : Nat} {P D : Nat → Nat} {B : Nat → Bool} {mse md now mp : Nat → Int32} (hB : HB h) (hM : MS (hnp h) s now) (hd : d < hnd h) (hr1 : r < 1000) (hh : hr < 1000) (hk : k ≤ 6) (hP : ∀ i, i < k → P i < hnp h ∧ D i < hnd h ∧ mse (3 * i) = nI (P i) ∧ mse (3 * i + 1) = nI (D i) ∧ mse (3 * i + 2) = bI (B i)) (hkk : ∀ p, p < hnp h → mp (2 * p) = nI (hki h p)) (hC : ∀ j, j < hnd h → md (4 * j + 1) = nI (if j = d then r else hpl h j) ∧ md (4 * j + 2) = nI (if j = d then hr else hho h j) ∧ md (4 * j + 3) = nI (hwe h j)) :
    m_X6_isSo (nI d) (nI (hnd h)) (nI k) mse md now mp = some (bI (allB (seeE h s P D B d r hr) k)) := by
  unfold m_X6_isSo
  have g : L_X6_isSo_4 (nI k) mse (nI d) (nI (hnd h)) md now mp 300 1 0 = _ := may_so6L hB hM hd hr1 hh hk hP hkk hC 300 0 (by omega) (by omega)
  rw [g, ob1_s, gu_okb]
