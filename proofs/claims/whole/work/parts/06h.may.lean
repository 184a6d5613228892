/-! THE CALLS: may -/
def allB (E : Nat → Bool) : Nat → Bool
  | 0 => true
  | i + 1 => allB E i && E i
theorem allB_no {E : Nat → Bool} {i : Nat} : ∀ {k : Nat}, i < k → E i = false → allB E k = false
  | 0, h, _ => absurd h (Nat.not_lt_zero _)
  | k + 1, h, e => by
    show (allB E k && E k) = false
    by_cases c : i = k
    · subst c; rw [e, Bool.and_false]
    · rw [allB_no (k := k) (by omega) e, Bool.false_and]
theorem tellP_at {n k room d hr wt : Nat} {pl ho pl2 ho2 : Nat → Nat} (e : ∀ j, j ≠ d → pl2 j = pl j ∧ ho2 j = ho j) : tellP n pl2 ho2 k room d hr wt = tellP n pl ho k room d hr wt := by
  unfold tellP
  have e : cnt (latP pl2 ho2 room d hr) n = cnt (latP pl ho room d hr) n := cnt_congr (fun j hj => by
    unfold latP
    by_cases c : j = d
    · simp [c]
    · rw [(e j c).1, (e j c).2])
  rw [e]
/-- does what was seen agree, were deed d at r at hour hr -/
def seeE (h : Hd) (s : Sd) (P D : Nat → Nat) (B : Nat → Bool) (d r hr : Nat) (j : Nat) : Bool := !decide (D j = d) || (decide (rmo s.1 (P j) = r) && tellP (hnd h) (hpl h) (hho h) (hki h (P j)) r d hr (hwe h d)) == B j
theorem bI_inj (a b : Bool) : (bI a = bI b) = (a = b) := by cases a <;> cases b <;> decide
theorem may_so5L {h : Hd} {s : Sd} {k d r hr : Nat} {P D : Nat → Nat} {B : Nat → Bool} {csP csD csT cki cwe cho cpl : Nat → Int32} (hB : HB h) (hS : s.1 < 65536) (hd : d < hnd h) (hr1 : r < 1000) (hh : hr < 1000) (hk : k ≤ 6) (hP : ∀ i, i < k → P i < hnp h ∧ D i < hnd h ∧ csP i = nI (P i) ∧ csD i = nI (D i) ∧ csT i = bI (B i)) (hkk : ∀ p, p < hnp h → cki p = nI (hki h p)) (hC : ∀ d, d < hnd h → cpl d = nI (hpl h d) ∧ cho d = nI (hho h d) ∧ cwe d = nI (hwe h d)) :
    ∀ n i, k < n + i → i ≤ k → allB (seeE h s P D B d r hr) i = true → L_X5_agreesWithSeen_3 (nI k) csP csD (nI d) (nI (hnp h)) (nI s.1) (nI r) cki (nI hr) cwe (nI (hnd h)) cho cpl csT n (nI i) = some (bI (allB (seeE h s P D B d r hr) k)) := by
  obtain ⟨b1, b2, b3, b4, b5, b6⟩ := id hB
  intro n
  induction n with
  | zero => intro i h1 h2; omega
  | succ n ih =>
    intro i h1 h2 hA
    rw [L_X5_agreesWithSeen_3]
    by_cases hi : k ≤ i
    · have e : i = k := by omega
      subst e
      rw [if_pos (nI_le (Nat.le_refl _) (by omega)), hA]; rfl
    · obtain ⟨p1, p2, p3, p4, p5⟩ := hP i (by omega)
      have hE : seeE h s P D B d r hr i = (!decide (D i = d) || (decide (rmo s.1 (P i) = r) && tellP (hnd h) (hpl h) (hho h) (hki h (P i)) r d hr (hwe h d)) == B i) := rfl
      have go : seeE h s P D B d r hr i = true → L_X5_agreesWithSeen_3 (nI k) csP csD (nI d) (nI (hnp h)) (nI s.1) (nI r) cki (nI hr) cwe (nI (hnd h)) cho cpl csT n (nI (i + 1)) = some (bI (allB (seeE h s P D B d r hr) k)) := fun q => ih (i + 1) (by omega) (by omega) (by show (allB _ i && _) = true; rw [hA, q]; rfl)
      have no : seeE h s P D B d r hr i = false → some (0 : Int32) = some (bI (allB (seeE h s P D B d r hr) k)) := fun q => by rw [allB_no (show i < k by omega) q]; rfl
      rw [if_neg (nI_ge (by omega) (by omega)), pz_ok (by omega) (by omega), gu_true, pv_e, gu_true, pz_cl (by omega), p3, p4, p5]
      have hx := x5_piece (nI (P i)) (hnp h) (by omega)
      rw [pz_ok p1 (by omega)] at hx
      have ht : (if nI (rmo s.1 (P i)) = nI r then gu (okI (nI (P i)) 8) (gu (okI (nI d) 9) (ob1 (m_X0_wouldTell (cki (nI (P i)).toNatClampNeg) (nI r) (nI d) (nI hr) (cwe (nI d).toNatClampNeg) (nI (hnd h)) cho cpl) (fun (x9 : Int32) => (if x9 = 0 then some (0 : Int32) else some (1 : Int32))))) else some (0 : Int32)) = some (bI (decide (rmo s.1 (P i) = r) && tellP (hnd h) (hpl h) (hho h) (hki h (P i)) r d hr (hwe h d))) := by
        have q := rmo_lt s.1 (P i)
        by_cases c : rmo s.1 (P i) = r
        · rw [if_pos (congrArg nI c), pz_ok (by omega) (by omega), pz_ok (by omega) (by omega), gu_true, gu_true, pz_cl (by omega), pz_cl (by omega), hkk _ p1, (hC d hd).2.2, x0_would b3 (fun j hj => ⟨(hC j hj).1, by have := b6 j hj; omega⟩) (fun j hj => ⟨(hC j hj).2.1, by have := b6 j hj; omega⟩) hr1 (by omega) hh (by have := b6 d hd; omega) (b5 _ p1).1, ob1_s, decide_eq_true c, Bool.true_and]
          cases tellP (hnd h) (hpl h) (hho h) (hki h (P i)) r d hr (hwe h d) <;> rfl
        · rw [if_neg (fun q2 => c ((pz_eq (by omega) (by omega)).mp q2)), decide_eq_false c, Bool.false_and]; rfl
      by_cases c : D i = d
      · rw [if_pos (congrArg nI c), hx, ob1_s, if_neg (by decide), x4_room (p := P i) (by omega) (by omega), ob1_s, ht, ob1_s]
        simp only [gu_true, pv_e, nI_1, bI_inj]
        rw [decide_eq_true c] at hE
        by_cases c2 : (decide (rmo s.1 (P i) = r) && tellP (hnd h) (hpl h) (hho h) (hki h (P i)) r d hr (hwe h d)) = B i
        · rw [if_pos c2]
          exact go (by rw [hE, c2]; simp)
        · rw [if_neg c2]
          exact no (by rw [hE]; simpa using c2)
      · rw [if_neg (fun q2 => c ((pz_eq (by omega) (by omega)).mp q2))]
        simp only [pv_e, nI_1]
        exact go (by rw [hE, decide_eq_false c]; rfl)
theorem may_so5 {h : Hd} {s : Sd} {k d r hr : Nat} {P D : Nat → Nat} {B : Nat → Bool} {csP csD csT cki cwe cho cpl : Nat → Int32} (hB : HB h) (hS : s.1 < 65536) (hd : d < hnd h) (hr1 : r < 1000) (hh : hr < 1000) (hk : k ≤ 6) (hP : ∀ i, i < k → P i < hnp h ∧ D i < hnd h ∧ csP i = nI (P i) ∧ csD i = nI (D i) ∧ csT i = bI (B i)) (hkk : ∀ p, p < hnp h → cki p = nI (hki h p)) (hC : ∀ d, d < hnd h → cpl d = nI (hpl h d) ∧ cho d = nI (hho h d) ∧ cwe d = nI (hwe h d)) :
    m_X5_agreesWithSeen (nI d) (nI r) (nI hr) (nI k) csP csD (nI (hnp h)) (nI (hnd h)) (nI s.1) cki cwe cho cpl csT = some (bI (allB (seeE h s P D B d r hr) k)) := by
  unfold m_X5_agreesWithSeen
  exact may_so5L hB hS hd hr1 hh hk hP hkk hC 300 0 (by omega) (by omega) rfl
theorem may_so6L {h : Hd} {s : Sd} {k d r hr : Nat} {P D : Nat → Nat} {B : Nat → Bool} {mse md now mp : Nat → Int32} (hB : HB h) (hM : MS (hnp h) s now) (hd : d < hnd h) (hr1 : r < 1000) (hh : hr < 1000) (hk : k ≤ 6) (hP : ∀ i, i < k → P i < hnp h ∧ D i < hnd h ∧ mse (3 * i) = nI (P i) ∧ mse (3 * i + 1) = nI (D i) ∧ mse (3 * i + 2) = bI (B i)) (hkk : ∀ p, p < hnp h → mp (2 * p) = nI (hki h p)) (hC : ∀ j, j < hnd h → md (4 * j + 1) = nI (if j = d then r else hpl h j) ∧ md (4 * j + 2) = nI (if j = d then hr else hho h j) ∧ md (4 * j + 3) = nI (hwe h j)) :
    ∀ n i, k < n + i → i ≤ k → L_X6_isSo_4 (nI k) mse (nI d) (nI (hnd h)) md now mp n (bI (allB (seeE h s P D B d r hr) i)) (nI i) = some (bI (allB (seeE h s P D B d r hr) k)) := by
  obtain ⟨b1, b2, b3, b4, b5, b6⟩ := id hB
  intro n
  induction n with
  | zero => intro i h1 h2; omega
  | succ n ih =>
    intro i h1 h2
    rw [L_X6_isSo_4]
    by_cases hi : k ≤ i
    · have e : i = k := by omega
      subst e
      rw [if_pos (nI_le (Nat.le_refl _) (by omega))]
    · obtain ⟨p1, p2, p3, p4, p5⟩ := hP i (by omega)
      have IH := ih (i + 1) (by omega) (by omega)
      have hE : seeE h s P D B d r hr i = (!decide (D i = d) || (decide (rmo s.1 (P i) = r) && tellP (hnd h) (hpl h) (hho h) (hki h (P i)) r d hr (hwe h d)) == B i) := rfl
      rw [show allB (seeE h s P D B d r hr) (i + 1) = (allB (seeE h s P D B d r hr) i && seeE h s P D B d r hr i) from rfl] at IH
      rw [if_neg (nI_ge (by omega) (by omega))]
      simp (disch := omega) only [pz_l3, pz_l1, pz_l2, pz_mul, pz_add, pz_ok, gu_true, pz_cl, p3, p4, p5, pz_eq, pv_e]
      cases c0 : allB (seeE h s P D B d r hr) i
      · rw [c0, Bool.false_and] at IH
        rw [if_pos (show bI false = 0 from rfl)]; exact IH
      · rw [c0, Bool.true_and] at IH
        rw [if_neg (by decide)]
        by_cases c : D i = d
        · have g := x6_does (n0 := hnd h) (md := md) (now := now) (mp := mp) (pl := fun j => if j = d then r else hpl h j) (ho := fun j => if j = d then hr else hho h j) (we := hwe h) (p := P i) (k := hki h (P i)) (room := rmo s.1 (P i)) (d := d) (by omega) (fun j hj => ⟨(hC j hj).1, by have := b6 j hj; show (if j = d then r else hpl h j) < 1000; by_cases c : j = d <;> simp only [if_pos, if_neg, c, if_true, if_false] <;> omega⟩) (fun j hj => ⟨(hC j hj).2.1, by have := b6 j hj; show (if j = d then hr else hho h j) < 1000; by_cases c : j = d <;> simp only [c, if_true, if_false] <;> omega⟩) (fun j hj => ⟨(hC j hj).2.2, by have := b6 j hj; omega⟩) hd (by omega) (hM.2.2 _ p1).1 (by have := rmo_lt s.1 (P i); omega) (hkk _ p1) (b5 _ p1).1
          have e : tellS (hnd h) (fun j => if j = d then r else hpl h j) (fun j => if j = d then hr else hho h j) (hwe h) (hki h (P i)) (rmo s.1 (P i)) d = (decide (rmo s.1 (P i) = r) && tellP (hnd h) (hpl h) (hho h) (hki h (P i)) r d hr (hwe h d)) := by
            unfold tellS
            simp only [if_true]
            rw [tellP_at (pl := hpl h) (ho := hho h) (fun j hj => ⟨if_neg hj, if_neg hj⟩)]
            by_cases c : rmo s.1 (P i) = r
            · rw [c]
            · rw [decide_eq_false c, decide_eq_false (fun q => c q.symm)]; rfl
          rw [e] at g
          rw [if_pos c, g, ob1_s]
          have hb : (if bI (B i) = nI 1 then some (nI 1) else some 0) = some (bI (B i)) := by cases B i <;> rfl
          rw [hb, ob1_s]
          simp only [bI_inj]
          rw [hE, decide_eq_true c] at IH
          by_cases c2 : (decide (rmo s.1 (P i) = r) && tellP (hnd h) (hpl h) (hho h) (hki h (P i)) r d hr (hwe h d)) = B i
          · rw [if_pos c2]
            rw [c2, show (!true || B i == B i) = true by simp] at IH
            exact IH
          · rw [if_neg c2]
            rw [show (!true || (decide (rmo s.1 (P i) = r) && tellP (hnd h) (hpl h) (hho h) (hki h (P i)) r d hr (hwe h d)) == B i) = false by simpa using c2] at IH
            exact IH
        · rw [if_neg c]
          rw [hE, decide_eq_false c] at IH
          exact IH
theorem may_so6 {h : Hd} {s : Sd} {k d r hr : Nat} {P D : Nat → Nat} {B : Nat → Bool} {mse md now mp : Nat → Int32} (hB : HB h) (hM : MS (hnp h) s now) (hd : d < hnd h) (hr1 : r < 1000) (hh : hr < 1000) (hk : k ≤ 6) (hP : ∀ i, i < k → P i < hnp h ∧ D i < hnd h ∧ mse (3 * i) = nI (P i) ∧ mse (3 * i + 1) = nI (D i) ∧ mse (3 * i + 2) = bI (B i)) (hkk : ∀ p, p < hnp h → mp (2 * p) = nI (hki h p)) (hC : ∀ j, j < hnd h → md (4 * j + 1) = nI (if j = d then r else hpl h j) ∧ md (4 * j + 2) = nI (if j = d then hr else hho h j) ∧ md (4 * j + 3) = nI (hwe h j)) :
    m_X6_isSo (nI d) (nI (hnd h)) (nI k) mse md now mp = some (bI (allB (seeE h s P D B d r hr) k)) := by
  unfold m_X6_isSo
  have g : L_X6_isSo_4 (nI k) mse (nI d) (nI (hnd h)) md now mp 300 1 0 = _ := may_so6L hB hM hd hr1 hh hk hP hkk hC 300 0 (by omega) (by omega)
  rw [g, ob1_s, gu_okb]
theorem may_rooms5L {h : Hd} {s : Sd} {k d : Nat} {P D : Nat → Nat} {B : Nat → Bool} {csP csD csT cki cwe cho cpl : Nat → Int32} (hB : HB h) (hS : s.1 < 65536) (hd : d < hnd h) (hk : k ≤ 6) (hP : ∀ i, i < k → P i < hnp h ∧ D i < hnd h ∧ csP i = nI (P i) ∧ csD i = nI (D i) ∧ csT i = bI (B i)) (hkk : ∀ p, p < hnp h → cki p = nI (hki h p)) (hC : ∀ d, d < hnd h → cpl d = nI (hpl h d) ∧ cho d = nI (hho h d) ∧ cwe d = nI (hwe h d)) :
    ∀ n i, 4 < n + i → i ≤ 4 → L_X5_roomsThatMay_4 (nI d) cho (nI k) csP csD (nI (hnp h)) (nI (hnd h)) (nI s.1) cki cwe cpl csT n (nI (bts (fun r => allB (seeE h s P D B d r (hho h d)) k) i)) (nI i) = some (nI (bts (fun r => allB (seeE h s P D B d r (hho h d)) k) 4)) := by
  obtain ⟨b1, b2, b3, b4, b5, b6⟩ := id hB
  have b7 := b6 d hd
  intro n
  induction n with
  | zero => intro i h1 h2; omega
  | succ n ih =>
    intro i h1 h2
    rw [L_X5_roomsThatMay_4, pz_l4]
    by_cases hi : 4 ≤ i
    · have e : i = 4 := by omega
      subst e
      rw [if_pos (nI_le (Nat.le_refl _) (by omega))]
    · have IH := ih (i + 1) (by omega) (by omega)
      rw [if_neg (nI_ge (by omega) (by omega)), pz_ok (by omega) (by omega), gu_true, pz_cl (by omega), (hC d hd).2.1, may_so5 hB hS hd (by omega) (by omega) hk hP hkk hC, ob1_s]
      simp only [bI_0, pv_e, nI_1]
      rw [bts_s] at IH
      cases c : allB (seeE h s P D B d i (hho h d)) k
      · rw [if_pos rfl]
        simp only [c, Bool.false_eq_true, if_false] at IH
        exact IH
      · rw [if_neg (by decide), pz_shl i (by omega), pz_or]
        simp only [c, if_true] at IH
        exact IH
theorem may_rooms5 {h : Hd} {s : Sd} {k d : Nat} {P D : Nat → Nat} {B : Nat → Bool} {csP csD csT cki cwe cho cpl : Nat → Int32} (hB : HB h) (hS : s.1 < 65536) (hd : d < hnd h) (hk : k ≤ 6) (hP : ∀ i, i < k → P i < hnp h ∧ D i < hnd h ∧ csP i = nI (P i) ∧ csD i = nI (D i) ∧ csT i = bI (B i)) (hkk : ∀ p, p < hnp h → cki p = nI (hki h p)) (hC : ∀ d, d < hnd h → cpl d = nI (hpl h d) ∧ cho d = nI (hho h d) ∧ cwe d = nI (hwe h d)) :
    m_X5_roomsThatMay (nI d) (nI (hnp h)) (nI (hnd h)) cho (nI k) csP csD (nI s.1) cki cwe cpl csT = some (nI (bts (fun r => allB (seeE h s P D B d r (hho h d)) k) 4)) := by
  unfold m_X5_roomsThatMay
  have g : L_X5_roomsThatMay_4 (nI d) cho (nI k) csP csD (nI (hnp h)) (nI (hnd h)) (nI s.1) cki cwe cpl csT 300 0 0 = _ := may_rooms5L hB hS hd hk hP hkk hC 300 0 (by omega) (by omega)
  rw [g, ob1_s]
theorem may_hours5L {h : Hd} {s : Sd} {k d : Nat} {P D : Nat → Nat} {B : Nat → Bool} {csP csD csT cki cwe cho cpl : Nat → Int32} (hB : HB h) (hS : s.1 < 65536) (hd : d < hnd h) (hk : k ≤ 6) (hP : ∀ i, i < k → P i < hnp h ∧ D i < hnd h ∧ csP i = nI (P i) ∧ csD i = nI (D i) ∧ csT i = bI (B i)) (hkk : ∀ p, p < hnp h → cki p = nI (hki h p)) (hC : ∀ d, d < hnd h → cpl d = nI (hpl h d) ∧ cho d = nI (hho h d) ∧ cwe d = nI (hwe h d)) :
    ∀ n i, 24 < n + i → i ≤ 24 → L_X5_hoursThatMay_4 (nI d) cpl (nI k) csP csD (nI (hnp h)) (nI (hnd h)) (nI s.1) cki cwe cho csT n (nI (bts (fun r => allB (seeE h s P D B d (hpl h d) r) k) i)) (nI i) = some (nI (bts (fun r => allB (seeE h s P D B d (hpl h d) r) k) 24)) := by
  obtain ⟨b1, b2, b3, b4, b5, b6⟩ := id hB
  have b7 := b6 d hd
  intro n
  induction n with
  | zero => intro i h1 h2; omega
  | succ n ih =>
    intro i h1 h2
    rw [L_X5_hoursThatMay_4, pz_l24]
    by_cases hi : 24 ≤ i
    · have e : i = 24 := by omega
      subst e
      rw [if_pos (nI_le (Nat.le_refl _) (by omega))]
    · have IH := ih (i + 1) (by omega) (by omega)
      rw [if_neg (nI_ge (by omega) (by omega)), pz_ok (by omega) (by omega), gu_true, pz_cl (by omega), (hC d hd).1, may_so5 hB hS hd (by omega) (by omega) hk hP hkk hC, ob1_s]
      simp only [bI_0, pv_e, nI_1]
      rw [bts_s] at IH
      cases c : allB (seeE h s P D B d (hpl h d) i) k
      · rw [if_pos rfl]
        simp only [c, Bool.false_eq_true, if_false] at IH
        exact IH
      · rw [if_neg (by decide), pz_shl i (by omega), pz_or]
        simp only [c, if_true] at IH
        exact IH
theorem may_hours5 {h : Hd} {s : Sd} {k d : Nat} {P D : Nat → Nat} {B : Nat → Bool} {csP csD csT cki cwe cho cpl : Nat → Int32} (hB : HB h) (hS : s.1 < 65536) (hd : d < hnd h) (hk : k ≤ 6) (hP : ∀ i, i < k → P i < hnp h ∧ D i < hnd h ∧ csP i = nI (P i) ∧ csD i = nI (D i) ∧ csT i = bI (B i)) (hkk : ∀ p, p < hnp h → cki p = nI (hki h p)) (hC : ∀ d, d < hnd h → cpl d = nI (hpl h d) ∧ cho d = nI (hho h d) ∧ cwe d = nI (hwe h d)) :
    m_X5_hoursThatMay (nI d) (nI (hnp h)) (nI (hnd h)) cpl (nI k) csP csD (nI s.1) cki cwe cho csT = some (nI (bts (fun r => allB (seeE h s P D B d (hpl h d) r) k) 24)) := by
  unfold m_X5_hoursThatMay
  have g : L_X5_hoursThatMay_4 (nI d) cpl (nI k) csP csD (nI (hnp h)) (nI (hnd h)) (nI s.1) cki cwe cho csT 300 0 0 = _ := may_hours5L hB hS hd hk hP hkk hC 300 0 (by omega) (by omega)
  rw [g, ob1_s]
theorem may_6L {d w N k dn : Nat} {mse md now mp : Nat → Int32} {F : Nat → Bool} (hd : d < 9) (hw : w = 0 ∧ N = 4 ∨ w = 1 ∧ N = 24) (hF : ∀ md' x, x < N → (∀ j, j ≠ 4 * d + 1 + w → md' j = md j) → md' (4 * d + 1 + w) = nI x → m_X6_isSo (nI d) (nI dn) (nI k) mse md' now mp = some (bI (F x))) :
    ∀ n i c6, N < n + i → i ≤ N → (∀ j, j ≠ 4 * d + 1 + w → c6 j = md j) → ∃ c9, L_X6_may_45 (nI w) (nI (4 * d + 1 + w)) (nI d) (nI dn) (nI k) mse now mp n c6 (nI (bts F i)) (nI i) = some (c9, nI (bts F N)) ∧ ∀ j, j ≠ 4 * d + 1 + w → c9 j = md j := by
  intro n
  induction n with
  | zero => intro i c6 h1 h2; omega
  | succ n ih =>
    intro i c6 h1 h2 hc
    rw [L_X6_may_45]
    have hl : (if nI w = 0 then some (4 : Int32) else some 24) = some (nI N) := by
      rcases hw with ⟨rfl, rfl⟩ | ⟨rfl, rfl⟩ <;> rfl
    rw [hl, ob1_s]
    by_cases hi : N ≤ i
    · have e : i = N := by omega
      subst e
      rw [if_pos (nI_le (Nat.le_refl _) (by omega))]
      exact ⟨c6, rfl, hc⟩
    · have hc2 : ∀ j, j ≠ 4 * d + 1 + w → upd c6 (4 * d + 1 + w) (nI i) j = md j := fun j hj => by rw [upd_n hj]; exact hc j hj
      obtain ⟨c9, z1, z2⟩ := ih (i + 1) (upd c6 (4 * d + 1 + w) (nI i)) (by omega) (by omega) hc2
      refine ⟨c9, ?_, z2⟩
      rw [if_neg (nI_ge (by omega) (by omega)), pz_ok (by omega) (by omega), gu_true, pv_e, pz_cl (by omega), hF _ i (by omega) hc2 upd_s, ob1_s]
      simp only [bI_0, pv_e, nI_1]
      rw [bts_s] at z1
      cases c : F i
      · rw [if_pos rfl, pz_or0]
        rw [c, if_neg (by decide)] at z1
        exact z1
      · rw [if_neg (by decide), pz_shl i (by omega), pz_or]
        rw [c, if_pos rfl] at z1
        exact z1
theorem api_may {h : Hd} {s : Sd} {cP cD cL mP mD mL cro cbo csp cou cco cln msn : Int32} {cki cpr cpe cpl cho cwe mp md ms csP csD csT mse mw : Nat → Int32} (a1 : Int32) (a2 : Int32) (hH : RH h cP cD cL cki cpr cpe cpl cho cwe mP mD mL mp md) (hN : RN h s cro cbo csp cou cco ms) (hS_1 : RS h cln csP csD csT msn mse) : ∃ r mw' md', m_X5_may a1 a2 cP cD cpl cln csP csD cro cki cwe cho csT = some r ∧ m_X6_may a1 a2 mD msn ms mw md mse mp = some (r, mw', md') ∧ RH h cP cD cL cki cpr cpe cpl cho cwe mP mD mL mp md' := by
  obtain ⟨hB, hC, hM⟩ := hH
  obtain ⟨hS, ⟨e1, e2, e3, e4, e5⟩, hMs⟩ := hN
  obtain ⟨b1, b2, b3, b4, b5, b6⟩ := id hB
  obtain ⟨s1, s2, s3, s4, s5⟩ := hS.small b2 b3
  have t5 := v5_told hB hC hS e1
  have l5 := v5_loose hB hC hS e2 e3
  have t6 := v6_told hB hM (hMs.asIs (now := mw) b2)
  have l6 := v6_loose hB hM (hMs.asIs (now := mw) b2)
  have eP := hC.1
  have eP2 := hM.1
  have eD := hC.2.1
  have eD2 := hM.2.1
  subst eP eP2 eD eD2
  obtain ⟨k, P, D, B, hk, eL, eL2, hP⟩ := hS_1
  subst eL eL2 e1
  unfold m_X5_may m_X6_may
  rw [x5_deed _ _ (by omega), x6_deed _ _ (by omega), show m_X5_isWithin a2 0 1 = some (bI (inR a2 0 1)) from x5_within a2 0 1 (by decide) (by decide), show m_X6_in a2 0 1 = some (bI (inR a2 0 1)) from x6_in a2 0 1 (by decide) (by decide), r_asItIs]
  simp only [ob1_s, bI_0]
  cases c1 : okI a1 (hnd h)
  · exact ⟨-1, _, _, rfl, rfl, hB, hC, hM⟩
  cases c2 : inR a2 0 1
  · exact ⟨-1, _, _, rfl, rfl, hB, hC, hM⟩
  obtain ⟨d, hd, rfl⟩ := okI_of c1 (by omega)
  obtain ⟨w, -, hw1, rfl⟩ := inR_of c2 (by decide)
  simp only [Bool.true_eq_false, if_false]
  have b7 := b6 d hd
  have m7 := hM.2.2.2.2 d hd
  have P5 : ∀ i, i < k → P i < hnp h ∧ D i < hnd h ∧ csP i = nI (P i) ∧ csD i = nI (D i) ∧ csT i = bI (B i) := fun i hi => ⟨(hP i hi).1, (hP i hi).2.1, (hP i hi).2.2.1, (hP i hi).2.2.2.1, (hP i hi).2.2.2.2.1⟩
  have P6 : ∀ i, i < k → P i < hnp h ∧ D i < hnd h ∧ mse (3 * i) = nI (P i) ∧ mse (3 * i + 1) = nI (D i) ∧ mse (3 * i + 2) = bI (B i) := fun i hi => ⟨(hP i hi).1, (hP i hi).2.1, (hP i hi).2.2.2.2.2⟩
  have k5 : ∀ p, p < hnp h → cki p = nI (hki h p) := fun p hp => (hC.2.2.2.1 p hp).1
  have k6 : ∀ p, p < hnp h → mp (2 * p) = nI (hki h p) := fun p hp => (hM.2.2.2.1 p hp).1
  have C5 : ∀ d, d < hnd h → cpl d = nI (hpl h d) ∧ cho d = nI (hho h d) ∧ cwe d = nI (hwe h d) := fun d hd => (hC.2.2.2.2 d hd).2
  have hMa := hMs.asIs (now := mw) b2
  have back : ∀ x0 c9, (∀ j, j ≠ x0 → c9 j = md j) → HM h (nI (hnp h)) (nI (hnd h)) mL mp (upd c9 x0 (md x0)) := fun x0 c9 z => by
    have e : upd c9 x0 (md x0) = md := by
      funext j
      by_cases c : j = x0
      · subst c; exact upd_s
      · rw [upd_n c]; exact z j c
    rw [e]; exact hM
  rcases (show w = 0 ∨ w = 1 by omega) with rfl | rfl
  · have F6 := may_6L (d := d) (w := 0) (N := 4) (k := k) (dn := hnd h) (mse := mse) (md := md) (now := cpF mw 0 ms 0 18) (mp := mp) (F := fun r => allB (seeE h s P D B d r (hho h d)) k) (by omega) (Or.inl ⟨rfl, rfl⟩) (fun md' x hx z1 z2 => may_so6 hB hMa hd (by omega) (by omega) hk P6 k6 (fun j hj => by
      have m8 := hM.2.2.2.2 j hj
      by_cases c : j = d
      · subst c
        rw [if_pos rfl, if_pos rfl, z2, z1 _ (by omega), z1 _ (by omega)]
        exact ⟨rfl, m8.2.2.1, m8.2.2.2⟩
      · rw [if_neg c, if_neg c, z1 _ (by omega), z1 _ (by omega), z1 _ (by omega)]
        exact m8.2))
    obtain ⟨c9, z1, z2⟩ := F6 300 0 md (by omega) (by omega) (fun _ _ => rfl)
    have y1 : L_X6_may_45 (nI 0) (nI (4 * d + 1 + 0)) (nI d) (nI (hnd h)) (nI k) mse (cpF mw 0 ms 0 18) mp 300 md 0 0 = _ := z1
    rw [if_pos (show nI 0 = (0 : Int32) from rfl), may_rooms5 hB s1 hd hk P5 k5 C5]
    simp (disch := omega) only [pz_l4, pz_l1, pz_mul, pz_add, pv_e, pz_ok, gu_true, pz_cl, ob1_s]
    rw [y1, ob2_s]
    exact ⟨_, _, _, rfl, rfl, hB, hC, back _ _ z2⟩
  · have F6 := may_6L (d := d) (w := 1) (N := 24) (k := k) (dn := hnd h) (mse := mse) (md := md) (now := cpF mw 0 ms 0 18) (mp := mp) (F := fun r => allB (seeE h s P D B d (hpl h d) r) k) (by omega) (Or.inr ⟨rfl, rfl⟩) (fun md' x hx z1 z2 => may_so6 hB hMa hd (by omega) (by omega) hk P6 k6 (fun j hj => by
      have m8 := hM.2.2.2.2 j hj
      by_cases c : j = d
      · subst c
        rw [if_pos rfl, if_pos rfl, show 4 * j + 2 = 4 * j + 1 + 1 from rfl, z2, z1 _ (by omega), z1 _ (by omega)]
        exact ⟨m8.2.1, rfl, m8.2.2.2⟩
      · rw [if_neg c, if_neg c, z1 _ (by omega), z1 _ (by omega), z1 _ (by omega)]
        exact m8.2))
    obtain ⟨c9, z1, z2⟩ := F6 300 0 md (by omega) (by omega) (fun _ _ => rfl)
    have y1 : L_X6_may_45 (nI 1) (nI (4 * d + 1 + 1)) (nI d) (nI (hnd h)) (nI k) mse (cpF mw 0 ms 0 18) mp 300 md 0 0 = _ := z1
    rw [if_neg (show ¬ nI 1 = (0 : Int32) by decide), may_hours5 hB s1 hd hk P5 k5 C5]
    simp (disch := omega) only [pz_l4, pz_l1, pz_mul, pz_add, pv_e, pz_ok, gu_true, pz_cl, ob1_s]
    rw [y1, ob2_s]
    exact ⟨_, _, _, rfl, rfl, hB, hC, back _ _ z2⟩
