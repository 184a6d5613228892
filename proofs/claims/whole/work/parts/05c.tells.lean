/-! WHAT A PIECE TELLS: both sides -/
theorem nle_b (a b : Nat) : (!decide (a ≤ b)) = decide (b < a) := by by_cases h : a ≤ b <;> simp [h] <;> omega
theorem nlt_b (a b : Nat) : (!decide (a < b)) = decide (b ≤ a) := by by_cases h : a < b <;> simp [h] <;> omega
def latP (pl ho : Nat → Nat) (room d hour e : Nat) : Bool := !decide (e = d) && (decide (pl e = room) && (decide (hour < ho e) || (decide (ho e = hour) && decide (d < e))))
def tellP (n : Nat) (pl ho : Nat → Nat) (k room d hour weight : Nat) : Bool :=
  if k = 0 then true else if k = 1 then decide (12 ≤ hour) else if k = 2 then decide (cnt (latP pl ho room d hour) n < 2) else decide (hour < 12) && decide (weight ≤ 10)
def tellS (n : Nat) (pl ho we : Nat → Nat) (k room d : Nat) : Bool := decide (pl d = room) && tellP n pl ho k room d (ho d) (we d)
def toldS (n : Nat) (pl ho we : Nat → Nat) (k room : Nat) : Nat := bts (tellS n pl ho we k room) n
theorem x0_later_L {n0 : Nat} {cpl cho : Nat → Int32} {pl ho : Nat → Nat} {room d hour : Nat} (hn : n0 ≤ 9) (hpl : ∀ j, j < n0 → cpl j = nI (pl j) ∧ pl j < 1000) (hho : ∀ j, j < n0 → cho j = nI (ho j) ∧ ho j < 1000) (hr : room < 1000) (hd : d < 1000) (hh : hour < 1000) :
    ∀ n i, n0 < n + i → i ≤ n0 → L_X0_laterOnes_6 (nI n0) (nI hour) cho (nI d) cpl (nI room) n (nI (cnt (latP pl ho room d hour) i)) (nI i) = some (nI (cnt (latP pl ho room d hour) n0)) := by
  intro n
  induction n with
  | zero => intro i h1 h2; omega
  | succ n ih =>
    intro i h1 h2
    rw [L_X0_laterOnes_6]
    by_cases hi : n0 ≤ i
    · have e : i = n0 := by omega
      subst e
      rw [if_pos (nI_le (Nat.le_refl _) (by omega))]
    · obtain ⟨p1, p2⟩ := hpl i (by omega)
      obtain ⟨q1, q2⟩ := hho i (by omega)
      have IH := ih (i + 1) (by omega) (by omega)
      rw [if_neg (nI_ge (by omega) (by omega))]
      simp (disch := omega) only [pz_ok, gu_true, pz_cl, p1, q1, pz_lt, pz_eq, pz_le, bz_01, bz_b0, bz_1b, bz_10, ob1_s, pv_e, bI_0, nI_1, nle_b]
      simp only [cnt, latP] at IH
      cases hB : (decide (hour < ho i) || (decide (ho i = hour) && decide (d < i))) <;> simp only [hB] at IH ⊢ <;> by_cases c1 : i = d <;> by_cases c2 : pl i = room <;> simp [c1, c2] at IH ⊢ <;> exact IH
theorem x0_later {n0 : Nat} {cpl cho : Nat → Int32} {pl ho : Nat → Nat} {room d hour : Nat} (hn : n0 ≤ 9) (hpl : ∀ j, j < n0 → cpl j = nI (pl j) ∧ pl j < 1000) (hho : ∀ j, j < n0 → cho j = nI (ho j) ∧ ho j < 1000) (hr : room < 1000) (hd : d < 1000) (hh : hour < 1000) :
    m_X0_laterOnes (nI room) (nI d) (nI hour) (nI n0) cho cpl = some (nI (cnt (latP pl ho room d hour) n0)) := by
  unfold m_X0_laterOnes
  rw [pz_l0, show nI 0 = nI (cnt (latP pl ho room d hour) 0) from rfl]
  rw [show L_X0_laterOnes_6 (nI n0) (nI hour) cho (nI d) cpl (nI room) 300 (nI (cnt (latP pl ho room d hour) 0)) (nI (cnt (latP pl ho room d hour) 0)) = _ from x0_later_L hn hpl hho hr hd hh 300 0 (by omega) (by omega), ob1_s]
theorem x0_would {n0 : Nat} {cpl cho : Nat → Int32} {pl ho : Nat → Nat} {k room d hour weight : Nat} (hn : n0 ≤ 9) (hpl : ∀ j, j < n0 → cpl j = nI (pl j) ∧ pl j < 1000) (hho : ∀ j, j < n0 → cho j = nI (ho j) ∧ ho j < 1000) (hr : room < 1000) (hd : d < 1000) (hh : hour < 1000) (hw : weight < 1000) (hk : k < 4) :
    m_X0_wouldTell (nI k) (nI room) (nI d) (nI hour) (nI weight) (nI n0) cho cpl = some (bI (tellP n0 pl ho k room d hour weight)) := by
  unfold m_X0_wouldTell tellP
  rw [x0_later hn hpl hho hr hd hh, ob1_s]
  have hc := cnt_le (latP pl ho room d hour) n0
  rcases (show k = 0 ∨ k = 1 ∨ k = 2 ∨ k = 3 by omega) with rfl | rfl | rfl | rfl
  · rfl
  · rw [if_neg (by decide), if_pos (by decide), pz_l12, bz_01]
    simp (disch := omega) only [pz_lt, nlt_b]
    rfl
  · rw [if_neg (by decide), if_neg (by decide), if_pos (by decide), pz_l2, bz_01]
    simp (disch := omega) only [pz_le, nle_b]
    rfl
  · rw [if_neg (by decide), if_neg (by decide), if_neg (by decide), if_pos (by decide), pz_l12, pz_l10, bz_01, bz_0b]
    simp (disch := omega) only [pz_le, pz_lt, nle_b, nlt_b]
    rfl
theorem x0_told_L {n0 : Nat} {cpl cho cwe cki : Nat → Int32} {pl ho we : Nat → Nat} {p k room : Nat} (hn : n0 ≤ 9) (hpl : ∀ j, j < n0 → cpl j = nI (pl j) ∧ pl j < 1000) (hho : ∀ j, j < n0 → cho j = nI (ho j) ∧ ho j < 1000) (hwe : ∀ j, j < n0 → cwe j = nI (we j) ∧ we j < 1000) (hp : p < 8) (hk : cki p = nI k) (hk4 : k < 4) (hr : room < 1000) :
    ∀ n i, n0 < n + i → i ≤ n0 → L_X0_toldBy_5 (nI n0) cpl (nI room) (nI p) cki cho cwe n (nI (bts (tellS n0 pl ho we k room) i)) (nI i) = some (nI (toldS n0 pl ho we k room)) := by
  intro n
  induction n with
  | zero => intro i h1 h2; omega
  | succ n ih =>
    intro i h1 h2
    rw [L_X0_toldBy_5]
    by_cases hi : n0 ≤ i
    · have e : i = n0 := by omega
      subst e
      rw [if_pos (nI_le (Nat.le_refl _) (by omega))]; rfl
    · obtain ⟨p1, p2⟩ := hpl i (by omega)
      obtain ⟨q1, q2⟩ := hho i (by omega)
      obtain ⟨w1, w2⟩ := hwe i (by omega)
      have IH := ih (i + 1) (by omega) (by omega)
      have hwt := x0_would (cpl := cpl) (cho := cho) (k := k) (room := room) (d := i) (hour := ho i) (weight := we i) hn hpl hho hr (by omega) q2 w2 hk4
      rw [if_neg (nI_ge (by omega) (by omega))]
      simp (disch := omega) only [pz_ok, gu_true, pz_cl, p1, q1, w1, hk, pz_eq, hwt, ob1_s, pv_e, bI_0, nI_1, pz_shl, pz_or]
      simp only [bts, tellS] at IH ⊢
      by_cases c1 : pl i = room
      · cases c2 : tellP n0 pl ho k room i (ho i) (we i)
        · simp [c1, c2] at IH ⊢; exact IH
        · simp [c1, c2] at IH ⊢; exact IH
      · simp [c1] at IH ⊢; exact IH
theorem x0_told {n0 : Nat} {cpl cho cwe cki : Nat → Int32} {pl ho we : Nat → Nat} {p k room : Nat} (hn : n0 ≤ 9) (hpl : ∀ j, j < n0 → cpl j = nI (pl j) ∧ pl j < 1000) (hho : ∀ j, j < n0 → cho j = nI (ho j) ∧ ho j < 1000) (hwe : ∀ j, j < n0 → cwe j = nI (we j) ∧ we j < 1000) (hp : p < 8) (hk : cki p = nI k) (hk4 : k < 4) (hr : room < 1000) :
    m_X0_toldBy (nI p) (nI room) (nI n0) cpl cki cho cwe = some (nI (toldS n0 pl ho we k room)) := by
  unfold m_X0_toldBy
  have h := x0_told_L hn hpl hho hwe hp hk hk4 hr 300 0 (by omega) (by omega)
  rw [show bts (tellS n0 pl ho we k room) 0 = 0 from rfl] at h
  rw [pz_l0, h, ob1_s]
/-! the reference -/
theorem x6_room {md : Nat → Int32} {j : Nat} (hj : j < 10) : m_X6_roomOf (nI j) md = some (md (4 * j + 1)) := by
  unfold m_X6_roomOf
  simp (disch := omega) only [pz_l4, pz_mul, nI_1, pz_ok, gu_true, pz_cl]
theorem x6_hour {md : Nat → Int32} {j : Nat} (hj : j < 10) : m_X6_hourOf (nI j) md = some (md (4 * j + 2)) := by
  unfold m_X6_hourOf
  simp (disch := omega) only [pz_l4, pz_mul, pz_l2, pz_add, pz_ok, gu_true, pz_cl]
theorem x6_weighs {md : Nat → Int32} {j : Nat} (hj : j < 10) : m_X6_weighs (nI j) md = some (md (4 * j + 3)) := by
  unfold m_X6_weighs
  simp (disch := omega) only [pz_l4, pz_mul, pz_l3, pz_add, pz_ok, gu_true, pz_cl]
theorem x6_later_L {n0 : Nat} {md : Nat → Int32} {pl ho : Nat → Nat} {d : Nat} (hn : n0 ≤ 10) (hpl : ∀ j, j < n0 → md (4 * j + 1) = nI (pl j) ∧ pl j < 1000) (hho : ∀ j, j < n0 → md (4 * j + 2) = nI (ho j) ∧ ho j < 1000) (hd : d < n0) :
    ∀ n i, n0 < n + i → i ≤ n0 → L_X6_laterThan_5 (nI n0) md (nI d) n (nI (cnt (latP pl ho (pl d) d (ho d)) i)) (nI i) = some (nI (cnt (latP pl ho (pl d) d (ho d)) n0)) := by
  intro n
  induction n with
  | zero => intro i h1 h2; omega
  | succ n ih =>
    intro i h1 h2
    rw [L_X6_laterThan_5]
    by_cases hi : n0 ≤ i
    · have e : i = n0 := by omega
      subst e
      rw [if_pos (nI_le (Nat.le_refl _) (by omega))]
    · obtain ⟨p1, p2⟩ := hpl i (by omega)
      obtain ⟨q1, q2⟩ := hho i (by omega)
      obtain ⟨p3, p4⟩ := hpl d hd
      obtain ⟨q3, q4⟩ := hho d hd
      have IH := ih (i + 1) (by omega) (by omega)
      rw [if_neg (nI_ge (by omega) (by omega))]
      simp (disch := omega) only [x6_room, x6_hour, p1, q1, p3, q3, pz_lt, pz_eq, pz_le, bz_01, bz_b0, bz_1b, bz_10, ob1_s, pv_e, bI_0, nI_1, nle_b]
      rw [show nI (cnt (latP pl ho (pl d) d (ho d)) i) + 0 = nI (cnt (latP pl ho (pl d) d (ho d)) i) from nI_add _ 0]
      simp only [cnt, latP] at IH
      cases hB : (decide (ho d < ho i) || (decide (ho i = ho d) && decide (d < i))) <;> simp only [hB] at IH ⊢ <;> by_cases c1 : i = d <;> by_cases c2 : pl i = pl d <;> simp [c1, c2] at IH ⊢ <;> exact IH
theorem x6_later {n0 : Nat} {md : Nat → Int32} {pl ho : Nat → Nat} {d : Nat} (hn : n0 ≤ 10) (hpl : ∀ j, j < n0 → md (4 * j + 1) = nI (pl j) ∧ pl j < 1000) (hho : ∀ j, j < n0 → md (4 * j + 2) = nI (ho j) ∧ ho j < 1000) (hd : d < n0) :
    m_X6_laterThan (nI d) (nI n0) md = some (nI (cnt (latP pl ho (pl d) d (ho d)) n0)) := by
  unfold m_X6_laterThan
  have h := x6_later_L hn hpl hho hd 300 0 (by omega) (by omega)
  rw [show cnt (latP pl ho (pl d) d (ho d)) 0 = 0 from rfl] at h
  rw [pz_l0, h, ob1_s]
theorem x6_does {n0 : Nat} {md now mp : Nat → Int32} {pl ho we : Nat → Nat} {p k room d : Nat} (hn : n0 ≤ 10) (hpl : ∀ j, j < n0 → md (4 * j + 1) = nI (pl j) ∧ pl j < 1000) (hho : ∀ j, j < n0 → md (4 * j + 2) = nI (ho j) ∧ ho j < 1000) (hwe : ∀ j, j < n0 → md (4 * j + 3) = nI (we j) ∧ we j < 1000) (hd : d < n0) (hp : p < 8) (hnw : now (2 + p) = nI room) (hr : room < 1000) (hk : mp (2 * p) = nI k) (hk4 : k < 4) :
    m_X6_doesTell (nI p) (nI d) (nI n0) md now mp = some (bI (tellS n0 pl ho we k room d)) := by
  unfold m_X6_doesTell tellS tellP
  obtain ⟨p3, p4⟩ := hpl d hd
  obtain ⟨q3, q4⟩ := hho d hd
  obtain ⟨w3, w4⟩ := hwe d hd
  have hc := cnt_le (latP pl ho (pl d) d (ho d)) n0
  rw [x6_room (by omega), x6_hour (by omega), x6_weighs (by omega), x6_later hn hpl hho hd, p3, q3, w3]
  simp (disch := omega) only [ob1_s, pz_l2, pz_add, pz_mul, pz_ok, gu_true, pz_cl, hnw, hk, pz_eq]
  by_cases c : pl d = room
  · subst c
    rcases (show k = 0 ∨ k = 1 ∨ k = 2 ∨ k = 3 by omega) with rfl | rfl | rfl | rfl
    · simp [pz_l1, pz_l3, pz_eq]
      rfl
    · simp (disch := omega) only [pz_l12, bz_01, pz_lt, nlt_b]
      simp [pz_l1]
    · simp (disch := omega) only [bz_01, pz_le, nle_b]
      simp [pz_l1, pz_eq]
    · simp (disch := omega) only [pz_l12, pz_l10, bz_01, bz_0b, pz_le, pz_lt, nle_b, nlt_b]
      simp [pz_l1, pz_l3, pz_eq]
  · simp [c]
    rfl
