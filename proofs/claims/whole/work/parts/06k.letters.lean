/-! THE CALLS: fault: the letters, the figures, the numbers -/
def ltC (k : Nat) (V : Nat → Nat) (i : Nat) : Nat := if i < k then V i else 0
def fgB (k : Nat) (V : Nat → Nat) (i : Nat) : Bool := decide (i < k) && (decide (48 ≤ V i) && decide (V i ≤ 57))
def sepP (k : Nat) (V : Nat → Nat) (i c : Nat) : Prop := i < k ∧ V i = c
theorem ltC_lt {k : Nat} {V : Nat → Nat} {cpt mtx : Nat → Int32} (hk : k ≤ 200) (hV : ∀ i, i < k → 32 ≤ V i ∧ V i ≤ 126 ∧ cpt i = nI (V i) ∧ mtx i = nI (V i)) (i : Nat) : ltC k V i < 1000 := by
  unfold ltC
  by_cases c : i < k
  · rw [if_pos c]; have := hV i c; omega
  · rw [if_neg c]; omega
theorem c_letter {k : Nat} {V : Nat → Nat} {cpt mtx : Nat → Int32} (hk : k ≤ 200) (hV : ∀ i, i < k → 32 ≤ V i ∧ V i ≤ 126 ∧ cpt i = nI (V i) ∧ mtx i = nI (V i)) {i : Nat} (hi : i < 1000) : m_X1_letterAt (nI i) (nI k) cpt = some (nI (ltC k V i)) := by
  unfold m_X1_letterAt ltC
  rw [if_neg (nI_pos (by omega))]
  by_cases c : i < k
  · rw [if_neg (nI_ge c (by omega)), pz_ok (by omega) (by omega), gu_true, pz_cl (by omega), if_pos c, (hV i c).2.2.1]
  · rw [if_pos (nI_le (by omega) (by omega)), if_neg c]; rfl
theorem r_letter {k : Nat} {V : Nat → Nat} {cpt mtx : Nat → Int32} (hk : k ≤ 200) (hV : ∀ i, i < k → 32 ≤ V i ∧ V i ≤ 126 ∧ cpt i = nI (V i) ∧ mtx i = nI (V i)) {i : Nat} (hi : i < 1000) : m_X6_letterAt (nI i) (nI k) mtx = some (if i < k then nI (V i) else -1) := by
  unfold m_X6_letterAt
  by_cases c : i < k
  · rw [if_neg (nI_ge c (by omega)), pz_ok (by omega) (by omega), gu_true, pz_cl (by omega), if_pos c, (hV i c).2.2.2]
  · rw [if_pos (nI_le (by omega) (by omega)), if_neg c]
theorem c_fig1 {x : Nat} (hx : x < 1000) : m_X0_isFigure (nI x) = some (bI (decide (48 ≤ x) && decide (x ≤ 57))) := by
  unfold m_X0_isFigure
  rw [pz_l48, pz_l57, bz_01, bz_0b]
  simp (disch := omega) only [pz_lt, nlt_b]
theorem c_fig {k : Nat} {V : Nat → Nat} {cpt mtx : Nat → Int32} (hk : k ≤ 200) (hV : ∀ i, i < k → 32 ≤ V i ∧ V i ≤ 126 ∧ cpt i = nI (V i) ∧ mtx i = nI (V i)) (i : Nat) : m_X0_isFigure (nI (ltC k V i)) = some (bI (fgB k V i)) := by
  rw [c_fig1 (ltC_lt hk hV i)]
  unfold fgB ltC
  by_cases c : i < k
  · rw [if_pos c, decide_eq_true c, Bool.true_and]
  · rw [if_neg c, decide_eq_false c, Bool.false_and]; rfl
theorem r_fig {k : Nat} {V : Nat → Nat} {cpt mtx : Nat → Int32} (hk : k ≤ 200) (hV : ∀ i, i < k → 32 ≤ V i ∧ V i ≤ 126 ∧ cpt i = nI (V i) ∧ mtx i = nI (V i)) (i : Nat) : m_X6_isFigure (if i < k then nI (V i) else -1) = some (bI (fgB k V i)) := by
  unfold m_X6_isFigure fgB
  rw [pz_l48, pz_l57, x6_in _ 48 57 (by decide) (by decide), ob1_s, gu_okb]
  by_cases c : i < k
  · have := hV i c
    rw [if_pos c, decide_eq_true c, Bool.true_and, inR_iff (by omega)]
    congr 2
    by_cases c1 : 48 ≤ V i <;> by_cases c2 : V i ≤ 57 <;> simp [c1, c2]
  · rw [if_neg c, decide_eq_false c, Bool.false_and]; rfl
theorem c_sep {k : Nat} {V : Nat → Nat} {cpt mtx : Nat → Int32} (hk : k ≤ 200) (hV : ∀ i, i < k → 32 ≤ V i ∧ V i ≤ 126 ∧ cpt i = nI (V i) ∧ mtx i = nI (V i)) {i c : Nat} (h0 : 0 < c) (hc : c < 1000) : (nI (ltC k V i) = nI c) = sepP k V i c := by
  rw [pz_eq (by have := ltC_lt hk hV i; omega) (by omega)]
  unfold ltC sepP
  by_cases q : i < k
  · rw [if_pos q]; simp [q]
  · rw [if_neg q]; simp [q]; omega
theorem r_sep {k : Nat} {V : Nat → Nat} {cpt mtx : Nat → Int32} (hk : k ≤ 200) (hV : ∀ i, i < k → 32 ≤ V i ∧ V i ≤ 126 ∧ cpt i = nI (V i) ∧ mtx i = nI (V i)) {i c : Nat} (h0 : 0 < c) (hc : c < 1000) : ((if i < k then nI (V i) else -1) = nI c) = sepP k V i c := by
  unfold sepP
  by_cases q : i < k
  · have := hV i q
    rw [if_pos q, pz_eq (by omega) (by omega)]; simp [q]
  · rw [if_neg q]
    have : ¬ (-1 : Int32) = nI c := fun e => by
      rw [pz_m1] at e
      have := congrArg (fun y : Int32 => y.toBitVec.toNat) e
      rw [pz_tn (by omega), pz_tn (by omega)] at this
      omega
    simp [q, this]
def nuW (k : Nat) (V : Nat → Nat) (i : Nat) : Nat := if fgB k V (i + 1) = true then 2 else 1
def nuV (k : Nat) (V : Nat → Nat) (i : Nat) : Nat := if fgB k V (i + 1) = true then (V i - 48) * 10 + V (i + 1) - 48 else V i - 48
theorem fgB_of {k : Nat} {V : Nat → Nat} {i : Nat} (h : fgB k V i = true) : i < k ∧ 48 ≤ V i ∧ V i ≤ 57 := by
  unfold fgB at h
  rw [Bool.and_eq_true, Bool.and_eq_true] at h
  exact ⟨of_decide_eq_true h.1, of_decide_eq_true h.2.1, of_decide_eq_true h.2.2⟩
theorem nuV_lt {k : Nat} {V : Nat → Nat} {i : Nat} (h : fgB k V i = true) : nuV k V i < 100 := by
  have h1 := fgB_of h
  unfold nuV
  by_cases c : fgB k V (i + 1) = true
  · have h2 := fgB_of c
    rw [if_pos c]; omega
  · rw [if_neg c]; omega
theorem c_figures {k : Nat} {V : Nat → Nat} {cpt mtx : Nat → Int32} (hk : k ≤ 200) (hV : ∀ i, i < k → 32 ≤ V i ∧ V i ≤ 126 ∧ cpt i = nI (V i) ∧ mtx i = nI (V i)) {i : Nat} (hi : i < 900) : m_X0_figuresAt (nI i) (nI k) cpt = some (nI (if fgB k V i = true then nuW k V i else 0)) := by
  unfold m_X0_figuresAt nuW
  rw [c_letter hk hV (by omega), ob1_s, c_fig hk hV, ob1_s, nI_1, c_letter hk hV (by omega), ob1_s, c_fig hk hV, ob1_s]
  cases fgB k V i
  · rfl
  · cases fgB k V (i + 1) <;> rfl
theorem c_number {k : Nat} {V : Nat → Nat} {cpt mtx : Nat → Int32} (hk : k ≤ 200) (hV : ∀ i, i < k → 32 ≤ V i ∧ V i ≤ 126 ∧ cpt i = nI (V i) ∧ mtx i = nI (V i)) {i : Nat} (hi : i < 900) (h : fgB k V i = true) : m_X0_numberAt (nI i) (nI (nuW k V i)) (nI k) cpt = some (nI (nuV k V i)) := by
  have h1 := fgB_of h
  unfold m_X0_numberAt nuW nuV
  rw [c_letter hk hV (by omega), ob1_s, nI_1, c_letter hk hV (by omega)]
  simp only [ob1_s]
  unfold ltC
  rw [if_pos h1.1, pz_l48, pz_sub (by omega), pv_e]
  by_cases c : fgB k V (i + 1) = true
  · have h2 := fgB_of c
    rw [if_pos c, if_pos c, if_pos (show nI 2 = (2 : Int32) from rfl), if_pos h2.1, pz_l10, pz_mul, pz_add, pz_sub (by omega)]
  · rw [if_neg c, if_neg c, if_neg (show ¬ nI 1 = (2 : Int32) by decide)]
