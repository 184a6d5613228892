/-! THE CALLS: fault: the whole text, in both -/
theorem item_1 {pos ro co : Nat} {h : Hd} {k : Nat} {V : Nat → Nat} {cpt mtx : Nat → Int32} {dP drf dD dco dL mrP mrD mrc mrL : Int32} {dki dpr dpe dpl dho dwe mrp mrr mrd : Nat → Int32} (hk : k ≤ 200) (hV : ∀ i, i < k → 32 ≤ V i ∧ V i ≤ 126 ∧ cpt i = nI (V i) ∧ mtx i = nI (V i)) (hD : DR h ro co dP drf dD dco dL dki dpr dpe dpl dho dwe mrP mrD mrc mrL mrp mrr mrd) (hp : pos < k) (nu to : Nat → Int32) :
    It k pos (m_X0_readItem (nI pos) (nI k) cpt dP drf dD dco dL nu dki dpr dpe dpl dho dwe) (m_X6_readItem (nI k) (nI pos) mrP mrD mrc mrL mtx to mrp mrr mrd) := by
  have hv := hV pos hp
  unfold m_X0_readItem m_X6_readItem
  rw [c_letter hk hV (by omega), r_letter hk hV (by omega), if_pos hp]
  simp only [ob1_s, pv_e, nI_1]
  unfold ltC m_X0_numbersBehind
  rw [if_pos hp]
  by_cases a0 : V pos = 100
  · rw [a0, if_pos (show nI 100 = 100 by decide), if_pos (show nI 100 = 100 by decide)]
    exact item_deed hk hV hD hp nu to
  by_cases a1 : V pos = 108
  · rw [a1, if_neg (show ¬ nI 108 = 100 by decide), if_neg (show ¬ nI 108 = 100 by decide), if_pos (show nI 108 = 108 by decide), if_pos (show nI 108 = 108 by decide)]
    exact item_law hk hV hD hp nu to
  by_cases a2 : V pos = 109
  · rw [a2, if_neg (show ¬ nI 109 = 100 by decide), if_neg (show ¬ nI 109 = 100 by decide), if_neg (show ¬ nI 109 = 108 by decide), if_neg (show ¬ nI 109 = 108 by decide), if_pos (show nI 109 = 109 by decide), if_pos (show nI 109 = 109 by decide)]
    exact item_coin hk hV hD hp nu to
  by_cases a3 : V pos = 112
  · rw [a3, if_neg (show ¬ nI 112 = 100 by decide), if_neg (show ¬ nI 112 = 100 by decide), if_neg (show ¬ nI 112 = 108 by decide), if_neg (show ¬ nI 112 = 108 by decide), if_neg (show ¬ nI 112 = 109 by decide), if_neg (show ¬ nI 112 = 109 by decide), if_pos (show nI 112 = 112 by decide), if_pos (show nI 112 = 112 by decide)]
    exact item_piece hk hV hD hp nu to
  have n0 : ¬ nI (V pos) = 100 := fun q => a0 ((pz_eq (b := 100) (by omega) (by omega)).mp q)
  have n1 : ¬ nI (V pos) = 108 := fun q => a1 ((pz_eq (b := 108) (by omega) (by omega)).mp q)
  have n2 : ¬ nI (V pos) = 109 := fun q => a2 ((pz_eq (b := 109) (by omega) (by omega)).mp q)
  have n3 : ¬ nI (V pos) = 112 := fun q => a3 ((pz_eq (b := 112) (by omega) (by omega)).mp q)
  left
  simp only [if_neg n0, if_neg n1, if_neg n2, if_neg n3, ob1_s]
  rw [L_X0_readItem_20, if_pos (show (0 : Int32) ≤ 0 by decide)]
  unfold m_X0_takeItem
  simp only [if_neg n0, if_neg n1, if_neg n2, if_neg n3, ob1_s]
  exact ⟨_, _, rfl, rfl⟩
/-- the whole text read, or a fault at one place, in both -/
def Ft (A : Option (Int32 × Int32 × Int32 × Int32 × Int32 × Int32 × (Nat → Int32) × (Nat → Int32) × (Nat → Int32) × (Nat → Int32) × (Nat → Int32) × (Nat → Int32) × (Nat → Int32))) (B : Option (Int32 × Int32 × Int32 × Int32 × Int32 × Int32 × (Nat → Int32) × (Nat → Int32) × (Nat → Int32) × (Nat → Int32))) : Prop :=
  (∃ p : Nat, ∃ a b, p < 1000 ∧ A = some (nI p, a) ∧ B = some (nI p, b)) ∨ ∃ (h : Hd) (ro co : Nat) (aq dP drf dD dco dL mrP mrD mrc mrL : Int32) (nu dki dpr dpe dpl dho dwe to mrp mrr mrd : Nat → Int32), DR h ro co dP drf dD dco dL dki dpr dpe dpl dho dwe mrP mrD mrc mrL mrp mrr mrd ∧ A = some (-4, dP, drf, dD, dco, dL, nu, dki, dpr, dpe, dpl, dho, dwe) ∧ B = some (-4, aq, mrP, mrD, mrc, mrL, to, mrp, mrr, mrd)
theorem fault_L {k : Nat} {V : Nat → Nat} {cpt mtx : Nat → Int32} (hk : k ≤ 200) (hV : ∀ i, i < k → 32 ≤ V i ∧ V i ≤ 126 ∧ cpt i = nI (V i) ∧ mtx i = nI (V i)) : ∀ n pos (h : Hd) (ro co : Nat) (dP drf dD dco dL mrP mrD mrc mrL : Int32) (nu dki dpr dpe dpl dho dwe to mrp mrr mrd : Nat → Int32), k < n + pos → pos ≤ k → DR h ro co dP drf dD dco dL dki dpr dpe dpl dho dwe mrP mrD mrc mrL mrp mrr mrd →
    Ft (L_X0_readFrom_28 (nI k) cpt n dP dL drf dD dco dho dki nu dpe dpl dpr dwe (nI pos)) (L_X6_fault_9 (nI k) mtx n (nI pos) mrP mrD mrc mrL mrd mrp mrr to) := by
  intro n
  induction n with
  | zero => intro pos h ro co dP drf dD dco dL mrP mrD mrc mrL nu dki dpr dpe dpl dho dwe to mrp mrr mrd h1 h2; omega
  | succ n ih =>
    intro pos h ro co dP drf dD dco dL mrP mrD mrc mrL nu dki dpr dpe dpl dho dwe to mrp mrr mrd h1 h2 hD
    rw [L_X0_readFrom_28, L_X6_fault_9]
    by_cases hp : k ≤ pos
    · rw [if_pos (nI_le hp (by omega)), if_pos (nI_le hp (by omega))]
      right
      exact ⟨h, ro, co, _, _, _, _, _, _, _, _, _, _, _, _, _, _, _, _, _, _, _, _, _, hD, rfl, rfl⟩
    · rw [if_neg (nI_ge (by omega) (by omega)), if_neg (nI_ge (by omega) (by omega))]
      rcases item_1 hk hV hD (show pos < k by omega) nu to with ⟨a, b, z1, z2⟩ | ⟨pos', h', ro', co', dP', drf', dD', dco', dL', mrP', mrD', mrc', mrL', nu', dki', dpr', dpe', dpl', dho', dwe', to', mrp', mrr', mrd', g1, g2, g3, z1, z2⟩
      · obtain ⟨a1, a2, a3, a4, a5, a6, a7, a8, a9, a10, a11, a12⟩ := a
        obtain ⟨b1, b2, b3, b4, b5, b6, b7, b8, b9⟩ := b
        rw [z1, z2]
        left
        refine ⟨pos, (a1, a2, a3, a4, a5, a6, a7, a8, a9, a10, a11, a12), (b1, b2, b3, b4, b5, b6, b7, b8, b9), by omega, ?_, ?_⟩
        · show (if nI pos < -1 then _ else _) = _
          rw [if_neg (fun q => by
            have h3 := Int32.lt_iff_toInt_lt.mp q
            rw [nI_toInt (by omega)] at h3
            have h4 : (-1 : Int32).toInt = -1 := by decide
            omega)]
        · rfl
      · rw [z1, z2]
        have z := ih pos' h' ro' co' dP' drf' dD' dco' dL' mrP' mrD' mrc' mrL' nu' dki' dpr' dpe' dpl' dho' dwe' to' mrp' mrr' mrd' (by omega) g2 g3
        simp only [ob13, ob10]
        rw [if_pos (nI_lt g1 (by omega)), if_neg (show ¬ (1 : Int32) = 0 by decide)]
        exact z
