/-! THE CALLS: fault: one item, in both -/
/-- one item read, or not, by both -/
def It (k pos : Nat) (A : Option (Int32 × Int32 × Int32 × Int32 × Int32 × Int32 × (Nat → Int32) × (Nat → Int32) × (Nat → Int32) × (Nat → Int32) × (Nat → Int32) × (Nat → Int32) × (Nat → Int32))) (B : Option (Int32 × Int32 × Int32 × Int32 × Int32 × Int32 × (Nat → Int32) × (Nat → Int32) × (Nat → Int32) × (Nat → Int32))) : Prop :=
  (∃ a b, A = some (-1, a) ∧ B = some (0, b)) ∨ ∃ (pos' : Nat) (h : Hd) (ro co : Nat) (dP drf dD dco dL mrP mrD mrc mrL : Int32) (nu dki dpr dpe dpl dho dwe to mrp mrr mrd : Nat → Int32), pos < pos' ∧ pos' ≤ k ∧ DR h ro co dP drf dD dco dL dki dpr dpe dpl dho dwe mrP mrD mrc mrL mrp mrr mrd ∧ A = some (nI pos', dP, drf, dD, dco, dL, nu, dki, dpr, dpe, dpl, dho, dwe) ∧ B = some (1, nI pos', mrP, mrD, mrc, mrL, to, mrp, mrr, mrd)
theorem item_law {pos ro co : Nat} {h : Hd} {k : Nat} {V : Nat → Nat} {cpt mtx : Nat → Int32} {dP drf dD dco dL mrP mrD mrc mrL : Int32} {dki dpr dpe dpl dho dwe mrp mrr mrd : Nat → Int32} (hk : k ≤ 200) (hV : ∀ i, i < k → 32 ≤ V i ∧ V i ≤ 126 ∧ cpt i = nI (V i) ∧ mtx i = nI (V i)) (hD : DR h ro co dP drf dD dco dL dki dpr dpe dpl dho dwe mrP mrD mrc mrL mrp mrr mrd) (hp : pos < k) (nu to : Nat → Int32) :
    It k pos (L_X0_readItem_20 (nI 1) (nI 108) dP drf dD dco dL dki dpr dpe dpl dho dwe (nI k) cpt 300 nu (nI (pos + 1)) (nI 0)) (ob4 (m_X6_readLawOf (nI k) (nI (pos + 1)) mrL mtx to) (fun (x13 : Int32) (f14 : Int32) (f15 : Int32) (c16 : Nat → Int32) => gu (okB x13) (some (x13, f14, mrP, mrD, mrc, f15, c16, mrp, mrr, mrd)))) := by
  unfold m_X6_readLawOf m_X6_readNumbers
  rcases num_L (x1 := nI 108) (dP := dP) (drf := drf) (dD := dD) (dco := dco) (dL := dL) (dki := dki) (dpr := dpr) (dpe := dpe) (dpl := dpl) (dho := dho) (dwe := dwe) hk hV (m := 1) (by omega) (by omega) 300 0 (pos + 1) nu to (by omega) (by omega) (by omega) (fun i hi => absurd hi (Nat.not_lt_zero i)) with ⟨p', c2', c4', z1, z2⟩ | ⟨pos', c2', c4', n', z1, z2, z3, z4, z5⟩
  · left
    have y1 : L_X6_readNumbers_2 1 (nI k) mtx 300 (nI (pos + 1)) to 0 = some (0, p', c2') := z1
    rw [y1, z2, ob3_s, if_pos rfl]
    exact ⟨_, _, rfl, rfl⟩
  · obtain ⟨v, hv, w1, w2⟩ := z3 0 (by omega)
    obtain ⟨d, hC, hM, -⟩ := id hD
    have y4 : L_X6_readNumbers_2 1 (nI k) mtx 300 (nI (pos + 1)) to 0 = some (1, nI pos', c2') := z4
    have y6 : m_X6_isTold 0 0 3 c2' = some (bI (decide (0 ≤ v ∧ v ≤ 3))) := told_is (i := 0) (lo := 0) (hi := 3) (by omega) w2 hv (by omega) (by omega)
    rw [y4, z5, ob3_s, if_neg (by decide), L_X0_readItem_20, if_pos (nI_le (Nat.le_refl _) (by omega)), y6, ob1_s]
    unfold m_X0_takeItem m_X0_takeLaw
    rw [if_neg (show ¬ nI 108 = 100 by decide), if_pos (show nI 108 = 108 by decide), show (0 : Int32).toNatClampNeg = 0 from rfl, w1, w2]
    by_cases c : v < 4
    · rw [decide_eq_true (show 0 ≤ v ∧ v ≤ 3 by omega)]
      right
      obtain ⟨h', hD'⟩ := hD.law c
      refine ⟨pos', h', ro, co, _, _, _, _, _, _, _, _, _, c4', _, _, _, _, _, _, c2', _, _, _, by omega, z2, hD', ?_, ?_⟩
      · rw [if_pos (show nI v < 4 from nI_lt (b := 4) c (by omega)), pz_shl v (by omega), hC.2.2.1, pz_or]
        rfl
      · rw [pz_shl v (by omega), hM.2.2.1, pz_or]
        rfl
    · rw [decide_eq_false (show ¬ (0 ≤ v ∧ v ≤ 3) by omega), if_pos (show bI false = 0 from rfl), if_neg (show ¬ nI v < 4 from e6_nlt (a := v) (b := 4) (by omega) (by omega))]
      left
      exact ⟨_, _, rfl, rfl⟩
theorem item_coin {pos ro co : Nat} {h : Hd} {k : Nat} {V : Nat → Nat} {cpt mtx : Nat → Int32} {dP drf dD dco dL mrP mrD mrc mrL : Int32} {dki dpr dpe dpl dho dwe mrp mrr mrd : Nat → Int32} (hk : k ≤ 200) (hV : ∀ i, i < k → 32 ≤ V i ∧ V i ≤ 126 ∧ cpt i = nI (V i) ∧ mtx i = nI (V i)) (hD : DR h ro co dP drf dD dco dL dki dpr dpe dpl dho dwe mrP mrD mrc mrL mrp mrr mrd) (hp : pos < k) (nu to : Nat → Int32) :
    It k pos (L_X0_readItem_20 (nI 1) (nI 109) dP drf dD dco dL dki dpr dpe dpl dho dwe (nI k) cpt 300 nu (nI (pos + 1)) (nI 0)) (ob4 (m_X6_readCoinsOf (nI k) (nI (pos + 1)) mrc mtx to) (fun (x9 : Int32) (f10 : Int32) (f11 : Int32) (c12 : Nat → Int32) => gu (okB x9) (some (x9, f10, mrP, mrD, f11, mrL, c12, mrp, mrr, mrd)))) := by
  unfold m_X6_readCoinsOf m_X6_readNumbers
  rcases num_L (x1 := nI 109) (dP := dP) (drf := drf) (dD := dD) (dco := dco) (dL := dL) (dki := dki) (dpr := dpr) (dpe := dpe) (dpl := dpl) (dho := dho) (dwe := dwe) hk hV (m := 1) (by omega) (by omega) 300 0 (pos + 1) nu to (by omega) (by omega) (by omega) (fun i hi => absurd hi (Nat.not_lt_zero i)) with ⟨p', c2', c4', z1, z2⟩ | ⟨pos', c2', c4', n', z1, z2, z3, z4, z5⟩
  · left
    have y1 : L_X6_readNumbers_2 1 (nI k) mtx 300 (nI (pos + 1)) to 0 = some (0, p', c2') := z1
    rw [y1, z2, ob3_s, if_pos rfl]
    exact ⟨_, _, rfl, rfl⟩
  · obtain ⟨v, hv, w1, w2⟩ := z3 0 (by omega)
    have y4 : L_X6_readNumbers_2 1 (nI k) mtx 300 (nI (pos + 1)) to 0 = some (1, nI pos', c2') := z4
    rw [y4, z5, ob3_s, if_neg (by decide), L_X0_readItem_20, if_pos (nI_le (Nat.le_refl _) (by omega))]
    unfold m_X0_takeItem m_X0_takeCoins
    rw [if_neg (show ¬ nI 109 = 100 by decide), if_neg (show ¬ nI 109 = 108 by decide), if_pos (show nI 109 = 109 by decide), show (0 : Int32).toNatClampNeg = 0 from rfl, w1, w2]
    right
    exact ⟨pos', h, ro, v, _, _, _, _, _, _, _, _, _, c4', _, _, _, _, _, _, c2', _, _, _, by omega, z2, hD.coin hv, rfl, rfl⟩
theorem item_piece {pos ro co : Nat} {h : Hd} {k : Nat} {V : Nat → Nat} {cpt mtx : Nat → Int32} {dP drf dD dco dL mrP mrD mrc mrL : Int32} {dki dpr dpe dpl dho dwe mrp mrr mrd : Nat → Int32} (hk : k ≤ 200) (hV : ∀ i, i < k → 32 ≤ V i ∧ V i ≤ 126 ∧ cpt i = nI (V i) ∧ mtx i = nI (V i)) (hD : DR h ro co dP drf dD dco dL dki dpr dpe dpl dho dwe mrP mrD mrc mrL mrp mrr mrd) (hp : pos < k) (nu to : Nat → Int32) :
    It k pos (L_X0_readItem_20 (nI 3) (nI 112) dP drf dD dco dL dki dpr dpe dpl dho dwe (nI k) cpt 300 nu (nI (pos + 1)) (nI 0)) (ob6 (m_X6_readPieceOf (nI k) (nI (pos + 1)) mrP mtx to mrp mrr) (fun (x3 : Int32) (f4 : Int32) (f5 : Int32) (c6 : Nat → Int32) (c7 : Nat → Int32) (c8 : Nat → Int32) => gu (okB x3) (some (x3, f4, f5, mrD, mrc, mrL, c6, c7, c8, mrd)))) := by
  obtain ⟨⟨d1, d2, d3, d4, d5⟩, hC, hM, hro, -⟩ := id hD
  have eP := hC.1
  have eP2 := hM.1
  unfold m_X6_readPieceOf m_X6_readNumbers
  rcases num_L (x1 := nI 112) (dP := dP) (drf := drf) (dD := dD) (dco := dco) (dL := dL) (dki := dki) (dpr := dpr) (dpe := dpe) (dpl := dpl) (dho := dho) (dwe := dwe) hk hV (m := 3) (by omega) (by omega) 300 0 (pos + 1) nu to (by omega) (by omega) (by omega) (fun i hi => absurd hi (Nat.not_lt_zero i)) with ⟨p', c2', c4', z1, z2⟩ | ⟨pos', c2', c4', n', z1, z2, z3, z4, z5⟩
  · left
    have y1 : L_X6_readNumbers_2 3 (nI k) mtx 300 (nI (pos + 1)) to 0 = some (0, p', c2') := z1
    rw [y1, z2, ob3_s, if_pos rfl]
    by_cases c : mrP = 8
    · rw [if_pos c]; exact ⟨_, _, rfl, rfl⟩
    · rw [if_neg c]; exact ⟨_, _, rfl, rfl⟩
  · obtain ⟨v0, hv0, w0, u0⟩ := z3 0 (by omega)
    obtain ⟨v1, hv1, w1, u1⟩ := z3 1 (by omega)
    obtain ⟨v2, hv2, w2, u2⟩ := z3 2 (by omega)
    have y4 : L_X6_readNumbers_2 3 (nI k) mtx 300 (nI (pos + 1)) to 0 = some (1, nI pos', c2') := z4
    have t0 : m_X6_isTold 0 0 3 c2' = some (bI (decide (0 ≤ v0 ∧ v0 ≤ 3))) := told_is (i := 0) (lo := 0) (hi := 3) (by omega) u0 hv0 (by omega) (by omega)
    have t1 : m_X6_isTold 1 0 3 c2' = some (bI (decide (0 ≤ v1 ∧ v1 ≤ 3))) := told_is (i := 1) (lo := 0) (hi := 3) (by omega) u1 hv1 (by omega) (by omega)
    have t2 : m_X6_isTold 2 0 60 c2' = some (bI (decide (0 ≤ v2 ∧ v2 ≤ 60))) := told_is (i := 2) (lo := 0) (hi := 60) (by omega) u2 hv2 (by omega) (by omega)
    rw [y4, z5, ob3_s, if_neg (show ¬ (1 : Int32) = 0 by decide), L_X0_readItem_20, if_pos (nI_le (Nat.le_refl _) (by omega)), t0, t1, t2]
    simp only [ob1_s, bI_0]
    unfold m_X0_takeItem m_X0_takePiece
    rw [if_neg (show ¬ nI 112 = 100 by decide), if_neg (show ¬ nI 112 = 108 by decide), if_neg (show ¬ nI 112 = 109 by decide), if_pos (show nI 112 = 112 by decide), show (0 : Int32).toNatClampNeg = 0 from rfl, show (1 : Int32).toNatClampNeg = 1 from rfl, show (2 : Int32).toNatClampNeg = 2 from rfl, w0, w1, w2, u0, u1, u2, eP, eP2]
    by_cases c8 : hnp h = 8
    · left
      rw [if_pos (show (8 : Int32) ≤ nI (hnp h) from nI_le (a := 8) (by omega) (by omega)), if_pos (show nI (hnp h) = 8 from congrArg nI c8)]
      exact ⟨_, _, rfl, rfl⟩
    · rw [if_neg (show ¬ (8 : Int32) ≤ nI (hnp h) from nI_ge (b := 8) (by omega) (by omega)), if_neg (show ¬ nI (hnp h) = 8 from fun q => c8 ((pz_eq (b := 8) (by omega) (by omega)).mp q))]
      by_cases c0 : v0 ≤ 3
      · by_cases c1 : v1 ≤ 3
        · by_cases c2 : v2 ≤ 60
          · right
            obtain ⟨h', -, -, hD'⟩ := hD.piece (show hnp h < 8 by omega) (show v0 < 4 by omega) (show v1 < 4 by omega) c2
            refine ⟨pos', h', _, co, _, _, _, _, _, _, _, _, _, c4', _, _, _, _, _, _, c2', _, _, _, by omega, z2, hD', ?_, ?_⟩
            · rw [if_neg (show ¬ (4 : Int32) ≤ nI v0 from nI_ge (b := 4) (by omega) (by omega)), if_neg (show ¬ (4 : Int32) ≤ nI v1 from nI_ge (b := 4) (by omega) (by omega)), if_pos (show nI v2 ≤ 60 from nI_le (b := 60) c2 (by omega)), mv_r _ (by omega) _ (by omega), hro, pz_or, pz_ok (by omega) (by omega), gu_true, pz_cl (by omega), nI_1]
              rfl
            · rw [decide_eq_true (show 0 ≤ v0 ∧ v0 ≤ 3 by omega), decide_eq_true (show 0 ≤ v1 ∧ v1 ≤ 3 by omega), decide_eq_true (show 0 ≤ v2 ∧ v2 ≤ 60 by omega)]
              simp only [Bool.true_eq_false, if_false]
              unfold m_X6_tellsPiece
              simp (disch := omega) only [pz_l2, pz_mul, nI_1, pz_ok, gu_true, pz_cl, pv_e, ob3_s]
              rfl
          · left
            rw [decide_eq_false (show ¬ (0 ≤ v2 ∧ v2 ≤ 60) by omega), if_neg (show ¬ nI v2 ≤ 60 from nI_ge (a := 60) (by omega) (by omega))]
            simp only [if_true, ite_self]
            exact ⟨_, _, rfl, rfl⟩
        · left
          rw [decide_eq_false (show ¬ (0 ≤ v1 ∧ v1 ≤ 3) by omega), if_pos (show (4 : Int32) ≤ nI v1 from nI_le (a := 4) (by omega) (by omega))]
          simp only [if_true, ite_self]
          exact ⟨_, _, rfl, rfl⟩
      · left
        rw [decide_eq_false (show ¬ (0 ≤ v0 ∧ v0 ≤ 3) by omega), if_pos (show (4 : Int32) ≤ nI v0 from nI_le (a := 4) (by omega) (by omega))]
        simp only [if_true]
        exact ⟨_, _, rfl, rfl⟩
theorem item_deed {pos ro co : Nat} {h : Hd} {k : Nat} {V : Nat → Nat} {cpt mtx : Nat → Int32} {dP drf dD dco dL mrP mrD mrc mrL : Int32} {dki dpr dpe dpl dho dwe mrp mrr mrd : Nat → Int32} (hk : k ≤ 200) (hV : ∀ i, i < k → 32 ≤ V i ∧ V i ≤ 126 ∧ cpt i = nI (V i) ∧ mtx i = nI (V i)) (hD : DR h ro co dP drf dD dco dL dki dpr dpe dpl dho dwe mrP mrD mrc mrL mrp mrr mrd) (hp : pos < k) (nu to : Nat → Int32) :
    It k pos (L_X0_readItem_20 (nI 4) (nI 100) dP drf dD dco dL dki dpr dpe dpl dho dwe (nI k) cpt 300 nu (nI (pos + 1)) (nI 0)) (ob5 (m_X6_readDeedOf (nI k) (nI (pos + 1)) mrD mtx to mrd) (fun (x17 : Int32) (f18 : Int32) (f19 : Int32) (c20 : Nat → Int32) (c21 : Nat → Int32) => gu (okB x17) (some (x17, f18, mrP, f19, mrc, mrL, c20, mrp, mrr, c21)))) := by
  obtain ⟨⟨d1, d2, d3, d4, d5⟩, hC, hM, hro, -⟩ := id hD
  have eP := hC.2.1
  have eP2 := hM.2.1
  unfold m_X6_readDeedOf m_X6_readNumbers
  rcases num_L (x1 := nI 100) (dP := dP) (drf := drf) (dD := dD) (dco := dco) (dL := dL) (dki := dki) (dpr := dpr) (dpe := dpe) (dpl := dpl) (dho := dho) (dwe := dwe) hk hV (m := 4) (by omega) (by omega) 300 0 (pos + 1) nu to (by omega) (by omega) (by omega) (fun i hi => absurd hi (Nat.not_lt_zero i)) with ⟨p', c2', c4', z1, z2⟩ | ⟨pos', c2', c4', n', z1, z2, z3, z4, z5⟩
  · left
    have y1 : L_X6_readNumbers_2 4 (nI k) mtx 300 (nI (pos + 1)) to 0 = some (0, p', c2') := z1
    rw [y1, z2, ob3_s, if_pos rfl]
    by_cases c : mrD = 9
    · rw [if_pos c]; exact ⟨_, _, rfl, rfl⟩
    · rw [if_neg c]; exact ⟨_, _, rfl, rfl⟩
  · obtain ⟨v0, hv0, w0, u0⟩ := z3 0 (by omega)
    obtain ⟨v1, hv1, w1, u1⟩ := z3 1 (by omega)
    obtain ⟨v2, hv2, w2, u2⟩ := z3 2 (by omega)
    obtain ⟨v3, hv3, w3, u3⟩ := z3 3 (by omega)
    have y4 : L_X6_readNumbers_2 4 (nI k) mtx 300 (nI (pos + 1)) to 0 = some (1, nI pos', c2') := z4
    have t0 : m_X6_isTold 0 0 5 c2' = some (bI (decide (0 ≤ v0 ∧ v0 ≤ 5))) := told_is (i := 0) (lo := 0) (hi := 5) (by omega) u0 hv0 (by omega) (by omega)
    have t1 : m_X6_isTold 1 0 3 c2' = some (bI (decide (0 ≤ v1 ∧ v1 ≤ 3))) := told_is (i := 1) (lo := 0) (hi := 3) (by omega) u1 hv1 (by omega) (by omega)
    have t2 : m_X6_isTold 2 0 23 c2' = some (bI (decide (0 ≤ v2 ∧ v2 ≤ 23))) := told_is (i := 2) (lo := 0) (hi := 23) (by omega) u2 hv2 (by omega) (by omega)
    have t3 : m_X6_isTold 3 1 30 c2' = some (bI (decide (1 ≤ v3 ∧ v3 ≤ 30))) := told_is (i := 3) (lo := 1) (hi := 30) (by omega) u3 hv3 (by omega) (by omega)
    rw [y4, z5, ob3_s, if_neg (show ¬ (1 : Int32) = 0 by decide), L_X0_readItem_20, if_pos (nI_le (Nat.le_refl _) (by omega)), t0, t1, t2, t3]
    simp only [ob1_s, bI_0]
    unfold m_X0_takeItem m_X0_takeDeed
    rw [if_pos (show nI 100 = 100 by decide), show (0 : Int32).toNatClampNeg = 0 from rfl, show (1 : Int32).toNatClampNeg = 1 from rfl, show (2 : Int32).toNatClampNeg = 2 from rfl, show (3 : Int32).toNatClampNeg = 3 from rfl, w0, w1, w2, w3, u0, u1, u2, u3, eP, eP2]
    by_cases c8 : hnd h = 9
    · left
      rw [if_pos (show (9 : Int32) ≤ nI (hnd h) from nI_le (a := 9) (by omega) (by omega)), if_pos (show nI (hnd h) = 9 from congrArg nI c8)]
      exact ⟨_, _, rfl, rfl⟩
    · rw [if_neg (show ¬ (9 : Int32) ≤ nI (hnd h) from nI_ge (b := 9) (by omega) (by omega)), if_neg (show ¬ nI (hnd h) = 9 from fun q => c8 ((pz_eq (b := 9) (by omega) (by omega)).mp q))]
      by_cases c0 : v0 ≤ 5
      · rw [if_neg (show ¬ (6 : Int32) ≤ nI v0 from nI_ge (b := 6) (by omega) (by omega)), decide_eq_true (show 0 ≤ v0 ∧ v0 ≤ 5 by omega)]
        by_cases c1 : v1 ≤ 3
        · rw [if_neg (show ¬ (4 : Int32) ≤ nI v1 from nI_ge (b := 4) (by omega) (by omega)), decide_eq_true (show 0 ≤ v1 ∧ v1 ≤ 3 by omega)]
          by_cases c2 : v2 ≤ 23
          · rw [if_neg (show ¬ (24 : Int32) ≤ nI v2 from nI_ge (b := 24) (by omega) (by omega)), decide_eq_true (show 0 ≤ v2 ∧ v2 ≤ 23 by omega)]
            by_cases c3 : 1 ≤ v3
            · rw [if_neg (show ¬ nI v3 < 1 from e6_nlt (b := 1) c3 (by omega))]
              by_cases c4 : v3 ≤ 30
              · right
                obtain ⟨h', -, -, hD'⟩ := hD.deed (show hnd h < 9 by omega) (show v0 < 6 by omega) (show v1 < 4 by omega) (show v2 < 24 by omega) c3 c4
                refine ⟨pos', h', _, co, _, _, _, _, _, _, _, _, _, c4', _, _, _, _, _, _, c2', _, _, _, by omega, z2, hD', ?_, ?_⟩
                · rw [if_pos (show nI v3 ≤ 30 from nI_le (b := 30) c4 (by omega)), pz_ok (by omega) (by omega), pz_cl (by omega), nI_1]
                  rfl
                · rw [decide_eq_true (show 1 ≤ v3 ∧ v3 ≤ 30 by omega)]
                  simp only [Bool.true_eq_false, if_false]
                  unfold m_X6_tellsDeed
                  simp (disch := omega) only [pz_l4, pz_l2, pz_l3, pz_mul, pz_add, nI_1, pz_ok, gu_true, pz_cl, pv_e, ob2_s]
                  rfl
              · left
                rw [decide_eq_false (show ¬ (1 ≤ v3 ∧ v3 ≤ 30) by omega), if_neg (show ¬ nI v3 ≤ 30 from nI_ge (a := 30) (by omega) (by omega))]
                simp only [if_true, Bool.true_eq_false, if_false]
                exact ⟨_, _, rfl, rfl⟩
            · left
              rw [decide_eq_false (show ¬ (1 ≤ v3 ∧ v3 ≤ 30) by omega), if_pos (show nI v3 < 1 from nI_lt (b := 1) (by omega) (by omega))]
              simp only [if_true, Bool.true_eq_false, if_false]
              exact ⟨_, _, rfl, rfl⟩
          · left
            rw [decide_eq_false (show ¬ (0 ≤ v2 ∧ v2 ≤ 23) by omega), if_pos (show (24 : Int32) ≤ nI v2 from nI_le (a := 24) (by omega) (by omega))]
            simp only [if_true, Bool.true_eq_false, if_false]
            exact ⟨_, _, rfl, rfl⟩
        · left
          rw [decide_eq_false (show ¬ (0 ≤ v1 ∧ v1 ≤ 3) by omega), if_pos (show (4 : Int32) ≤ nI v1 from nI_le (a := 4) (by omega) (by omega))]
          simp only [if_true, Bool.true_eq_false, if_false]
          exact ⟨_, _, rfl, rfl⟩
      · left
        rw [decide_eq_false (show ¬ (0 ≤ v0 ∧ v0 ≤ 5) by omega), if_pos (show (6 : Int32) ≤ nI v0 from nI_le (a := 6) (by omega) (by omega))]
        simp only [if_true]
        exact ⟨_, _, rfl, rfl⟩
