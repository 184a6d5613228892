/-! THE CALLS: fault: the two drafts -/
def fN (f : Nat → Nat) (k x : Nat) : Nat → Nat := fun j => if j = k then x else f j
def DB (h : Hd) : Prop := hnp h ≤ 8 ∧ hnd h ≤ 9 ∧ hlaw h < 16 ∧ (∀ p, p < hnp h → hki h p < 4 ∧ hpr h p ≤ 60) ∧ ∀ d, d < hnd h → hpe h d < 6 ∧ hpl h d < 4 ∧ hho h d < 24 ∧ 1 ≤ hwe h d ∧ hwe h d ≤ 30
/-- the two drafts say the same -/
def DR (h : Hd) (ro co : Nat) (dP drf dD dco dL : Int32) (dki dpr dpe dpl dho dwe : Nat → Int32) (mrP mrD mrc mrL : Int32) (mrp mrr mrd : Nat → Int32) : Prop := DB h ∧ HC h dP dD dL dki dpr dpe dpl dho dwe ∧ HM h mrP mrD mrL mrp mrd ∧ drf = nI ro ∧ dco = nI co ∧ mrc = nI co ∧ co < 100 ∧ ro < 2 ^ (2 * hnp h) ∧ ∀ p, p < hnp h → mrr p = nI (rmo ro p)
theorem told_is {c : Nat → Int32} {i v lo hi : Nat} (h4 : i < 4) (e : c i = nI v) (hv : v < 100) (h1 : lo < 1000) (h2 : hi < 1000) : m_X6_isTold (nI i) (nI lo) (nI hi) c = some (bI (decide (lo ≤ v ∧ v ≤ hi))) := by
  unfold m_X6_isTold
  rw [pz_ok (by omega) (by omega), gu_true, pz_cl (by omega), e, x6_in _ lo hi (by omega) (by omega), ob1_s, gu_okb, inR_iff (by omega)]
theorem DR.law {h : Hd} {ro co v : Nat} {dP drf dD dco dL mrP mrD mrc mrL : Int32} {dki dpr dpe dpl dho dwe mrp mrr mrd : Nat → Int32} (hD : DR h ro co dP drf dD dco dL dki dpr dpe dpl dho dwe mrP mrD mrc mrL mrp mrr mrd) (hv : v < 4) : ∃ h', DR h' ro co dP drf dD dco (nI (hlaw h ||| 2 ^ v)) dki dpr dpe dpl dho dwe mrP mrD mrc (nI (hlaw h ||| 2 ^ v)) mrp mrr mrd := by
  obtain ⟨⟨d1, d2, d3, d4, d5⟩, ⟨c1, c2, c3, c4, c5⟩, ⟨m1, m2, m3, m4, m5⟩, r⟩ := hD
  have hp : 2 ^ v < 2 ^ 4 := Nat.pow_lt_pow_right (by decide) hv
  exact ⟨((hnp h, hnd h, hlaw h ||| 2 ^ v), h.2.1, h.2.2), ⟨d1, d2, Nat.or_lt_two_pow (n := 4) d3 hp, d4, d5⟩, ⟨c1, c2, rfl, c4, c5⟩, ⟨m1, m2, rfl, m4, m5⟩, r⟩
theorem DR.coin {h : Hd} {ro co v : Nat} {dP drf dD dco dL mrP mrD mrc mrL : Int32} {dki dpr dpe dpl dho dwe mrp mrr mrd : Nat → Int32} (hD : DR h ro co dP drf dD dco dL dki dpr dpe dpl dho dwe mrP mrD mrc mrL mrp mrr mrd) (hv : v < 100) : DR h ro v dP drf dD (nI v) dL dki dpr dpe dpl dho dwe mrP mrD (nI v) mrL mrp mrr mrd := by
  obtain ⟨d, c, m, r1, r2, r3, r4, r5, r6⟩ := hD
  exact ⟨d, c, m, r1, rfl, rfl, hv, r5, r6⟩
theorem DR.deed {h : Hd} {ro co a b c w : Nat} {dP drf dD dco dL mrP mrD mrc mrL : Int32} {dki dpr dpe dpl dho dwe mrp mrr mrd : Nat → Int32} (hD : DR h ro co dP drf dD dco dL dki dpr dpe dpl dho dwe mrP mrD mrc mrL mrp mrr mrd) (hn : hnd h < 9) (ha : a < 6) (hb : b < 4) (hc : c < 24) (hw1 : 1 ≤ w) (hw : w ≤ 30) : ∃ h', hnp h' = hnp h ∧ hnd h' = hnd h + 1 ∧ DR h' ro co dP drf (nI (hnd h + 1)) dco dL dki dpr (upd dpe (hnd h) (nI a)) (upd dpl (hnd h) (nI b)) (upd dho (hnd h) (nI c)) (upd dwe (hnd h) (nI w)) mrP (nI (hnd h + 1)) mrc mrL mrp mrr (upd (upd (upd (upd mrd (4 * hnd h) (nI a)) (4 * hnd h + 1) (nI b)) (4 * hnd h + 2) (nI c)) (4 * hnd h + 3) (nI w)) := by
  obtain ⟨⟨d1, d2, d3, d4, d5⟩, ⟨c1, c2, c3, c4, c5⟩, ⟨m1, m2, m3, m4, m5⟩, r⟩ := hD
  refine ⟨((hnp h, hnd h + 1, hlaw h), h.2.1, (fN (hpe h) (hnd h) a, fN (hpl h) (hnd h) b, fN (hho h) (hnd h) c, fN (hwe h) (hnd h) w)), rfl, rfl, ⟨d1, hn, d3, d4, fun d hd => ?_⟩, ⟨c1, rfl, c3, c4, fun d hd => ?_⟩, ⟨m1, rfl, m3, m4, fun d hd => ?_⟩, r⟩
  · show fN (hpe h) (hnd h) a d < 6 ∧ fN (hpl h) (hnd h) b d < 4 ∧ fN (hho h) (hnd h) c d < 24 ∧ 1 ≤ fN (hwe h) (hnd h) w d ∧ fN (hwe h) (hnd h) w d ≤ 30
    unfold fN
    by_cases e : d = hnd h
    · simp only [if_pos e]; exact ⟨ha, hb, hc, hw1, hw⟩
    · simp only [if_neg e]; exact d5 d (by have : d < hnd h + 1 := hd; omega)
  · show upd dpe (hnd h) (nI a) d = nI (fN (hpe h) (hnd h) a d) ∧ upd dpl (hnd h) (nI b) d = nI (fN (hpl h) (hnd h) b d) ∧ upd dho (hnd h) (nI c) d = nI (fN (hho h) (hnd h) c d) ∧ upd dwe (hnd h) (nI w) d = nI (fN (hwe h) (hnd h) w d)
    unfold fN
    by_cases e : d = hnd h
    · subst e; simp only [if_true, upd_s]; exact ⟨trivial, trivial, trivial, trivial⟩
    · rw [upd_n e, upd_n e, upd_n e, upd_n e, if_neg e, if_neg e, if_neg e, if_neg e]; exact c5 d (by have : d < hnd h + 1 := hd; omega)
  · show _ = nI (fN (hpe h) (hnd h) a d) ∧ _ = nI (fN (hpl h) (hnd h) b d) ∧ _ = nI (fN (hho h) (hnd h) c d) ∧ _ = nI (fN (hwe h) (hnd h) w d)
    unfold fN
    by_cases e : d = hnd h
    · subst e
      refine ⟨?_, ?_, ?_, ?_⟩
      · rw [upd_n (by omega), upd_n (by omega), upd_n (by omega), upd_s, if_pos rfl]
      · rw [upd_n (by omega), upd_n (by omega), upd_s, if_pos rfl]
      · rw [upd_n (by omega), upd_s, if_pos rfl]
      · rw [upd_s, if_pos rfl]
    · have k := m5 d (by have : d < hnd h + 1 := hd; omega)
      rw [if_neg e, if_neg e, if_neg e, if_neg e]
      refine ⟨?_, ?_, ?_, ?_⟩ <;> rw [upd_n (by omega), upd_n (by omega), upd_n (by omega), upd_n (by omega)]
      · exact k.1
      · exact k.2.1
      · exact k.2.2.1
      · exact k.2.2.2
theorem DR.piece {h : Hd} {ro co a b c : Nat} {dP drf dD dco dL mrP mrD mrc mrL : Int32} {dki dpr dpe dpl dho dwe mrp mrr mrd : Nat → Int32} (hD : DR h ro co dP drf dD dco dL dki dpr dpe dpl dho dwe mrP mrD mrc mrL mrp mrr mrd) (hn : hnp h < 8) (ha : a < 4) (hb : b < 4) (hc : c ≤ 60) : ∃ h', hnp h' = hnp h + 1 ∧ hnd h' = hnd h ∧ DR h' (ro ||| b * 2 ^ (2 * hnp h)) co (nI (hnp h + 1)) (nI (ro ||| b * 2 ^ (2 * hnp h))) dD dco dL (upd dki (hnp h) (nI a)) (upd dpr (hnp h) (nI c)) dpe dpl dho dwe (nI (hnp h + 1)) mrD mrc mrL (upd (upd mrp (2 * hnp h) (nI a)) (2 * hnp h + 1) (nI c)) (upd mrr (hnp h) (nI b)) mrd := by
  obtain ⟨⟨d1, d2, d3, d4, d5⟩, ⟨c1, c2, c3, c4, c5⟩, ⟨m1, m2, m3, m4, m5⟩, r1, r2, r3, r4, r5, r6⟩ := hD
  have hro : ro < 65536 := Nat.lt_of_lt_of_le r5 (show 2 ^ (2 * hnp h) ≤ 2 ^ 16 from Nat.pow_le_pow_right (by decide) (by omega))
  have hnn : nd ro (3 * 2 ^ (2 * hnp h)) = ro := bits_ext (n := 32) (Nat.lt_of_le_of_lt (nd_le _ _) (by omega)) (by omega) (fun i hi => by
    rw [nd_bit _ _ _ hi, mv_b3 _ hn i hi]
    by_cases q : i < 2 * hnp h
    · rw [decide_eq_false (show ¬ i = 2 * hnp h by omega), decide_eq_false (show ¬ i = 2 * hnp h + 1 by omega)]; simp
    · rw [Nat.testBit_lt_two_pow (Nat.lt_of_lt_of_le r5 (Nat.pow_le_pow_right (by decide) (show 2 * hnp h ≤ i by omega)))]; rfl)
  have e : ro ||| b * 2 ^ (2 * hnp h) = mvN ro (hnp h) b := by unfold mvN; rw [hnn]
  have h22 : (2 : Nat) ^ (2 * (hnp h + 1)) = 4 * 2 ^ (2 * hnp h) := by
    rw [show 2 * (hnp h + 1) = 2 * hnp h + 2 by omega, Nat.pow_add, Nat.mul_comm]
  refine ⟨((hnp h + 1, hnd h, hlaw h), (fN (hki h) (hnp h) a, fN (hpr h) (hnp h) c), h.2.2), rfl, rfl, ⟨hn, d2, d3, fun p hp => ?_, d5⟩, ⟨rfl, c2, c3, fun p hp => ?_, c5⟩, ⟨rfl, m2, m3, fun p hp => ?_, m5⟩, rfl, r2, r3, r4, ?_, fun p hp => ?_⟩
  · show fN (hki h) (hnp h) a p < 4 ∧ fN (hpr h) (hnp h) c p ≤ 60
    unfold fN
    by_cases e : p = hnp h
    · simp only [if_pos e]; exact ⟨ha, hc⟩
    · simp only [if_neg e]; exact d4 p (by have : p < hnp h + 1 := hp; omega)
  · show upd dki (hnp h) (nI a) p = nI (fN (hki h) (hnp h) a p) ∧ upd dpr (hnp h) (nI c) p = nI (fN (hpr h) (hnp h) c p)
    unfold fN
    by_cases e : p = hnp h
    · subst e; simp only [if_true, upd_s]; exact ⟨trivial, trivial⟩
    · rw [upd_n e, upd_n e, if_neg e, if_neg e]; exact c4 p (by have : p < hnp h + 1 := hp; omega)
  · show _ = nI (fN (hki h) (hnp h) a p) ∧ _ = nI (fN (hpr h) (hnp h) c p)
    unfold fN
    by_cases e : p = hnp h
    · subst e
      refine ⟨?_, ?_⟩
      · rw [upd_n (by omega), upd_s, if_pos rfl]
      · rw [upd_s, if_pos rfl]
    · have k := m4 p (by have : p < hnp h + 1 := hp; omega)
      rw [if_neg e, if_neg e]
      refine ⟨?_, ?_⟩ <;> rw [upd_n (by omega), upd_n (by omega)]
      · exact k.1
      · exact k.2
  · show ro ||| b * 2 ^ (2 * hnp h) < 2 ^ (2 * (hnp h + 1))
    refine Nat.or_lt_two_pow (by rw [h22]; omega) ?_
    rw [h22]
    exact Nat.mul_lt_mul_of_pos_right hb (Nat.two_pow_pos _)
  · show upd mrr (hnp h) (nI b) p = nI (rmo (ro ||| b * 2 ^ (2 * hnp h)) p)
    have hp' : p < hnp h + 1 := hp
    rw [e, mvN_rmo hn hb (by omega)]
    by_cases e : p = hnp h
    · subst e; rw [upd_s, if_pos rfl]
    · rw [upd_n e, if_neg e]; exact r6 p (by omega)
