/-! THE RELATION between the class's state and the reference's, in pieces -/
/-- a house laid: how many pieces, deeds, the law; kinds, prices; persons, places, hours, weights -/
abbrev Hd : Type := (Nat × Nat × Nat) × ((Nat → Nat) × (Nat → Nat)) × ((Nat → Nat) × (Nat → Nat) × (Nat → Nat) × (Nat → Nat))
abbrev hnp (h : Hd) : Nat := h.1.1
abbrev hnd (h : Hd) : Nat := h.1.2.1
abbrev hlaw (h : Hd) : Nat := h.1.2.2
abbrev hki (h : Hd) : Nat → Nat := h.2.1.1
abbrev hpr (h : Hd) : Nat → Nat := h.2.1.2
abbrev hpe (h : Hd) : Nat → Nat := h.2.2.1
abbrev hpl (h : Hd) : Nat → Nat := h.2.2.2.1
abbrev hho (h : Hd) : Nat → Nat := h.2.2.2.2.1
abbrev hwe (h : Hd) : Nat → Nat := h.2.2.2.2.2
/-- the numbers are within -/
def HB (h : Hd) : Prop := 1 ≤ hnp h ∧ hnp h ≤ 8 ∧ hnd h ≤ 9 ∧ hlaw h < 16 ∧ (∀ p, p < hnp h → hki h p < 4 ∧ hpr h p ≤ 60) ∧ ∀ d, d < hnd h → hpe h d < 6 ∧ hpl h d < 4 ∧ hho h d < 24 ∧ 1 ≤ hwe h d ∧ hwe h d ≤ 30
/-- the class's house -/
def HC (h : Hd) (cP cD cL : Int32) (cki cpr cpe cpl cho cwe : Nat → Int32) : Prop := cP = nI (hnp h) ∧ cD = nI (hnd h) ∧ cL = nI (hlaw h) ∧ (∀ p, p < hnp h → cki p = nI (hki h p) ∧ cpr p = nI (hpr h p)) ∧ ∀ d, d < hnd h → cpe d = nI (hpe h d) ∧ cpl d = nI (hpl h d) ∧ cho d = nI (hho h d) ∧ cwe d = nI (hwe h d)
/-- the reference's -/
def HM (h : Hd) (mP mD mL : Int32) (mp md : Nat → Int32) : Prop := mP = nI (hnp h) ∧ mD = nI (hnd h) ∧ mL = nI (hlaw h) ∧ (∀ p, p < hnp h → mp (2 * p) = nI (hki h p) ∧ mp (2 * p + 1) = nI (hpr h p)) ∧ ∀ d, d < hnd h → md (4 * d) = nI (hpe h d) ∧ md (4 * d + 1) = nI (hpl h d) ∧ md (4 * d + 2) = nI (hho h d) ∧ md (4 * d + 3) = nI (hwe h d)
def RH (h : Hd) (cP cD cL : Int32) (cki cpr cpe cpl cho cwe : Nat → Int32) (mP mD mL : Int32) (mp md : Nat → Int32) : Prop := HB h ∧ HC h cP cD cL cki cpr cpe cpl cho cwe ∧ HM h mP mD mL mp md
def NC (s : Sd) (cro cbo csp cou cco : Int32) : Prop := cro = nI s.1 ∧ cbo = nI s.2.1 ∧ csp = nI s.2.2.1 ∧ cou = nI s.2.2.2.1 ∧ cco = nI s.2.2.2.2
def RN (h : Hd) (s : Sd) (cro cbo csp cou cco : Int32) (st : Nat → Int32) : Prop := CS (hnp h) (hnd h) s ∧ NC s cro cbo csp cou cco ∧ MS (hnp h) s st
def RP (h : Hd) (next depth : Int32) (ring : Nat → Int64) (acts : Int32) (was : Nat → Int32) : Prop := ∃ (k x : Nat) (hist : Nat → Sd), k ≤ 8 ∧ x < 8 ∧ next = nI x ∧ depth = nI k ∧ acts = nI k ∧ ∀ i, i < k → CS (hnp h) (hnd h) (hist i) ∧ ring ((x + 7 - i) % 8) = pkS (hist i) ∧ MS (hnp h) (hist i) (fun j => was (18 * (k - 1 - i) + j))
def RK (h : Hd) (kc : Int32) (kept : Nat → Int64) (keeps : Int32) (mk : Nat → Int32) : Prop := ∃ (k : Nat) (hist : Nat → Sd), k ≤ 2 ∧ kc = nI k ∧ keeps = nI k ∧ ∀ i, i < k → CS (hnp h) (hnd h) (hist i) ∧ kept i = pkS (hist i) ∧ MS (hnp h) (hist i) (fun j => mk (18 * i + j))
def RS (h : Hd) (len : Int32) (sp sd te : Nat → Int32) (seens : Int32) (seen : Nat → Int32) : Prop := ∃ (k : Nat) (P D : Nat → Nat) (B : Nat → Bool), k ≤ 6 ∧ len = nI k ∧ seens = nI k ∧ ∀ i, i < k → P i < hnp h ∧ D i < hnd h ∧ sp i = nI (P i) ∧ sd i = nI (D i) ∧ te i = bI (B i) ∧ seen (3 * i) = nI (P i) ∧ seen (3 * i + 1) = nI (D i) ∧ seen (3 * i + 2) = bI (B i)
def RT (len : Int32) (letters : Nat → Int32) (mlen : Int32) (mtext : Nat → Int32) : Prop := ∃ (k : Nat) (V : Nat → Nat), k ≤ 200 ∧ len = nI k ∧ mlen = nI k ∧ ∀ i, i < k → 32 ≤ V i ∧ V i ≤ 126 ∧ letters i = nI (V i) ∧ mtext i = nI (V i)
/-! the views: what each piece tells, which are loose -/
abbrev vT (h : Hd) (s : Sd) (p : Nat) : Nat := toldS (hnd h) (hpl h) (hho h) (hwe h) (hki h p) (rmo s.1 p)
abbrev vL (h : Hd) (s : Sd) (p : Nat) : Bool := decide (hw s.2.1 s.2.2.1 p = 0) && !(hlaw h).testBit (hki h p)
theorem rmo_lt (r p : Nat) : rmo r p < 4 := Nat.mod_lt _ (by decide)
theorem hw_lt (b s p : Nat) : hw b s p < 3 := by unfold hw; split <;> (try split) <;> omega
theorem vT_lt {h : Hd} (hB : HB h) (s : Sd) (p : Nat) : vT h s p < 512 := by
  have h1 := bts_lt (tellS (hnd h) (hpl h) (hho h) (hwe h) (hki h p) (rmo s.1 p)) (hnd h)
  have h2 : 2 ^ hnd h ≤ 2 ^ 9 := Nat.pow_le_pow_right (by decide) hB.2.2.1
  exact Nat.lt_of_lt_of_le h1 h2
theorem vT_lt2 {h : Hd} (s : Sd) (p : Nat) : vT h s p < 2 ^ hnd h := bts_lt _ _
theorem v5_room {h : Hd} {np nd : Nat} {s : Sd} {cro : Int32} (hS : CS np nd s) (e : cro = nI s.1) {p : Nat} (hp : p < 8) : m_X4_roomOf (nI p) cro = some (nI (rmo s.1 p)) := by
  subst e
  exact x4_room (Nat.lt_trans hS.1 (by decide)) (by omega)
theorem v5_told {h : Hd} {s : Sd} {cro cP cD cL : Int32} {cki cpr cpe cpl cho cwe : Nat → Int32} (hB : HB h) (hC : HC h cP cD cL cki cpr cpe cpl cho cwe) (hS : CS (hnp h) (hnd h) s) (e : cro = nI s.1) :
    ∀ p, p < hnp h → m_X4_roomOf (nI p) cro = some (nI (rmo s.1 p)) ∧ m_X0_toldBy (nI p) (nI (rmo s.1 p)) cD cpl cki cho cwe = some (nI (vT h s p)) ∧ vT h s p < 512 := by
  intro p hp
  obtain ⟨b1, b2, b3, b4, b5, b6⟩ := id hB
  obtain ⟨-, rfl, -, c4, c5⟩ := hC
  refine ⟨v5_room (h := h) hS e (by omega), ?_, vT_lt hB s p⟩
  exact x0_told b3 (fun j hj => ⟨(c5 j hj).2.1, by have := b6 j hj; omega⟩) (fun j hj => ⟨(c5 j hj).2.2.1, by have := b6 j hj; omega⟩) (fun j hj => ⟨(c5 j hj).2.2.2, by have := b6 j hj; omega⟩) (by omega) (c4 p hp).1 (b5 p hp).1 (by have := rmo_lt s.1 p; omega)
theorem v5_how {np nd : Nat} {s : Sd} {cbo csp : Int32} (hS : CS np nd s) (hp8 : np ≤ 8) (hd9 : nd ≤ 9) (e1 : cbo = nI s.2.1) (e2 : csp = nI s.2.2.1) {p : Nat} (hp : p < 8) : m_X4_howIs (nI p) cbo csp = some (nI (hw s.2.1 s.2.2.1 p)) := by
  obtain ⟨-, s2, s3, -⟩ := hS.small hp8 hd9
  subst e1; subst e2
  exact x4_how (by omega) (by omega) (by omega)
theorem v5_loose {h : Hd} {s : Sd} {cbo csp cP cD cL : Int32} {cki cpr cpe cpl cho cwe : Nat → Int32} (hB : HB h) (hC : HC h cP cD cL cki cpr cpe cpl cho cwe) (hS : CS (hnp h) (hnd h) s) (e1 : cbo = nI s.2.1) (e2 : csp = nI s.2.2.1) :
    ∀ p, p < hnp h → m_X5_isLoose (nI p) cbo csp cL cki = some (bI (vL h s p)) := by
  intro p hp
  obtain ⟨b1, b2, b3, b4, b5, b6⟩ := id hB
  obtain ⟨-, -, rfl, c4, c5⟩ := hC
  obtain ⟨-, s2, s3, -⟩ := hS.small b2 b3
  subst e1; subst e2
  exact x5_loose (by omega) (by omega) (by omega) (by omega) (c4 p hp).1 (by have := (b5 p hp).1; omega)
theorem v6_does {h : Hd} {s : Sd} {mP mD mL : Int32} {mp md now : Nat → Int32} (hB : HB h) (hM : HM h mP mD mL mp md) (hN : MS (hnp h) s now) :
    ∀ p d, p < hnp h → d < hnd h → m_X6_doesTell (nI p) (nI d) mD md now mp = some (bI (tellS (hnd h) (hpl h) (hho h) (hwe h) (hki h p) (rmo s.1 p) d)) := by
  intro p d hp hd
  obtain ⟨b1, b2, b3, b4, b5, b6⟩ := id hB
  obtain ⟨-, rfl, -, c4, c5⟩ := hM
  exact x6_does (by omega) (fun j hj => ⟨(c5 j hj).2.1, by have := b6 j hj; omega⟩) (fun j hj => ⟨(c5 j hj).2.2.1, by have := b6 j hj; omega⟩) (fun j hj => ⟨(c5 j hj).2.2.2, by have := b6 j hj; omega⟩) hd (by omega) (hN.2.2 p hp).1 (by have := rmo_lt s.1 p; omega) (c4 p hp).1 (b5 p hp).1
theorem v6_told {h : Hd} {s : Sd} {mP mD mL : Int32} {mp md now : Nat → Int32} (hB : HB h) (hM : HM h mP mD mL mp md) (hN : MS (hnp h) s now) :
    ∀ p, p < hnp h → m_X6_toldBy (nI p) mD md now mp = some (nI (vT h s p)) := by
  intro p hp
  have h1 := v6_does hB hM hN p
  obtain ⟨-, rfl, -, c4, c5⟩ := hM
  exact r_told hB.2.2.1 (fun d hd => h1 d hp hd)
theorem v6_loose {h : Hd} {s : Sd} {mP mD mL : Int32} {mp md now : Nat → Int32} (hB : HB h) (hM : HM h mP mD mL mp md) (hN : MS (hnp h) s now) :
    ∀ p, p < hnp h → m_X6_isLoose (nI p) mL now mp = some (bI (vL h s p)) := by
  intro p hp
  obtain ⟨b1, b2, b3, b4, b5, b6⟩ := id hB
  obtain ⟨-, -, rfl, c4, c5⟩ := hM
  exact x6_loose (by omega) (by omega) (hN.2.2 p hp).2 (hw_lt _ _ _) (c4 p hp).1 (by have := (b5 p hp).1; omega)
