/-! BASE: boolean regions, ranges -/
theorem ob1_s {A1 R : Type} (a1 : A1) (f : A1 → Option R) : ob1 (some a1) f = f a1 := rfl
theorem pv_e {α β : Type} (x : α) (f : α → β) : pv x f = f x := rfl
theorem gu_okb {α : Type} (b : Bool) (t : Option α) : gu (okB (bI b)) t = t := by rw [bI_ok]; rfl
theorem bz_10 {c : Prop} [Decidable c] : (if c then some (1 : Int32) else some (0 : Int32)) = some (bI (decide c)) := by by_cases h : c <;> simp [h, bI]
theorem bz_01 {c : Prop} [Decidable c] : (if c then some (0 : Int32) else some (1 : Int32)) = some (bI (!decide c)) := by by_cases h : c <;> simp [h, bI]
theorem bz_1b {c : Prop} [Decidable c] {b : Bool} : (if c then some (1 : Int32) else some (bI b)) = some (bI (decide c || b)) := by by_cases h : c <;> simp [h, bI]
theorem bz_b1 {c : Prop} [Decidable c] {b : Bool} : (if c then some (bI b) else some (1 : Int32)) = some (bI (!decide c || b)) := by by_cases h : c <;> simp [h, bI]
theorem bz_0b {c : Prop} [Decidable c] {b : Bool} : (if c then some (0 : Int32) else some (bI b)) = some (bI (!decide c && b)) := by by_cases h : c <;> simp [h, bI]
theorem bz_b0 {c : Prop} [Decidable c] {b : Bool} : (if c then some (bI b) else some (0 : Int32)) = some (bI (decide c && b)) := by by_cases h : c <;> simp [h, bI]
theorem bz_bb {c : Prop} [Decidable c] {a b : Bool} : (if c then some (bI a) else some (bI b)) = some (bI (bif decide c then a else b)) := by by_cases h : c <;> simp [h]
def inR (a : Int32) (lo hi : Nat) : Bool := decide ((lo : Int) ≤ a.toInt ∧ a.toInt ≤ (hi : Int))
theorem inR_of {a : Int32} {lo hi : Nat} (h : inR a lo hi = true) (hh : hi < 2147483647) : ∃ j, lo ≤ j ∧ j ≤ hi ∧ a = nI j := by
  have h1 := of_decide_eq_true h
  have h2 : vp_in a (hi + 1) := vp_in_iff.mpr ⟨by omega, by omega⟩
  obtain ⟨j, hj, rfl⟩ := vp_in_of h2 (by omega)
  rw [nI_toInt (by omega)] at h1
  exact ⟨j, by omega, by omega, rfl⟩
theorem inR_nI {j lo hi : Nat} (h1 : lo ≤ j) (h2 : j ≤ hi) (hh : hi < 2147483648) : inR (nI j) lo hi = true := by
  unfold inR
  rw [nI_toInt (by omega)]
  exact decide_eq_true ⟨by omega, by omega⟩
theorem inR_iff {j lo hi : Nat} (hj : j < 2147483648) : inR (nI j) lo hi = decide (lo ≤ j ∧ j ≤ hi) := by
  unfold inR
  rw [nI_toInt hj]
  apply decide_eq_decide.mpr
  omega
theorem okI_of {a : Int32} {n : Nat} (h : okI a n = true) (hn : n < 2147483648) : ∃ j, j < n ∧ a = nI j := vp_in_of (okI_in h) hn
theorem x5_within (a : Int32) (lo hi : Nat) (h1 : lo < 2147483648) (h2 : hi < 2147483648) : m_X5_isWithin a (nI lo) (nI hi) = some (bI (inR a lo hi)) := by
  unfold m_X5_isWithin inR
  rw [bz_01, bz_0b]
  congr 2
  simp only [Int32.lt_iff_toInt_lt, nI_toInt h1, nI_toInt h2]
  by_cases c1 : a.toInt < (lo : Int) <;> by_cases c2 : (hi : Int) < a.toInt <;> simp [c1, c2] <;> omega
theorem x6_in (a : Int32) (lo hi : Nat) (h1 : lo < 2147483648) (h2 : hi < 2147483648) : m_X6_in a (nI lo) (nI hi) = some (bI (inR a lo hi)) := x5_within a lo hi h1 h2
theorem x5_below (a : Int32) (n : Nat) (hn : n < 1000000) : m_X5_isWithin a 0 (nI n - 1) = some (bI (okI a n)) := by
  unfold m_X5_isWithin okI
  rw [bz_01, bz_0b]
  congr 2
  have e : (nI n - 1).toInt = (n : Int) - 1 := pk_sub_toInt (a := n) (b := 1) (by omega) (by decide)
  simp only [Int32.lt_iff_toInt_lt, e, Int32.toInt_zero]
  by_cases c1 : a.toInt < 0 <;> by_cases c2 : (n : Int) - 1 < a.toInt <;> simp [c1, c2] <;> omega
theorem x6_below (a : Int32) (n : Nat) (hn : n < 1000000) : m_X6_in a 0 (nI n - 1) = some (bI (okI a n)) := x5_below a n hn
theorem x5_piece (a : Int32) (n : Nat) (hn : n < 1000000) : m_X5_isPiece a (nI n) = some (bI (okI a n)) := by
  unfold m_X5_isPiece
  rw [x5_below a n hn, ob1_s, gu_okb]
theorem x5_deed (a : Int32) (n : Nat) (hn : n < 1000000) : m_X5_isDeed a (nI n) = some (bI (okI a n)) := by
  unfold m_X5_isDeed
  rw [x5_below a n hn, ob1_s, gu_okb]
theorem x6_piece (a : Int32) (n : Nat) (hn : n < 1000000) : m_X6_isPiece a (nI n) = some (bI (okI a n)) := by
  unfold m_X6_isPiece
  rw [x6_below a n hn, ob1_s, gu_okb]
theorem x6_deed (a : Int32) (n : Nat) (hn : n < 1000000) : m_X6_isDeed a (nI n) = some (bI (okI a n)) := by
  unfold m_X6_isDeed
  rw [x6_below a n hn, ob1_s, gu_okb]
theorem x5_person (a : Int32) : m_X5_isPerson a = some (bI (inR a 0 5)) := by
  unfold m_X5_isPerson
  rw [pz_l0, pz_l5, x5_within a 0 5 (by decide) (by decide), ob1_s, gu_okb]
theorem x6_has {S d : Nat} (hS : S < 2147483648) (hd : d < 32) : m_X6_has (nI S) (nI d) = some (bI (S.testBit d)) := by
  unfold m_X6_has
  rw [bz_10]
  congr 2
  simp only [pz_bit hS hd]
  simp
theorem x0_forbids {S d : Nat} (hS : S < 2147483648) (hd : d < 32) : m_X0_forbids (nI d) (nI S) = some (bI (S.testBit d)) := by
  unfold m_X0_forbids
  rw [bz_10]
  congr 2
  simp only [pz_bit hS hd]
  simp
theorem x5_out {S d : Nat} (hS : S < 2147483648) (hd : d < 32) : m_X5_hasComeOut (nI d) (nI S) = some (bI (S.testBit d)) := by
  unfold m_X5_hasComeOut
  rw [bz_10]
  congr 2
  simp only [pz_bit hS hd]
  simp
/-- how a piece is: by the bits of what is bought and spoken -/
def hw (bo sp p : Nat) : Nat := if sp.testBit p = true then 2 else if bo.testBit p = true then 1 else 0
def rmo (rooms p : Nat) : Nat := rooms / 2 ^ (2 * p) % 4
theorem x4_how {bo sp p : Nat} (hb : bo < 2147483648) (hs : sp < 2147483648) (hp : p < 32) : m_X4_howIs (nI p) (nI bo) (nI sp) = some (nI (hw bo sp p)) := by
  unfold m_X4_howIs hw
  simp only [pz_bit hs hp, pz_bit hb hp]
  by_cases h1 : sp.testBit p = true <;> by_cases h2 : bo.testBit p = true <;> simp [h1, h2] <;> rfl
theorem x4_room {rooms p : Nat} (hr : rooms < 2147483648) (hp : p < 15) : m_X4_roomOf (nI p) (nI rooms) = some (nI (rmo rooms p)) := by
  unfold m_X4_roomOf rmo
  rw [pz_l2, pz_mul, pz_shr hr (by omega), pz_l3, pz_and, show (3 : Nat) = 2 ^ 2 - 1 by decide, Nat.and_two_pow_sub_one_eq_mod]
theorem x5_loose {law bo sp p : Nat} {ki : Nat} {cki : Nat → Int32} (hl : law < 2147483648) (hb : bo < 2147483648) (hs : sp < 2147483648) (hp : p < 8) (hk : cki p = nI ki) (hki : ki < 32) : m_X5_isLoose (nI p) (nI bo) (nI sp) (nI law) cki = some (bI (decide (hw bo sp p = 0) && !law.testBit ki)) := by
  unfold m_X5_isLoose
  have hw3 : hw bo sp p < 3 := by unfold hw; split <;> (try split) <;> omega
  rw [x4_how hb hs (by omega), ob1_s, pz_ok hp (by decide), gu_true, pz_cl (by omega), hk, x0_forbids hl hki, ob1_s]
  have e0 : (nI (hw bo sp p) = 0) = (hw bo sp p = 0) := by rw [pz_l0, pz_eq (by omega) (by decide)]
  simp only [bI_0, e0]
  rw [show (if law.testBit ki = false then some (1 : Int32) else some 0) = some (bI (!law.testBit ki)) by cases law.testBit ki <;> rfl, bz_b0]
