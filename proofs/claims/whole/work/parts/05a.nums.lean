/-! NUMBERS: the lifted functions' Int32 words as natural numbers -/
def bI (b : Bool) : Int32 := if b = true then 1 else 0
theorem bI_0 (b : Bool) : (bI b = 0) = (b = false) := by cases b <;> decide
theorem bI_1 (b : Bool) : (bI b = 1) = (b = true) := by cases b <;> decide
theorem bI_t : bI true = 1 := rfl
theorem bI_f : bI false = 0 := rfl
theorem bI_ok (b : Bool) : okB (bI b) = true := by cases b <;> rfl
theorem bI_nI (b : Bool) : bI b = nI (if b = true then 1 else 0) := by cases b <;> rfl
theorem pz_le {a b : Nat} (ha : a < 2147483648) (hb : b < 2147483648) : (nI a ≤ nI b) = (a ≤ b) := propext (nI_leI ha hb)
theorem pz_lt {a b : Nat} (ha : a < 2147483648) (hb : b < 2147483648) : (nI a < nI b) = (a < b) := propext (nI_ltI ha hb)
theorem pz_eq {a b : Nat} (ha : a < 2147483648) (hb : b < 2147483648) : (nI a = nI b) = (a = b) := propext (nI_eq ha hb)
theorem pz_add (a b : Nat) : nI a + nI b = nI (a + b) := nI_add a b
theorem pz_mul (a b : Nat) : nI a * nI b = nI (a * b) := pk_mul a b
theorem pz_sub {a b : Nat} (h : b ≤ a) : nI a - nI b = nI (a - b) := pk_sub h
theorem pz_cl {a : Nat} (h : a < 2147483648) : (nI a).toNatClampNeg = a := nI_clamp h
theorem pz_ok {i n : Nat} (h : i < n) (hn : n < 2147483648) : okI (nI i) n = true := by
  unfold okI
  rw [nI_toInt (by omega)]
  exact decide_eq_true ⟨by omega, by omega⟩
theorem pz_l0 : (0 : Int32) = nI 0 := rfl
theorem pz_l1 : (1 : Int32) = nI 1 := rfl
theorem pz_l2 : (2 : Int32) = nI 2 := rfl
theorem pz_l3 : (3 : Int32) = nI 3 := rfl
theorem pz_l4 : (4 : Int32) = nI 4 := rfl
theorem pz_l5 : (5 : Int32) = nI 5 := rfl
theorem pz_l6 : (6 : Int32) = nI 6 := rfl
theorem pz_l7 : (7 : Int32) = nI 7 := rfl
theorem pz_l8 : (8 : Int32) = nI 8 := rfl
theorem pz_l9 : (9 : Int32) = nI 9 := rfl
theorem pz_l10 : (10 : Int32) = nI 10 := rfl
theorem pz_l12 : (12 : Int32) = nI 12 := rfl
theorem pz_l16 : (16 : Int32) = nI 16 := rfl
theorem pz_l18 : (18 : Int32) = nI 18 := rfl
theorem pz_l23 : (23 : Int32) = nI 23 := rfl
theorem pz_l24 : (24 : Int32) = nI 24 := rfl
theorem pz_l30 : (30 : Int32) = nI 30 := rfl
theorem pz_l32 : (32 : Int32) = nI 32 := rfl
theorem pz_l40 : (40 : Int32) = nI 40 := rfl
theorem pz_l48 : (48 : Int32) = nI 48 := rfl
theorem pz_l57 : (57 : Int32) = nI 57 := rfl
theorem pz_l60 : (60 : Int32) = nI 60 := rfl
theorem pz_l126 : (126 : Int32) = nI 126 := rfl
theorem pz_l200 : (200 : Int32) = nI 200 := rfl
theorem pz_l9999 : (9999 : Int32) = nI 9999 := rfl
theorem pz_tn {n : Nat} (h : n < 4294967296) : (nI n).toBitVec.toNat = n := pk_tn h
theorem pz_bv (n : Nat) : (nI n).toBitVec = BitVec.ofNat 32 n := rfl
theorem pz_inj {a b : Int32} (h : a.toBitVec = b.toBitVec) : a = b := Int32.toBitVec_inj.mp h
theorem pz_or (a b : Nat) : nI a ||| nI b = nI (a ||| b) := by
  apply pz_inj
  rw [Int32.toBitVec_or, pz_bv, pz_bv, pz_bv]
  apply BitVec.eq_of_toNat_eq
  simp [BitVec.toNat_or, BitVec.toNat_ofNat, Nat.or_mod_two_pow]
theorem pz_and (a b : Nat) : nI a &&& nI b = nI (a &&& b) := by
  apply pz_inj
  rw [Int32.toBitVec_and, pz_bv, pz_bv, pz_bv]
  apply BitVec.eq_of_toNat_eq
  simp [BitVec.toNat_and, BitVec.toNat_ofNat, Nat.and_mod_two_pow]
theorem pz_xor (a b : Nat) : nI a ^^^ nI b = nI (a ^^^ b) := by
  apply pz_inj
  rw [Int32.toBitVec_xor, pz_bv, pz_bv, pz_bv]
  apply BitVec.eq_of_toNat_eq
  simp [BitVec.toNat_xor, BitVec.toNat_ofNat, Nat.xor_mod_two_pow]
theorem pz_m1 : (-1 : Int32) = nI 4294967295 := by decide +kernel
/-- what is in a and not in b -/
def nd (a b : Nat) : Nat := a &&& (4294967295 ^^^ b)
theorem pz_not (a b : Nat) : nI a &&& (nI b ^^^ (-1)) = nI (nd a b) := by
  rw [pz_m1, pz_xor, pz_and, Nat.xor_comm b]; rfl
theorem nd_bit (a b i : Nat) (hi : i < 32) : (nd a b).testBit i = (a.testBit i && !b.testBit i) := by
  unfold nd
  have h : (4294967295 : Nat).testBit i = true := by
    rw [show (4294967295 : Nat) = 2 ^ 32 - 1 by decide, Nat.testBit_two_pow_sub_one]
    simp [hi]
  rw [Nat.testBit_and, Nat.testBit_xor, h]
  cases b.testBit i <;> simp
theorem nd_le (a b : Nat) : nd a b ≤ a := Nat.and_le_left
theorem pz_and31 : ∀ d, d < 32 → nI d &&& 31 = nI d := by decide +kernel
theorem pz_shl : ∀ d, d < 31 → (1 : Int32) <<< (nI d &&& 31) = nI (2 ^ d) := by decide +kernel
theorem pz_sc : ∀ n, n < 32 → ((nI n &&& 31).toBitVec.smod 32).toNat = n := by decide +kernel
theorem pz_shr {S d : Nat} (hS : S < 2147483648) (hd : d < 32) : nI S >>> (nI d &&& 31) = nI (S / 2 ^ d) := pk_shrN hS _ d (pz_sc d hd)
theorem pz_bit1 {S d : Nat} (hS : S < 2147483648) (hd : d < 32) : ((nI S >>> (nI d &&& 31)) &&& 1) = nI (S / 2 ^ d % 2) := by
  rw [pz_shr hS hd, pz_l1, pz_and, Nat.and_one_is_mod]
theorem pz_tb (S d : Nat) : (S / 2 ^ d % 2 = 1) = (S.testBit d = true) := by
  rw [Nat.testBit_eq_decide_div_mod_eq]; simp
theorem pz_bit {S d : Nat} (hS : S < 2147483648) (hd : d < 32) : (((nI S >>> (nI d &&& 31)) &&& 1) = 1) = (S.testBit d = true) := by
  rw [pz_bit1 hS hd, pz_l1, pz_eq (by omega) (by decide), pz_tb]
/-- how many, which, how much: over the first n -/
def cnt (P : Nat → Bool) : Nat → Nat
  | 0 => 0
  | n + 1 => cnt P n + (if P n = true then 1 else 0)
def bts (P : Nat → Bool) : Nat → Nat
  | 0 => 0
  | n + 1 => bts P n ||| (if P n = true then 2 ^ n else 0)
def sm (P : Nat → Bool) (f : Nat → Nat) : Nat → Nat
  | 0 => 0
  | n + 1 => sm P f n + (if P n = true then f n else 0)
theorem bts_bit (P : Nat → Bool) : ∀ n i, (bts P n).testBit i = (decide (i < n) && P i)
  | 0, i => by simp [bts]
  | n + 1, i => by
    unfold bts
    rw [Nat.testBit_or, bts_bit P n i]
    by_cases hP : P n = true
    · rw [if_pos hP, Nat.testBit_two_pow]
      by_cases hi : n = i
      · subst hi; simp [hP]
      · simp [hi]; congr 1; simp; omega
    · rw [if_neg hP]
      by_cases hi : n = i
      · subst hi; simp [hP]
      · simp; congr 1; simp; omega
theorem bts_lt (P : Nat → Bool) : ∀ n, bts P n < 2 ^ n
  | 0 => Nat.zero_lt_one
  | n + 1 => by
    unfold bts
    refine Nat.or_lt_two_pow (Nat.lt_of_lt_of_le (bts_lt P n) (Nat.pow_le_pow_right (by decide) (by omega))) ?_
    by_cases hP : P n = true
    · rw [if_pos hP]; exact Nat.pow_lt_pow_right (by decide) (by omega)
    · rw [if_neg hP]; exact Nat.two_pow_pos _
theorem cnt_le (P : Nat → Bool) : ∀ n, cnt P n ≤ n
  | 0 => Nat.le_refl _
  | n + 1 => by
    unfold cnt
    have := cnt_le P n
    split <;> omega
theorem sm_le (P : Nat → Bool) (f : Nat → Nat) (b : Nat) : ∀ n, (∀ j, j < n → f j ≤ b) → sm P f n ≤ b * n
  | 0, _ => by simp [sm]
  | n + 1, h => by
    unfold sm
    have h1 := sm_le P f b n (fun j hj => h j (by omega))
    have h2 := h n (by omega)
    rw [Nat.mul_succ]
    split <;> omega
theorem cnt_congr {P Q : Nat → Bool} : ∀ {n : Nat}, (∀ j, j < n → P j = Q j) → cnt P n = cnt Q n
  | 0, _ => rfl
  | n + 1, h => by unfold cnt; rw [cnt_congr (fun j hj => h j (by omega)), h n (by omega)]
theorem bts_congr {P Q : Nat → Bool} : ∀ {n : Nat}, (∀ j, j < n → P j = Q j) → bts P n = bts Q n
  | 0, _ => rfl
  | n + 1, h => by unfold bts; rw [bts_congr (fun j hj => h j (by omega)), h n (by omega)]
theorem sm_congr {P Q : Nat → Bool} {f g : Nat → Nat} : ∀ {n : Nat}, (∀ j, j < n → P j = Q j) → (∀ j, j < n → P j = true → f j = g j) → sm P f n = sm Q g n
  | 0, _, _ => rfl
  | n + 1, h, h2 => by
    unfold sm
    rw [sm_congr (fun j hj => h j (by omega)) (fun j hj => h2 j (by omega)), ← h n (by omega)]
    by_cases hP : P n = true
    · rw [if_pos hP, if_pos hP, h2 n (by omega) hP]
    · rw [if_neg hP, if_neg hP]
theorem bits_ext {a b n : Nat} (ha : a < 2 ^ n) (hb : b < 2 ^ n) (h : ∀ i, i < n → a.testBit i = b.testBit i) : a = b := by
  apply Nat.eq_of_testBit_eq
  intro i
  by_cases hi : i < n
  · exact h i hi
  · rw [Nat.testBit_lt_two_pow (Nat.lt_of_lt_of_le ha (Nat.pow_le_pow_right (by decide) (by omega))), Nat.testBit_lt_two_pow (Nat.lt_of_lt_of_le hb (Nat.pow_le_pow_right (by decide) (by omega)))]
theorem j6_bits : ∀ n, n < 1024 → m_J6_bitCount_0f7a4 (nI n) = some (nI (cnt (fun k => n.testBit k) 10)) := by decide +kernel
