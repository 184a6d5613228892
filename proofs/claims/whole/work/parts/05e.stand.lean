/-! HOW ALL STANDS: the class's five numbers and the long that holds them; the reference's row of 18. The first rows are turned from the kit's BITS rows. -/
theorem wl_tb (n : Nat) : (lN n).toBitVec = BitVec.ofNat 64 n := rfl
theorem wl_inj {a b : Int64} (h : a.toBitVec = b.toBitVec) : a = b := Int64.toBitVec_inj.mp h
theorem wl_c : ∀ k, k < 64 → ((nI k).toInt64 &&& 63) = lN k := by decide +kernel
theorem wl_sm : ∀ k, k < 64 → (BitVec.ofNat 64 k).smod 64 = BitVec.ofNat 64 k := by decide +kernel
theorem wl_shl (n : Nat) {k : Nat} (hk : k < 64) : lN n <<< ((nI k).toInt64 &&& 63) = lN (n * 2 ^ k) := by
  rw [wl_c k hk]
  apply wl_inj
  rw [Int64.toBitVec_shiftLeft, wl_tb, wl_tb, wl_tb, wl_sm k hk]
  apply BitVec.eq_of_toNat_eq
  rw [BitVec.shiftLeft_eq', BitVec.toNat_shiftLeft, BitVec.toNat_ofNat, BitVec.toNat_ofNat, BitVec.toNat_ofNat, Nat.mod_eq_of_lt (show k < 2 ^ 64 by omega), Nat.shiftLeft_eq, Nat.mul_mod, Nat.mod_mod, ← Nat.mul_mod]
theorem wl_or (a b : Nat) : lN a ||| lN b = lN (a ||| b) := by
  apply wl_inj
  rw [Int64.toBitVec_or, wl_tb, wl_tb, wl_tb]
  apply BitVec.eq_of_toNat_eq
  simp [BitVec.toNat_or, BitVec.toNat_ofNat, Nat.or_mod_two_pow]
theorem wl_and (a b : Nat) : lN a &&& lN b = lN (a &&& b) := by
  apply wl_inj
  rw [Int64.toBitVec_and, wl_tb, wl_tb, wl_tb]
  apply BitVec.eq_of_toNat_eq
  simp [BitVec.toNat_and, BitVec.toNat_ofNat, Nat.and_mod_two_pow]
theorem wl_ors {k a b : Nat} (ha : a < 2 ^ k) : lN (b * 2 ^ k) ||| lN a = lN (b * 2 ^ k + a) := by
  rw [wl_or, ← Nat.shiftLeft_eq, Nat.shiftLeft_add_eq_or_of_lt ha]
theorem wl_T {a : Nat} (h : a < 2 ^ 63) : (lN a).toInt = (a : Int) := lg_ofNat_toInt h
theorem wl_shr {a d : Nat} {D : Int64} (hD : (D.toBitVec.smod 64).toNat = d) (h : a < 2 ^ 62) : lN a >>> D = lN (a / 2 ^ d) := by
  have hd : a / 2 ^ d ≤ a := Nat.div_le_self _ _
  apply Int64.toInt_inj.mp
  have e : (lN a >>> D).toInt = (lN a).toInt >>> d := by
    rw [← hD]
    exact BitVec.toInt_sshiftRight ..
  rw [e, Int.shiftRight_eq_div_pow, wl_T (by omega), wl_T (by omega)]
  rfl
theorem wl_sc : ∀ k, k < 64 → (((nI k).toInt64 &&& 63).toBitVec.smod 64).toNat = k := by decide +kernel
/-- how all stands: rooms, bought, spoken, out, coins -/
abbrev Sd : Type := Nat × Nat × Nat × Nat × Nat
def pkN (s : Sd) : Nat := ((((s.2.2.2.2 * 65536 + s.2.2.2.1) * 256 + s.2.2.1) * 256 + s.2.1) * 65536 + s.1)
def pkS (s : Sd) : Int64 := lN (pkN s)
def CS (np nd : Nat) (s : Sd) : Prop := s.1 < 65536 ∧ s.2.1 < 2 ^ np ∧ s.2.2.1 < 2 ^ np ∧ (∀ p, s.2.1.testBit p = true → s.2.2.1.testBit p = false) ∧ s.2.2.2.1 < 2 ^ nd ∧ s.2.2.2.2 < 100
/-- the reference's row -/
def MS (np : Nat) (s : Sd) (b : Nat → Int32) : Prop := b 0 = nI s.2.2.2.2 ∧ b 1 = nI s.2.2.2.1 ∧ ∀ p, p < np → b (2 + p) = nI (rmo s.1 p) ∧ b (10 + p) = nI (hw s.2.1 s.2.2.1 p)
theorem CS.small {np nd : Nat} {s : Sd} (h : CS np nd s) (hp : np ≤ 8) (hd : nd ≤ 9) : s.1 < 65536 ∧ s.2.1 < 256 ∧ s.2.2.1 < 256 ∧ s.2.2.2.1 < 512 ∧ s.2.2.2.2 < 100 := by
  obtain ⟨h1, h2, h3, -, h5, h6⟩ := h
  have e1 : 2 ^ np ≤ 2 ^ 8 := Nat.pow_le_pow_right (by decide) hp
  have e2 : 2 ^ nd ≤ 2 ^ 9 := Nat.pow_le_pow_right (by decide) hd
  exact ⟨h1, by omega, by omega, by omega, h6⟩
theorem x4_packed {r b s o c : Nat} (h1 : r < 65536) (h2 : b < 256) (h3 : s < 256) (h4 : o < 65536) (h5 : c < 1000) : m_X4_packed (nI r) (nI b) (nI s) (nI o) (nI c) = some (pkS (r, b, s, o, c)) := by
  unfold m_X4_packed pkS pkN
  rw [nI_l (by omega), nI_l (by omega), nI_l (by omega), nI_l (by omega), nI_l (by omega), pz_l48, pz_l32, pz_l24, pz_l16, wl_shl c (by decide), wl_shl o (by decide), wl_shl s (by decide), wl_shl b (by decide)]
  rw [wl_ors (k := 48) (a := o * 2 ^ 32) (b := c) (by omega)]
  rw [show c * 2 ^ 48 + o * 2 ^ 32 = (c * 65536 + o) * 2 ^ 32 by omega, wl_ors (k := 32) (a := s * 2 ^ 24) (by omega)]
  rw [show (c * 65536 + o) * 2 ^ 32 + s * 2 ^ 24 = ((c * 65536 + o) * 256 + s) * 2 ^ 24 by omega, wl_ors (k := 24) (a := b * 2 ^ 16) (by omega)]
  rw [show ((c * 65536 + o) * 256 + s) * 2 ^ 24 + b * 2 ^ 16 = (((c * 65536 + o) * 256 + s) * 256 + b) * 2 ^ 16 by omega, wl_ors (k := 16) (a := r) (by omega)]
theorem x4_unpack {r b s o c : Nat} (h1 : r < 65536) (h2 : b < 256) (h3 : s < 256) (h4 : o < 65536) (h5 : c < 1000) : m_X4_unpack (pkS (r, b, s, o, c)) = some (nI r, nI b, nI s, nI o, nI c) := by
  unfold m_X4_unpack pkS
  have hN : pkN (r, b, s, o, c) < 2 ^ 62 := by unfold pkN; dsimp only; omega
  rw [pz_l48, pz_l32, pz_l24, pz_l16, wl_shr (wl_sc 16 (by decide)) hN, wl_shr (wl_sc 24 (by decide)) hN, wl_shr (wl_sc 32 (by decide)) hN, wl_shr (wl_sc 48 (by decide)) hN]
  rw [show (65535 : Int64) = lN 65535 from rfl, show (255 : Int64) = lN 255 from rfl, wl_and, wl_and, wl_and, wl_and]
  simp only [pv_e, lN_i]
  have m16 : ∀ x, x &&& 65535 = x % 65536 := fun x => Nat.and_two_pow_sub_one_eq_mod x 16
  have m8 : ∀ x, x &&& 255 = x % 256 := fun x => Nat.and_two_pow_sub_one_eq_mod x 8
  rw [m16, m8, m8, m16]
  unfold pkN
  dsimp only
  congr 2
  · congr 1; omega
  · congr 1
    · congr 1; omega
    · congr 1
      · congr 1; omega
      · congr 1
        · congr 1; omega
        · congr 1; omega
/-- a row copied into a row -/
def cpF (to : Nat → Int32) (a : Nat) (fo : Nat → Int32) (f n : Nat) : Nat → Int32 := fun j => if a ≤ j ∧ j < a + n then fo (f + (j - a)) else to j
theorem cpF_in {to fo : Nat → Int32} {a f n j : Nat} (h : j < n) : cpF to a fo f n (a + j) = fo (f + j) := by
  unfold cpF
  rw [if_pos ⟨by omega, by omega⟩, Nat.add_sub_cancel_left]
theorem cpF_out {to fo : Nat → Int32} {a f n j : Nat} (h : j < a ∨ a + n ≤ j) : cpF to a fo f n j = to j := by
  unfold cpF
  rw [if_neg (by omega)]
theorem r_copiesL {a f n0 N3 N1 : Nat} {fo to : Nat → Int32} (h3 : f + n0 ≤ N3) (h1 : a + n0 ≤ N1) (hb3 : N3 < 100000) (hb1 : N1 < 100000) :
    ∀ n i, n0 < n + i → i ≤ n0 → L_X6_copies_3 (nI n0) (nI f) N3 (nI a) N1 fo n (cpF to a fo f i) (nI i) = some (cpF to a fo f n0) := by
  intro n
  induction n with
  | zero => intro i h1 h2; omega
  | succ n ih =>
    intro i h4 h5
    rw [L_X6_copies_3]
    by_cases hi : n0 ≤ i
    · have e : i = n0 := by omega
      subst e
      rw [if_pos (nI_le (Nat.le_refl _) (by omega))]
    · have IH := ih (i + 1) (by omega) (by omega)
      rw [if_neg (nI_ge (by omega) (by omega))]
      simp (disch := omega) only [pz_add, pz_ok, gu_true, pz_cl, pv_e, nI_1]
      rw [show upd (cpF to a fo f i) (a + i) (fo (f + i)) = cpF to a fo f (i + 1) by
        funext j
        unfold upd cpF
        by_cases c : j = a + i
        · subst c
          rw [if_pos rfl, if_pos ⟨by omega, by omega⟩, Nat.add_sub_cancel_left]
        · rw [if_neg c]
          by_cases c2 : a ≤ j ∧ j < a + i
          · rw [if_pos c2, if_pos ⟨by omega, by omega⟩]
          · rw [if_neg c2, if_neg (by omega)]]
      exact IH
theorem r_copies {a f n0 N3 N1 : Nat} {fo to : Nat → Int32} (h3 : f + n0 ≤ N3) (h1 : a + n0 ≤ N1) (hb3 : N3 < 100000) (hb1 : N1 < 100000) (hn : n0 < 300) : m_X6_copies (nI a) (nI f) (nI n0) N3 fo N1 to = some (cpF to a fo f n0) := by
  unfold m_X6_copies
  have h := r_copiesL (to := to) (fo := fo) h3 h1 hb3 hb1 300 0 (by omega) (by omega)
  rw [show cpF to a fo f 0 = to by funext j; unfold cpF; rw [if_neg (by omega)]] at h
  rw [pz_l0, h, ob1_s]
theorem r_asItIs (st now : Nat → Int32) : m_X6_asItIs st now = some (cpF now 0 st 0 18) := by
  unfold m_X6_asItIs
  rw [pz_l0, pz_l18, r_copies (by omega) (by omega) (by omega) (by omega) (by omega), ob1_s]
theorem MS.asIs {np : Nat} {s : Sd} {st now : Nat → Int32} (h : MS np s st) (hp : np ≤ 8) : MS np s (cpF now 0 st 0 18) := by
  obtain ⟨h1, h2, h3⟩ := h
  have e : ∀ j, j < 18 → cpF now 0 st 0 18 j = st j := fun j hj => by
    have := cpF_in (to := now) (fo := st) (a := 0) (f := 0) (n := 18) hj
    simpa using this
  exact ⟨by rw [e 0 (by omega)]; exact h1, by rw [e 1 (by omega)]; exact h2, fun p hp2 => by rw [e _ (by omega), e _ (by omega)]; exact h3 p hp2⟩
/-- the reference's row at a place of a longer one -/
theorem MS.at {np : Nat} {s : Sd} {b : Nat → Int32} {w : Nat → Int32} {k : Nat} (h : MS np s b) (hp : np ≤ 8) (e : ∀ j, j < 18 → w (k + j) = b j) : MS np s (fun j => w (k + j)) := by
  obtain ⟨h1, h2, h3⟩ := h
  refine ⟨?_, ?_, fun p hp2 => ?_⟩
  · show w (k + 0) = _; rw [e 0 (by omega)]; exact h1
  · show w (k + 1) = _; rw [e 1 (by omega)]; exact h2
  · show w (k + (2 + p)) = _ ∧ w (k + (10 + p)) = _
    rw [e _ (by omega), e _ (by omega)]; exact h3 p hp2
