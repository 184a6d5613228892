/-! ACTS: rows that stand behind speak, buy, carry, undo, keep, back -/
theorem and_pow (x d : Nat) : decide (x &&& 2 ^ d ≠ 0) = x.testBit d := by
  cases c : x.testBit d
  · have e : x &&& 2 ^ d = 0 := by
      apply Nat.eq_of_testBit_eq
      intro i
      rw [Nat.testBit_and, Nat.testBit_two_pow, Nat.zero_testBit]
      by_cases q : d = i
      · subst q; simp [c]
      · simp [q]
    simp [e]
  · have e : x &&& 2 ^ d ≠ 0 := fun q => by
      have h := congrArg (fun y => y.testBit d) q
      simp only [Nat.testBit_and, Nat.testBit_two_pow, c, Nat.zero_testBit] at h
      simp at h
    simp [e]
theorem lt512 {h : Hd} (hB : HB h) {x : Nat} (hx : x < 2 ^ hnd h) : x < 512 := Nat.lt_of_lt_of_le hx (Nat.pow_le_pow_right (by decide) hB.2.2.1)
theorem lt256 {h : Hd} (hB : HB h) {x : Nat} (hx : x < 2 ^ hnp h) : x < 256 := Nat.lt_of_lt_of_le hx (Nat.pow_le_pow_right (by decide) hB.2.1)
/-- the shift in the reference's memory -/
theorem r_shiftL {w : Nat → Int32} : ∀ n i, 126 < n + i → i ≤ 126 → L_X6_remembers_11 n (fun j => if j < i then w (j + 18) else w j) (nI i) = some (fun j => if j < 126 then w (j + 18) else w j) := by
  intro n
  induction n with
  | zero => intro i h1 h2; omega
  | succ n ih =>
    intro i h1 h2
    rw [L_X6_remembers_11]
    by_cases hi : 126 ≤ i
    · have e : i = 126 := by omega
      subst e
      rw [if_pos (show (126 : Int32) ≤ nI 126 by decide)]
    · have IH := ih (i + 1) (by omega) (by omega)
      rw [if_neg (show ¬ (126 : Int32) ≤ nI i from nI_ge (b := 126) (by omega) (by omega))]
      simp (disch := omega) only [pz_l18, pz_add, pz_ok, gu_true, pz_cl, pv_e, nI_1]
      rw [show upd (fun j => if j < i then w (j + 18) else w j) i (if i + 18 < i then w (i + 18 + 18) else w (i + 18)) = fun j => if j < i + 1 then w (j + 18) else w j by
        funext j
        unfold upd
        dsimp only
        by_cases c : j = i
        · subst c
          rw [if_pos rfl, if_neg (by omega), if_pos (by omega)]
        · rw [if_neg c]
          by_cases c2 : j < i
          · rw [if_pos c2, if_pos (by omega)]
          · rw [if_neg c2, if_neg (by omega)]]
      exact IH
theorem r_shift (w : Nat → Int32) : L_X6_remembers_11 300 w 0 = some (fun j => if j < 126 then w (j + 18) else w j) := by
  have h := r_shiftL (w := w) 300 0 (by omega) (by omega)
  rw [show (fun j => if j < 0 then w (j + 18) else w j) = w by funext j; rw [if_neg (by omega)]] at h
  exact h
theorem updL_s {f : Nat → Int64} {k : Nat} {x : Int64} : vp_updL f k x k = x := if_pos rfl
theorem updL_n {f : Nat → Int64} {k j : Nat} {x : Int64} (h : j ≠ k) : vp_updL f k x j = f j := if_neg h
/-- an act is remembered, on both sides -/
theorem rp_push {h : Hd} {s : Sd} {cnx cdp ma : Int32} {cri : Nat → Int64} {mwa ms : Nat → Int32} (hB : HB h) (hP : RP h cnx cdp cri ma mwa) (hS : CS (hnp h) (hnd h) s) (hM : MS (hnp h) s ms) :
    ∃ cnx' cdp' cri' ma' mwa', m_X2_push (pkS s) cnx cdp cri = some (cnx', cdp', cri') ∧ m_X6_remembers ma mwa ms = some (ma', mwa') ∧ RP h cnx' cdp' cri' ma' mwa' := by
  obtain ⟨k, x, hist, hk, hx, rfl, rfl, rfl, hh⟩ := hP
  have e5 : m_X2_push (pkS s) (nI x) (nI k) cri = some (nI ((x + 1) % 8), nI (if k = 8 then 8 else k + 1), vp_updL cri x (pkS s)) := by
    unfold m_X2_push
    simp (disch := omega) only [pz_ok, gu_true, pz_cl, pv_e, nI_1]
    have h1 : (if (8 : Int32) ≤ nI (x + 1) then some (0 : Int32) else some (nI (x + 1))) = some (nI ((x + 1) % 8)) := by
      by_cases c : 8 ≤ x + 1
      · rw [if_pos (show (8 : Int32) ≤ nI (x + 1) from nI_le (a := 8) c (by omega)), show x + 1 = 8 by omega]; rfl
      · rw [if_neg (show ¬ (8 : Int32) ≤ nI (x + 1) from nI_ge (b := 8) (by omega) (by omega)), Nat.mod_eq_of_lt (by omega)]
    have h2 : (if (8 : Int32) < nI (k + 1) then (8 : Int32) else nI (k + 1)) = nI (if k = 8 then 8 else k + 1) := by
      by_cases c : k = 8
      · subst c; rfl
      · rw [if_neg c, if_neg (show ¬ (8 : Int32) < nI (k + 1) from nI_nlt (a := 8) (by omega) (by omega))]
    rw [h1, ob1_s, h2]
  have hm1 : ∀ (w : Nat → Int32) (q : Nat), q ≤ 7 → ob1 (m_X6_copies (18 * nI q) 0 18 18 ms 144 w) (fun c3 => pv (nI q + 1) (fun f4 => some (f4, c3))) = some (nI (q + 1), cpF w (18 * q) ms 0 18) := by
    intro w q hq
    rw [pz_l18, pz_l0, pz_mul, r_copies (by omega) (by omega) (by omega) (by omega) (by omega), ob1_s, pv_e, nI_1]
  by_cases c : k = 8
  · subst c
    refine ⟨_, _, _, nI 8, cpF (fun j => if j < 126 then mwa (j + 18) else mwa j) (18 * 7) ms 0 18, e5, ?_, 8, (x + 1) % 8, fun i => if i = 0 then s else hist (i - 1), by omega, by omega, rfl, rfl, rfl, fun i hi => ?_⟩
    · unfold m_X6_remembers
      rw [if_pos (show nI 8 = 8 from rfl), r_shift, ob1_s, pv_e, ob2_s, show nI 8 - 1 = nI 7 from rfl, hm1 _ 7 (by omega)]
    · by_cases c0 : i = 0
      · subst c0
        refine ⟨hS, ?_, hM.at hB.2.1 (fun j hj => ?_)⟩
        · rw [show ((x + 1) % 8 + 7 - 0) % 8 = x by omega, updL_s]; rfl
        · show cpF _ (18 * 7) ms 0 18 (18 * 7 + j) = _
          rw [cpF_in hj, Nat.zero_add]
      · obtain ⟨g1, g2, g3⟩ := hh (i - 1) (by omega)
        simp only [if_neg c0]
        refine ⟨g1, ?_, g3.at hB.2.1 (fun j hj => ?_)⟩
        · rw [show ((x + 1) % 8 + 7 - i) % 8 = (x + 7 - (i - 1)) % 8 by omega, updL_n (by omega)]; exact g2
        · show cpF _ (18 * 7) ms 0 18 (18 * (8 - 1 - i) + j) = mwa (18 * (8 - 1 - (i - 1)) + j)
          rw [cpF_out (by omega), if_pos (by omega)]
          congr 1; omega
  · refine ⟨_, _, _, nI (k + 1), cpF mwa (18 * k) ms 0 18, e5, ?_, k + 1, (x + 1) % 8, fun i => if i = 0 then s else hist (i - 1), by omega, by omega, rfl, by rw [if_neg c], rfl, fun i hi => ?_⟩
    · unfold m_X6_remembers
      rw [if_neg (show ¬ nI k = 8 from fun q => c ((nI_eq (b := 8) (by omega) (by decide)).mp q)), ob2_s, hm1 _ k (by omega)]
    · by_cases c0 : i = 0
      · subst c0
        refine ⟨hS, ?_, hM.at hB.2.1 (fun j hj => ?_)⟩
        · rw [show ((x + 1) % 8 + 7 - 0) % 8 = x by omega, updL_s]; rfl
        · show cpF _ (18 * k) ms 0 18 (18 * (k + 1 - 1 - 0) + j) = _
          rw [show 18 * (k + 1 - 1 - 0) + j = 18 * k + j by omega, cpF_in hj, Nat.zero_add]
      · obtain ⟨g1, g2, g3⟩ := hh (i - 1) (by omega)
        simp only [if_neg c0]
        refine ⟨g1, ?_, g3.at hB.2.1 (fun j hj => ?_)⟩
        · rw [show ((x + 1) % 8 + 7 - i) % 8 = (x + 7 - (i - 1)) % 8 by omega, updL_n (by omega)]; exact g2
        · show cpF _ (18 * k) ms 0 18 (18 * (k + 1 - 1 - i) + j) = mwa (18 * (k - 1 - (i - 1)) + j)
          rw [cpF_out (by omega)]
          congr 1; omega
theorem rmo_bits (x p : Nat) : rmo x p = (if x.testBit (2 * p) = true then 1 else 0) + (if x.testBit (2 * p + 1) = true then 2 else 0) := by
  unfold rmo
  rw [Nat.testBit_eq_decide_div_mod_eq, Nat.testBit_eq_decide_div_mod_eq, Nat.pow_succ, ← Nat.div_div_eq_div_mul]
  generalize x / 2 ^ (2 * p) = y
  by_cases h1 : y % 2 = 1 <;> by_cases h2 : y / 2 % 2 = 1 <;> simp [h1, h2] <;> omega
theorem mv_3 : ∀ p, p < 8 → (3 : Int32) <<< ((2 * nI p) &&& 31) = nI (3 * 2 ^ (2 * p)) := by decide +kernel
theorem mv_r : ∀ p, p < 8 → ∀ r, r < 4 → (nI r) <<< ((2 * nI p) &&& 31) = nI (r * 2 ^ (2 * p)) := by decide +kernel
theorem mv_b3 : ∀ p, p < 8 → ∀ i, i < 32 → (3 * 2 ^ (2 * p)).testBit i = (decide (i = 2 * p) || decide (i = 2 * p + 1)) := by decide +kernel
theorem mv_br : ∀ p, p < 8 → ∀ r, r < 4 → ∀ i, i < 32 → (r * 2 ^ (2 * p)).testBit i = (decide (i = 2 * p) && r.testBit 0 || decide (i = 2 * p + 1) && r.testBit 1) := by decide +kernel
theorem mv_lt : ∀ p, p < 8 → ∀ r, r < 4 → r * 2 ^ (2 * p) < 2 ^ 16 := by decide +kernel
def mvN (rooms p r : Nat) : Nat := nd rooms (3 * 2 ^ (2 * p)) ||| r * 2 ^ (2 * p)
theorem x4_move {rooms p r : Nat} (hp : p < 8) (hr : r < 4) : m_X4_move (nI p) (nI r) (nI rooms) = some (nI (mvN rooms p r)) := by
  unfold m_X4_move mvN
  rw [mv_3 p hp, mv_r p hp r hr, pz_not, pz_or, pv_e]
theorem mvN_lt {rooms p r : Nat} (h : rooms < 65536) (hp : p < 8) (hr : r < 4) : mvN rooms p r < 65536 := by
  unfold mvN
  exact Nat.or_lt_two_pow (n := 16) (Nat.lt_of_le_of_lt (nd_le _ _) h) (mv_lt p hp r hr)
theorem mvN_rmo {rooms p r q : Nat} (hp : p < 8) (hr : r < 4) (hq : q < 8) : rmo (mvN rooms p r) q = if q = p then r else rmo rooms q := by
  have hb : ∀ i, i < 32 → (mvN rooms p r).testBit i = if i = 2 * p then r.testBit 0 else if i = 2 * p + 1 then r.testBit 1 else rooms.testBit i := by
    intro i hi
    unfold mvN
    rw [Nat.testBit_or, nd_bit _ _ _ hi, mv_b3 p hp i hi, mv_br p hp r hr i hi]
    by_cases c1 : i = 2 * p
    · have c2 : ¬ i = 2 * p + 1 := by omega
      simp [c1]
    · by_cases c2 : i = 2 * p + 1
      · simp [c2]
      · simp [c1, c2]
  rw [rmo_bits, hb _ (by omega), hb _ (by omega)]
  by_cases c : q = p
  · subst c
    have c9 : ¬ 2 * q + 1 = 2 * q := by omega
    simp only [if_neg c9, if_true]
    rcases (show r = 0 ∨ r = 1 ∨ r = 2 ∨ r = 3 by omega) with rfl | rfl | rfl | rfl <;> decide
  · rw [if_neg (show ¬ 2 * q = 2 * p by omega), if_neg (show ¬ 2 * q = 2 * p + 1 by omega), if_neg (show ¬ 2 * q + 1 = 2 * p by omega), if_neg (show ¬ 2 * q + 1 = 2 * p + 1 by omega), if_neg c, ← rmo_bits]
