/-! THE START: what the constructors leave: the first house, standing -/
def txV (j : Nat) : Nat := ([112, 48, 44, 48, 44, 50, 48, 59, 112, 49, 44, 48, 44, 57, 59, 112, 50, 44, 49, 44, 49, 50, 59, 112, 50, 44, 48, 44, 55, 59, 112, 51, 44, 49, 44, 51, 59, 112, 48, 44, 50, 44, 51, 48, 59, 112, 49, 44, 50, 44, 53, 59, 100, 48, 44, 48, 44, 57, 44, 52, 59, 100, 49, 44, 48, 44, 50, 50, 44, 49, 53, 59, 100, 48, 44, 49, 44, 51, 44, 56, 59, 100, 50, 44, 49, 44, 49, 52, 44, 50, 48, 59, 100, 49, 44, 48, 44, 49, 51, 44, 54, 59, 100, 51, 44, 50, 44, 55, 44, 49, 49, 59, 109, 52, 48, 59, 108, 48, 59] : List Nat).getD j 0
def st_ki (j : Nat) : Nat := ([0, 1, 2, 2, 3, 0, 1] : List Nat).getD j 0
def st_pr (j : Nat) : Nat := ([20, 9, 12, 7, 3, 30, 5] : List Nat).getD j 0
def st_pe (j : Nat) : Nat := ([0, 1, 0, 2, 1, 3] : List Nat).getD j 0
def st_pl (j : Nat) : Nat := ([0, 0, 1, 1, 0, 2] : List Nat).getD j 0
def st_ho (j : Nat) : Nat := ([9, 22, 3, 14, 13, 7] : List Nat).getD j 0
def st_we (j : Nat) : Nat := ([4, 15, 8, 20, 6, 11] : List Nat).getD j 0
def st_h : Hd := ((7, 6, 1), ((st_ki, st_pr), (st_pe, st_pl, st_ho, st_we)))
def st_s : Sd := (10512, 0, 0, 0, 40)
def txF (i : Nat) : Nat → Int32 := fun j => if j < i then nI (txV j) else 0
theorem tx_ch : ∀ i, i < 119 → ((txB i &&& 255).toUInt32 % 65536).toInt32 = nI (txV i) ∧ vp_nar .char (nI (txV i)) = nI (txV i) := by decide +kernel
theorem tx_L : ∀ n i, 119 < n + i → i ≤ 119 → L_X5_init_98 n (nI i) (txF i) (nI i) = some (nI 119, txF 119) := by
  intro n
  induction n with
  | zero => intro i h1 h2; omega
  | succ n ih =>
    intro i h1 h2
    rw [L_X5_init_98]
    by_cases hi : 119 ≤ i
    · have e : i = 119 := by omega
      subst e
      rw [if_pos (show (119 : Int32) ≤ nI 119 by decide)]
    · have IH := ih (i + 1) (by omega) (by omega)
      obtain ⟨z1, z2⟩ := tx_ch i (by omega)
      rw [if_neg (show ¬ (119 : Int32) ≤ nI i from nI_ge (a := i) (b := 119) (by omega) (by omega))]
      unfold m_X1_add
      simp (disch := omega) only [pz_ok, gu_true, pz_cl, pv_e, nI_1, pz_add]
      rw [if_pos (show nI i < 200 from nI_lt (a := i) (b := 200) (by omega) (by omega)), z1, z2]
      rw [show upd (txF i) i (nI (txV i)) = txF (i + 1) by
        funext j
        unfold upd txF
        by_cases c1 : j = i
        · subst c1
          rw [if_pos rfl, if_pos (by omega)]
        · rw [if_neg c1]
          by_cases c2 : j < i
          · rw [if_pos c2, if_pos (by omega)]
          · rw [if_neg c2, if_neg (by omega)]]
      exact IH
abbrev zf : Nat → Int32 := fun _ => 0
def ck5 (o : Option (Int32 × Int32 × Int32 × Int32 × Int32 × Int32 × (Nat → Int32) × (Nat → Int32) × (Nat → Int32) × (Nat → Int32) × (Nat → Int32) × (Nat → Int32) × (Nat → Int32))) : Bool := match o with
  | some (x, P, rf, D, co, L, _, ki, pr, pe, pl, ho, we) => decide (x = -4) && (decide (P = nI 7) && (decide (rf = nI 10512) && (decide (D = nI 6) && (decide (co = nI 40) && (decide (L = nI 1) && ((List.range 7).all (fun p => decide (ki p = nI (st_ki p)) && decide (pr p = nI (st_pr p))) && (List.range 6).all (fun d => decide (pe d = nI (st_pe d)) && decide (pl d = nI (st_pl d)) && decide (ho d = nI (st_ho d)) && decide (we d = nI (st_we d)))))))))
  | none => false
set_option maxHeartbeats 4000000 in
set_option maxRecDepth 100000 in
theorem st_5 : ck5 (m_X0_readFrom (nI 119) (txF 119) zf zf zf zf zf zf zf) = true := by decide +kernel
def ck6 (o : Option (Int32 × Int32 × Int32 × Int32 × Int32 × Int32 × Int32 × Int32 × (Nat → Int32) × (Nat → Int32) × (Nat → Int32) × (Nat → Int32) × (Nat → Int32) × (Nat → Int32))) : Bool := match o with
  | some (P, D, L, a, k, n, _, _, mp, md, ms, _, _, _) => decide (P = nI 7) && (decide (D = nI 6) && (decide (L = nI 1) && (decide (a = nI 0) && (decide (k = nI 0) && (decide (n = nI 0) && ((List.range 7).all (fun p => decide (mp (2 * p) = nI (st_ki p)) && decide (mp (2 * p + 1) = nI (st_pr p))) && ((List.range 6).all (fun d => decide (md (4 * d) = nI (st_pe d)) && decide (md (4 * d + 1) = nI (st_pl d)) && decide (md (4 * d + 2) = nI (st_ho d)) && decide (md (4 * d + 3) = nI (st_we d))) && (decide (ms 0 = nI 40) && (decide (ms 1 = nI 0) && (List.range 7).all (fun p => decide (ms (2 + p) = nI (rmo 10512 p)) && decide (ms (10 + p) = nI (hw 0 0 p))))))))))))
  | none => false
set_option maxHeartbeats 4000000 in
set_option maxRecDepth 100000 in
theorem st_6 : ck6 m_X6_init = true := by decide +kernel
theorem st_5i : ∃ (o9 o10 o11 o12 o13 o14 o15 : Nat → Int32), (∀ a b : Nat, m_X5_init a b = some (b, a, 0, 0, txF 119, nI 7, nI 10512, nI 6, nI 40, nI 1, o10, o11, o12, o13, o14, o15, o9, nI 10512, 0, 0, 0, nI 40, 0, 0)) ∧ (∀ p, p < 7 → o10 p = nI (st_ki p) ∧ o11 p = nI (st_pr p)) ∧ ∀ d, d < 6 → o12 d = nI (st_pe d) ∧ o13 d = nI (st_pl d) ∧ o14 d = nI (st_ho d) ∧ o15 d = nI (st_we d) := by
  have h := st_5
  have hT := tx_L 300 0 (by omega) (by omega)
  rw [show txF 0 = zf by funext j; unfold txF; rw [if_neg (Nat.not_lt_zero j)]] at hT
  have hT : L_X5_init_98 300 0 zf 0 = some (nI 119, txF 119) := hT
  cases hr : m_X0_readFrom (nI 119) (txF 119) zf zf zf zf zf zf zf with
  | none => rw [hr] at h; cases h
  | some q =>
    obtain ⟨x, P, rf, D, co, L, nu, ki, pr, pe, pl, ho, we⟩ := q
    rw [hr] at h
    simp only [ck5, Bool.and_eq_true, decide_eq_true_eq, List.all_eq_true, List.mem_range] at h
    obtain ⟨rfl, rfl, rfl, rfl, rfl, rfl, h7, h8⟩ := h
    refine ⟨nu, ki, pr, pe, pl, ho, we, fun a b => ?_, h7, fun d hd => ⟨(h8 d hd).1.1.1, (h8 d hd).1.1.2, (h8 d hd).1.2, (h8 d hd).2⟩⟩
    unfold m_X5_init m_X5_lay
    rw [hT]
    simp only [ob2]
    rw [hr]
    rfl
theorem st_6i : ∃ (o6 o7 : Int32) (o8 o9 o10 o11 o12 o13 : Nat → Int32), m_X6_init = some (nI 7, nI 6, nI 1, nI 0, nI 0, nI 0, o6, o7, o8, o9, o10, o11, o12, o13) ∧ (∀ p, p < 7 → o8 (2 * p) = nI (st_ki p) ∧ o8 (2 * p + 1) = nI (st_pr p)) ∧ (∀ d, d < 6 → o9 (4 * d) = nI (st_pe d) ∧ o9 (4 * d + 1) = nI (st_pl d) ∧ o9 (4 * d + 2) = nI (st_ho d) ∧ o9 (4 * d + 3) = nI (st_we d)) ∧ MS 7 st_s o10 := by
  have h := st_6
  cases hr : m_X6_init with
  | none => rw [hr] at h; cases h
  | some q =>
    obtain ⟨P, D, L, a, k, n, o6, o7, mp, md, ms, o11, o12, o13⟩ := q
    rw [hr] at h
    simp only [ck6, Bool.and_eq_true, decide_eq_true_eq, List.all_eq_true, List.mem_range] at h
    obtain ⟨rfl, rfl, rfl, rfl, rfl, rfl, h7, h8, h9, h10, h11⟩ := h
    exact ⟨o6, o7, mp, md, ms, o11, o12, o13, rfl, h7, fun d hd => ⟨(h8 d hd).1.1.1, (h8 d hd).1.1.2, (h8 d hd).1.2, (h8 d hd).2⟩, h9, h10, h11⟩
theorem st_B : HB st_h := by
  refine ⟨by decide, by decide, by decide, by decide, ?_, ?_⟩
  · show ∀ p, p < 7 → st_ki p < 4 ∧ st_pr p ≤ 60
    decide
  · show ∀ d, d < 6 → st_pe d < 6 ∧ st_pl d < 4 ∧ st_ho d < 24 ∧ 1 ≤ st_we d ∧ st_we d ≤ 30
    decide
theorem st_C : CS 7 6 st_s := ⟨by decide, by decide, by decide, fun p _ => Nat.zero_testBit p, by decide, by decide⟩
