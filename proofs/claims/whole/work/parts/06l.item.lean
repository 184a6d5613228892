/-! THE CALLS: fault: an item's numbers, one after another, in both -/
/-- the first j numbers, the same in both -/
def nuS (c4 c2 : Nat → Int32) (j : Nat) : Prop := ∀ i, i < j → ∃ v, v < 100 ∧ c4 i = nI v ∧ c2 i = nI v
theorem nuS.add {c4 c2 : Nat → Int32} {j v : Nat} (h : nuS c4 c2 j) (hv : v < 100) : nuS (upd c4 j (nI v)) (upd c2 j (nI v)) (j + 1) := fun i hi => by
  by_cases c : i = j
  · subst c; exact ⟨v, hv, upd_s, upd_s⟩
  · obtain ⟨w, w1, w2, w3⟩ := h i (by omega)
    exact ⟨w, w1, by rw [upd_n c]; exact w2, by rw [upd_n c]; exact w3⟩
theorem upd_u {f : Nat → Int32} {k : Nat} {x y : Int32} : upd (upd f k x) k y = upd f k y := by
  funext j
  by_cases c : j = k
  · subst c; rw [upd_s, upd_s]
  · rw [upd_n c, upd_n c, upd_n c]
theorem num_L {k : Nat} {V : Nat → Nat} {cpt mtx : Nat → Int32} {m : Nat} {x1 dP drf dD dco dL : Int32} {dki dpr dpe dpl dho dwe : Nat → Int32} (hk : k ≤ 200) (hV : ∀ i, i < k → 32 ≤ V i ∧ V i ≤ 126 ∧ cpt i = nI (V i) ∧ mtx i = nI (V i)) (hm : 1 ≤ m) (hm4 : m ≤ 4) :
    ∀ f j pos c4 c2, m < f + j → j ≤ m → pos ≤ k → nuS c4 c2 j →
      (∃ p' c2' c4', L_X6_readNumbers_2 (nI m) (nI k) mtx f (nI pos) c2 (nI j) = some (0, p', c2') ∧ L_X0_readItem_20 (nI m) x1 dP drf dD dco dL dki dpr dpe dpl dho dwe (nI k) cpt f c4 (nI pos) (nI j) = some (-1, dP, drf, dD, dco, dL, c4', dki, dpr, dpe, dpl, dho, dwe)) ∨
      ∃ pos' c2' c4' n', pos ≤ pos' ∧ pos' ≤ k ∧ nuS c4' c2' m ∧ L_X6_readNumbers_2 (nI m) (nI k) mtx f (nI pos) c2 (nI j) = some (1, nI pos', c2') ∧ L_X0_readItem_20 (nI m) x1 dP drf dD dco dL dki dpr dpe dpl dho dwe (nI k) cpt f c4 (nI pos) (nI j) = L_X0_readItem_20 (nI m) x1 dP drf dD dco dL dki dpr dpe dpl dho dwe (nI k) cpt (n' + 1) c4' (nI pos') (nI m) := by
  intro f
  induction f with
  | zero => intro j pos c4 c2 h1 h2; omega
  | succ f ih =>
    intro j pos c4 c2 h1 h2 h3 hS
    by_cases hj : m ≤ j
    · have e : j = m := by omega
      subst e
      refine Or.inr ⟨pos, c2, c4, f, Nat.le_refl _, h3, hS, ?_, rfl⟩
      rw [L_X6_readNumbers_2, if_pos (nI_le (Nat.le_refl _) (by omega))]
    · rw [L_X6_readNumbers_2, if_neg (nI_ge (by omega) (by omega)), r_letter hk hV (by omega)]
      rw [L_X0_readItem_20, if_neg (nI_ge (by omega) (by omega)), c_figures hk hV (by omega)]
      simp only [ob1_s]
      rw [r_fig hk hV]
      simp only [ob1_s]
      cases g : fgB k V pos
      · left
        exact ⟨_, c2, c4, rfl, rfl⟩
      · have g1 := fgB_of g
        have gv := nuV_lt g
        have hw : nuW k V pos = 1 ∨ nuW k V pos = 2 := by
          unfold nuW
          cases fgB k V (pos + 1)
          · exact Or.inl rfl
          · exact Or.inr rfl
        have q1 : (if fgB k V pos = true then nuW k V pos else 0) = nuW k V pos := if_pos g
        have q2 : ¬ nI (nuW k V pos) = 0 := fun q => by rw [pz_l0, pz_eq (by omega) (by omega)] at q; omega
        have hok : okI (nI j) 4 = true := pz_ok (by omega) (by omega)
        have hcl : (nI j).toNatClampNeg = j := pz_cl (by omega)
        have hV0 : (if pos < k then nI (V pos) else -1) = nI (V pos) := if_pos g1.1
        have hs : nI (V pos) - 48 = nI (V pos - 48) := pz_sub (b := 48) (by omega)
        have hl1 := r_letter hk hV (show pos + 1 < 1000 by omega)
        have hf1 := r_fig hk hV (pos + 1)
        have hX : (if bI (fgB k V (pos + 1)) = 0 then some (nI (pos + 1), upd c2 j (nI (V pos - 48))) else some (nI (pos + 1 + 1), upd (upd c2 j (nI (V pos - 48))) j (10 * upd c2 j (nI (V pos - 48)) j + (if pos + 1 < k then nI (V (pos + 1)) else -1) - 48))) = some (nI (pos + nuW k V pos), upd c2 j (nI (nuV k V pos))) := by
          unfold nuW nuV
          cases g2 : fgB k V (pos + 1)
          · rw [if_pos (show bI false = 0 from rfl), if_neg (by decide), if_neg (by decide)]
          · have g3 := fgB_of g2
            rw [if_neg (show ¬ bI true = 0 by decide), if_pos rfl, if_pos rfl, if_pos g3.1, upd_u, upd_s, pz_l10, pz_mul, pz_add, pz_l48, pz_sub (by omega), Nat.mul_comm 10]
        obtain ⟨c, hc0⟩ : ∃ c, c = if m ≤ j + 1 then 59 else 44 := ⟨_, rfl⟩
        have hcb : 0 < c ∧ c < 1000 := by rw [hc0]; by_cases q : m ≤ j + 1 <;> simp [q]
        have hc1 : (if nI m ≤ nI (j + 1) then some (59 : Int32) else some 44) = some (nI c) := by
          rw [hc0]
          by_cases q : m ≤ j + 1
          · rw [if_pos q, if_pos (nI_le q (by omega))]; rfl
          · rw [if_neg q, if_neg (nI_ge (by omega) (by omega))]; rfl
        have hc2 : (if nI m - 1 ≤ nI j then some (59 : Int32) else some 44) = some (nI c) := by
          rw [hc0, show nI m - 1 = nI (m - 1) from pz_sub (b := 1) hm]
          by_cases q : m ≤ j + 1
          · rw [if_pos q, if_pos (nI_le (by omega) (by omega))]; rfl
          · rw [if_neg q, if_neg (nI_ge (by omega) (by omega))]; rfl
        have hl2 := r_letter hk hV (show pos + nuW k V pos < 1000 by omega)
        have hl3 := c_letter hk hV (show pos + nuW k V pos < 1000 by omega)
        have hnu := c_number hk hV (show pos < 900 by omega) g
        have e1 := c_sep hk hV (i := pos + nuW k V pos) hcb.1 hcb.2
        have e2 := r_sep hk hV (i := pos + nuW k V pos) hcb.1 hcb.2
        have gS := hS.add gv
        rw [if_neg (show ¬ bI true = 0 by decide), if_pos rfl, if_neg q2]
        simp only [hok, hcl, hV0, hs, gu_true, pv_e, nI_1, hl1, ob1_s, hf1, hnu, pz_add, hl3, hc1]
        rw [hX]
        simp only [ob2_s, hl2, ob1_s, hc2, nI_1]
        by_cases hsep : sepP k V (pos + nuW k V pos) c
        · rw [if_pos (by rw [e2]; exact hsep), if_pos (by rw [e1]; exact hsep)]
          rcases ih (j + 1) (pos + nuW k V pos + 1) _ _ (by omega) (by omega) (by have := hsep.1; omega) gS with ⟨p', c2', c4', z1, z2⟩ | ⟨pos', c2', c4', n', z1, z2, z3, z4, z5⟩
          · exact Or.inl ⟨p', c2', c4', z1, z2⟩
          · exact Or.inr ⟨pos', c2', c4', n', by omega, z2, z3, z4, z5⟩
        · rw [if_neg (by rw [e2]; exact hsep), if_neg (by rw [e1]; exact hsep)]
          exact Or.inl ⟨_, _, _, rfl, rfl⟩
