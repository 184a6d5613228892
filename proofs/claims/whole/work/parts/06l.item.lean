/-! THE CALLS: fault: an item's numbers, one after another, in both -/
/-- the first j numbers, the same in both -/
def nuS (c4 c2 : Nat → Int32) (j : Nat) : Prop := ∀ i, i < j → ∃ v, v < 100 ∧ c4 i = nI v ∧ c2 i = nI v
theorem nuS.add {c4 c2 : Nat → Int32} {j v : Nat} (h : nuS c4 c2 j) (hv : v < 100) : nuS (upd c4 j (nI v)) (upd c2 j (nI v)) (j + 1) := fun i hi => by
  by_cases c : i = j
  · subst c; exact ⟨v, hv, upd_s, upd_s⟩
  · obtain ⟨w, w1, w2, w3⟩ := h i (by omega)
    exact ⟨w, w1, by rw [upd_n c]; exact w2, by rw [upd_n c]; exact w3⟩
theorem upd_u {f : Nat → Int32} {k : Nat} {x y : Int32} : upd (upd f k x) k y = upd f k y := by
  funext j
  by_cases c : j = k
  · subst c; rw [upd_s, upd_s]
  · rw [upd_n c, upd_n c, upd_n c]
theorem num_L {k : Nat} {V : Nat → Nat} {cpt mtx : Nat → Int32} {m : Nat} {x1 dP drf dD dco dL : Int32} {dki dpr dpe dpl dho dwe : Nat → Int32} (hk : k ≤ 200) (hV : ∀ i, i < k → 32 ≤ V i ∧ V i ≤ 126 ∧ cpt i = nI (V i) ∧ mtx i = nI (V i)) (hm : 1 ≤ m) (hm4 : m ≤ 4) :
    ∀ f j pos c4 c2, m < f + j → j ≤ m → pos ≤ k → nuS c4 c2 j →
      (∃ p' c2' c4', L_X6_readNumbers_2 (nI m) (nI k) mtx f (nI pos) c2 (nI j) = some (0, p', c2') ∧ L_X0_readItem_20 (nI m) x1 dP drf dD dco dL dki dpr dpe dpl dho dwe (nI k) cpt f c4 (nI pos) (nI j) = some (-1, dP, drf, dD, dco, dL, c4', dki, dpr, dpe, dpl, dho, dwe)) ∨
      ∃ pos' c2' c4' n', pos ≤ pos' ∧ pos' ≤ k ∧ nuS c4' c2' m ∧ L_X6_readNumbers_2 (nI m) (nI k) mtx f (nI pos) c2 (nI j) = some (1, nI pos', c2') ∧ L_X0_readItem_20 (nI m) x1 dP drf dD dco dL dki dpr dpe dpl dho dwe (nI k) cpt f c4 (nI pos) (nI j) = L_X0_readItem_20 (nI m) x1 dP drf dD dco dL dki dpr dpe dpl dho dwe (nI k) cpt (n' + 1) c4' (nI pos') (nI m) := by
  intro f
  induction f with
  | zero => intro j pos c4 c2 h1 h2; omega
  | succ f ih =>
    intro j pos c4 c2 h1 h2 h3 hS
    by_cases hj : m ≤ j
    · have e : j = m := by omega
      subst e
      refine Or.inr ⟨pos, c2, c4, f, Nat.le_refl _, h3, hS, ?_, rfl⟩
      rw [L_X6_readNumbers_2, if_pos (nI_le (Nat.le_refl _) (by omega))]
    · rw [L_X6_readNumbers_2, if_neg (nI_ge (by omega) (by omega)), r_letter hk hV (by omega)]
      rw [L_X0_readItem_20, if_neg (nI_ge (by omega) (by omega)), c_figures hk hV (by omega)]
      simp only [ob1_s]
      rw [r_fig hk hV]
      simp only [ob1_s]
      cases g : fgB k V pos
      · left
        exact ⟨_, c2, c4, rfl, rfl⟩
      · have g1 := fgB_of g
        have gv := nuV_lt g
        have hw : nuW k V pos = 1 ∨ nuW k V pos = 2 := by
          unfold nuW
          cases fgB k V (pos + 1)
          · exact Or.inl rfl
          · exact Or.inr rfl
        have q1 : (if fgB k V pos = true then nuW k V pos else 0) = nuW k V pos := if_pos g
        have q2 : ¬ nI (nuW k V pos) = 0 := fun q => by rw [pz_l0, pz_eq (by omega) (by omega)] at q; omega
        sorry
