/-! THE LAW: its loop -/
theorem law_lim {L i : Nat} (hL : L ≤ 2048) (hi : i ≤ L) (h : ¬ (Int32.ofNat L - 4 < nI i)) : i + 4 ≤ L := by
  by_cases h4 : 4 ≤ L
  · have e : Int32.ofNat L - 4 = nI (L - 4) := pz_sub (a := L) (b := 4) h4
    rw [e, pz_lt (by omega) (by omega)] at h
    omega
  · exfalso
    apply h
    rcases (show L = 0 ∨ L = 1 ∨ L = 2 ∨ L = 3 by omega) with rfl | rfl | rfl | rfl
    · rcases (show i = 0 by omega) with rfl
      decide
    · rcases (show i = 0 ∨ i = 1 by omega) with rfl | rfl <;> decide
    · rcases (show i = 0 ∨ i = 1 ∨ i = 2 by omega) with rfl | rfl | rfl <;> decide
    · rcases (show i = 0 ∨ i = 1 ∨ i = 2 ∨ i = 3 by omega) with rfl | rfl | rfl | rfl <;> decide
theorem law_and (x : Int32) : ∃ v, v < 32 ∧ x &&& 31 = nI v := by
  have e : x = nI x.toBitVec.toNat := by
    apply pz_inj
    rw [pz_bv]
    simp
  refine ⟨x.toBitVec.toNat &&& 31, Nat.lt_of_le_of_lt Nat.and_le_right (by decide), ?_⟩
  have z := pz_and x.toBitVec.toNat 31
  rw [← e] at z
  exact z
set_option maxHeartbeats 4000000 in
set_option maxRecDepth 100000 in
theorem law_sw {p : Program} {l : Launch} {e : Env} {s : State} {m : MethodId} {below : List Frame} {meth : Method} {c : Code} {D : va_G} {cI cC cL cB : ClassId} {b L : Nat} {xs : Nat → Int32} (hL : L ≤ 2048) (C0 : lw_At p s m meth c b L xs) (hK : va_K D vwCl (tyL cI cC cL cB) s) {i : Nat} (hi : i + 4 ≤ L) {x y : Nat} {H : Heap} {locs : List Loc} {xa_page aL aD xa_now xa_trial xa_past xa_sightings xa_kept : Nat} {vckc : Int32} {xa_told xa_page_letters : Nat} {vcpn : Int32} {vcpt : Nat → Int32} {vcP : Int32} {xa_laid_kinds xa_laid_prices : Nat} {vx_laid_roomsAtFirst vcD : Int32} {xa_laid_persons xa_laid_places xa_laid_hours xa_laid_weights : Nat} {vx_laid_coins vcL : Int32} {xa_laid_numbers : Nat} {vcki vcpr vcpe vcpl vcho vcwe vx_laid_numbers_c : Nat → Int32} {vdP : Int32} {xa_draft_kinds xa_draft_prices : Nat} {vdrf vdD : Int32} {xa_draft_persons xa_draft_places xa_draft_hours xa_draft_weights : Nat} {vdco vdL : Int32} {xa_draft_numbers : Nat} {vdki vdpr vdpe vdpl vdho vdwe vdnu : Nat → Int32} {vcro vcbo vcsp vcou vcco vtro vtbo vtsp vtou vtco : Int32} {xa_past_ring : Nat} {vcnx vcdp : Int32} {vcri : Nat → Int64} {xa_sightings_pieces xa_sightings_deeds xa_sightings_tells : Nat} {vcln : Int32} {vcsP vcsD vcsT : Nat → Int32} {vcke : Nat → Int64} {vctd : Nat → Int32} {vmP : Int32} {ya_piece : Nat} {vmD : Int32} {ya_deed : Nat} {vmL : Int32} {ya_st : Nat} {vma : Int32} {ya_was : Nat} {vmk : Int32} {ya_kept : Nat} {vmsn : Int32} {ya_seen ya_text : Nat} {vmtn vmat : Int32} {ya_told : Nat} {vmrP : Int32} {ya_readPiece ya_readRoom : Nat} {vmrD : Int32} {ya_readDeed : Nat} {vmrc vmrL : Int32} {ya_now : Nat} {vmp vmd vms vmwa vmkp vmse vmtx vmto vmrp vmrr vmrd vmw : Nat → Int32} {hh : Hd} {sd : Sd} (hI : lwI D cI cC cL cB s x y H locs xa_page aL aD xa_now xa_trial xa_past xa_sightings xa_kept vckc xa_told xa_page_letters vcpn vcpt vcP xa_laid_kinds xa_laid_prices vx_laid_roomsAtFirst vcD xa_laid_persons xa_laid_places xa_laid_hours xa_laid_weights vx_laid_coins vcL xa_laid_numbers vcki vcpr vcpe vcpl vcho vcwe vx_laid_numbers_c vdP xa_draft_kinds xa_draft_prices vdrf vdD xa_draft_persons xa_draft_places xa_draft_hours xa_draft_weights vdco vdL xa_draft_numbers vdki vdpr vdpe vdpl vdho vdwe vdnu vcro vcbo vcsp vcou vcco vtro vtbo vtsp vtou vtco xa_past_ring vcnx vcdp vcri xa_sightings_pieces xa_sightings_deeds xa_sightings_tells vcln vcsP vcsD vcsT vcke vctd vmP ya_piece vmD ya_deed vmL ya_st vma ya_was vmk ya_kept vmsn ya_seen ya_text vmtn vmat ya_told vmrP ya_readPiece ya_readRoom vmrD ya_readDeed vmrc vmrL ya_now vmp vmd vms vmwa vmkp vmse vmtx vmto vmrp vmrr vmrd vmw hh sd) {ls : Array Slot} (hl : lv_has ls 4 [(3, .int (nI i)), (2, .ref y), (1, .ref x), (0, .ref b)]) {Q : State → Prop} (kk : ∀ (H : Heap) (locs : List Loc) (xa_page aL aD xa_now xa_trial xa_past xa_sightings xa_kept : Nat) (vckc : Int32) (xa_told xa_page_letters : Nat) (vcpn : Int32) (vcpt : Nat → Int32) (vcP : Int32) (xa_laid_kinds xa_laid_prices : Nat) (vx_laid_roomsAtFirst vcD : Int32) (xa_laid_persons xa_laid_places xa_laid_hours xa_laid_weights : Nat) (vx_laid_coins vcL : Int32) (xa_laid_numbers : Nat) (vcki vcpr vcpe vcpl vcho vcwe vx_laid_numbers_c : Nat → Int32) (vdP : Int32) (xa_draft_kinds xa_draft_prices : Nat) (vdrf vdD : Int32) (xa_draft_persons xa_draft_places xa_draft_hours xa_draft_weights : Nat) (vdco vdL : Int32) (xa_draft_numbers : Nat) (vdki vdpr vdpe vdpl vdho vdwe vdnu : Nat → Int32) (vcro vcbo vcsp vcou vcco vtro vtbo vtsp vtou vtco : Int32) (xa_past_ring : Nat) (vcnx vcdp : Int32) (vcri : Nat → Int64) (xa_sightings_pieces xa_sightings_deeds xa_sightings_tells : Nat) (vcln : Int32) (vcsP vcsD vcsT : Nat → Int32) (vcke : Nat → Int64) (vctd : Nat → Int32) (vmP : Int32) (ya_piece : Nat) (vmD : Int32) (ya_deed : Nat) (vmL : Int32) (ya_st : Nat) (vma : Int32) (ya_was : Nat) (vmk : Int32) (ya_kept : Nat) (vmsn : Int32) (ya_seen ya_text : Nat) (vmtn vmat : Int32) (ya_told : Nat) (vmrP : Int32) (ya_readPiece ya_readRoom : Nat) (vmrD : Int32) (ya_readDeed : Nat) (vmrc vmrL : Int32) (ya_now : Nat) (vmp vmd vms vmwa vmkp vmse vmtx vmto vmrp vmrr vmrd vmw : Nat → Int32) (hh : Hd) (sd : Sd), lwI D cI cC cL cB s x y H locs xa_page aL aD xa_now xa_trial xa_past xa_sightings xa_kept vckc xa_told xa_page_letters vcpn vcpt vcP xa_laid_kinds xa_laid_prices vx_laid_roomsAtFirst vcD xa_laid_persons xa_laid_places xa_laid_hours xa_laid_weights vx_laid_coins vcL xa_laid_numbers vcki vcpr vcpe vcpl vcho vcwe vx_laid_numbers_c vdP xa_draft_kinds xa_draft_prices vdrf vdD xa_draft_persons xa_draft_places xa_draft_hours xa_draft_weights vdco vdL xa_draft_numbers vdki vdpr vdpe vdpl vdho vdwe vdnu vcro vcbo vcsp vcou vcco vtro vtbo vtsp vtou vtco xa_past_ring vcnx vcdp vcri xa_sightings_pieces xa_sightings_deeds xa_sightings_tells vcln vcsP vcsD vcsT vcke vctd vmP ya_piece vmD ya_deed vmL ya_st vma ya_was vmk ya_kept vmsn ya_seen ya_text vmtn vmat ya_told vmrP ya_readPiece ya_readRoom vmrD ya_readDeed vmrc vmrL ya_now vmp vmd vms vmwa vmkp vmse vmtx vmto vmrp vmrr vmrd vmw hh sd → W p l e room_1 s m #[Value.ref b] below meth c H locs 42 983 Q (F0 m 857 ls [])) {v : Nat} (hv : v < 32) : W p l e room_1 s m #[Value.ref b] below meth c H locs 42 983 Q (F0 m 32 ls [.int (nI v)]) := by
  have hx := C0.1
  have hb : c.code = cL_law := C0.2.1
  by_cases h0 : v = 0
  · subst h0
    exact lv_tableIn (x := nI 0) (off := 124) (tgt := 156) hx hb dL_law_32 (by decide) (by decide) rfl (by decide) (law_c0 hL C0 hK hi hI hl kk)
  by_cases h1 : v = 1
  · subst h1
    exact lv_tableIn (x := nI 1) (off := 147) (tgt := 179) hx hb dL_law_32 (by decide) (by decide) rfl (by decide) (law_c1 hL C0 hK hi hI hl kk)
  by_cases h2 : v = 2
  · subst h2
    exact lv_tableIn (x := nI 2) (off := 160) (tgt := 192) hx hb dL_law_32 (by decide) (by decide) rfl (by decide) (law_c2 hL C0 hK hi hI hl kk)
  by_cases h3 : v = 3
  · subst h3
    exact lv_tableIn (x := nI 3) (off := 173) (tgt := 205) hx hb dL_law_32 (by decide) (by decide) rfl (by decide) (law_c3 hL C0 hK hi hI hl kk)
  by_cases h4 : v = 4
  · subst h4
    exact lv_tableIn (x := nI 4) (off := 186) (tgt := 218) hx hb dL_law_32 (by decide) (by decide) rfl (by decide) (law_c4 hL C0 hK hi hI hl kk)
  by_cases h5 : v = 5
  · subst h5
    exact lv_tableIn (x := nI 5) (off := 219) (tgt := 251) hx hb dL_law_32 (by decide) (by decide) rfl (by decide) (law_c5 hL C0 hK hi hI hl kk)
  by_cases h6 : v = 6
  · subst h6
    exact lv_tableIn (x := nI 6) (off := 252) (tgt := 284) hx hb dL_law_32 (by decide) (by decide) rfl (by decide) (law_c6 hL C0 hK hi hI hl kk)
  by_cases h7 : v = 7
  · subst h7
    exact lv_tableIn (x := nI 7) (off := 275) (tgt := 307) hx hb dL_law_32 (by decide) (by decide) rfl (by decide) (law_c7 hL C0 hK hi hI hl kk)
  by_cases h8 : v = 8
  · subst h8
    exact lv_tableIn (x := nI 8) (off := 298) (tgt := 330) hx hb dL_law_32 (by decide) (by decide) rfl (by decide) (law_c8 hL C0 hK hi hI hl kk)
  by_cases h9 : v = 9
  · subst h9
    exact lv_tableIn (x := nI 9) (off := 331) (tgt := 363) hx hb dL_law_32 (by decide) (by decide) rfl (by decide) (law_c9 hL C0 hK hi hI hl kk)
  by_cases h10 : v = 10
  · subst h10
    exact lv_tableIn (x := nI 10) (off := 344) (tgt := 376) hx hb dL_law_32 (by decide) (by decide) rfl (by decide) (law_c10 hL C0 hK hi hI hl kk)
  by_cases h11 : v = 11
  · subst h11
    exact lv_tableIn (x := nI 11) (off := 377) (tgt := 409) hx hb dL_law_32 (by decide) (by decide) rfl (by decide) (law_c11 hL C0 hK hi hI hl kk)
  by_cases h12 : v = 12
  · subst h12
    exact lv_tableIn (x := nI 12) (off := 410) (tgt := 442) hx hb dL_law_32 (by decide) (by decide) rfl (by decide) (law_c12 hL C0 hK hi hI hl kk)
  by_cases h13 : v = 13
  · subst h13
    exact lv_tableIn (x := nI 13) (off := 443) (tgt := 475) hx hb dL_law_32 (by decide) (by decide) rfl (by decide) (law_c13 hL C0 hK hi hI hl kk)
  by_cases h14 : v = 14
  · subst h14
    exact lv_tableIn (x := nI 14) (off := 466) (tgt := 498) hx hb dL_law_32 (by decide) (by decide) rfl (by decide) (law_c14 hL C0 hK hi hI hl kk)
  by_cases h15 : v = 15
  · subst h15
    exact lv_tableIn (x := nI 15) (off := 499) (tgt := 531) hx hb dL_law_32 (by decide) (by decide) rfl (by decide) (law_c15 hL C0 hK hi hI hl kk)
  by_cases h16 : v = 16
  · subst h16
    exact lv_tableIn (x := nI 16) (off := 522) (tgt := 554) hx hb dL_law_32 (by decide) (by decide) rfl (by decide) (law_c16 hL C0 hK hi hI hl kk)
  by_cases h17 : v = 17
  · subst h17
    exact lv_tableIn (x := nI 17) (off := 555) (tgt := 587) hx hb dL_law_32 (by decide) (by decide) rfl (by decide) (law_c17 hL C0 hK hi hI hl kk)
  by_cases h18 : v = 18
  · subst h18
    exact lv_tableIn (x := nI 18) (off := 578) (tgt := 610) hx hb dL_law_32 (by decide) (by decide) rfl (by decide) (law_c18 hL C0 hK hi hI hl kk)
  by_cases h19 : v = 19
  · subst h19
    exact lv_tableIn (x := nI 19) (off := 601) (tgt := 633) hx hb dL_law_32 (by decide) (by decide) rfl (by decide) (law_c19 hL C0 hK hi hI hl kk)
  by_cases h20 : v = 20
  · subst h20
    exact lv_tableIn (x := nI 20) (off := 644) (tgt := 676) hx hb dL_law_32 (by decide) (by decide) rfl (by decide) (law_c20 hL C0 hK hi hI hl kk)
  by_cases h21 : v = 21
  · subst h21
    exact lv_tableIn (x := nI 21) (off := 657) (tgt := 689) hx hb dL_law_32 (by decide) (by decide) rfl (by decide) (law_c21 hL C0 hK hi hI hl kk)
  by_cases h22 : v = 22
  · subst h22
    exact lv_tableIn (x := nI 22) (off := 690) (tgt := 722) hx hb dL_law_32 (by decide) (by decide) rfl (by decide) (law_c22 hL C0 hK hi hI hl kk)
  by_cases h23 : v = 23
  · subst h23
    exact lv_tableIn (x := nI 23) (off := 733) (tgt := 765) hx hb dL_law_32 (by decide) (by decide) rfl (by decide) (law_c23 hL C0 hK hi hI hl kk)
  by_cases h24 : v = 24
  · subst h24
    exact lv_tableIn (x := nI 24) (off := 776) (tgt := 808) hx hb dL_law_32 (by decide) (by decide) rfl (by decide) (law_c24 hL C0 hK hi hI hl kk)
  by_cases h25 : v = 25
  · subst h25
    exact lv_tableIn (x := nI 25) (off := 789) (tgt := 821) hx hb dL_law_32 (by decide) (by decide) rfl (by decide) (law_c25 hL C0 hK hi hI hl kk)
  by_cases h26 : v = 26
  · subst h26
    exact lv_tableIn (x := nI 26) (off := 802) (tgt := 834) hx hb dL_law_32 (by decide) (by decide) rfl (by decide) (law_c26 hL C0 hK hi hI hl kk)
  refine lv_tableOut (tgt := 857) hx hb dL_law_32 (Or.inr ?_) (by decide) (kk _ _ _ _ _ _ _ _ _ _ _ _ _ _ _ _ _ _ _ _ _ _ _ _ _ _ _ _ _ _ _ _ _ _ _ _ _ _ _ _ _ _ _ _ _ _ _ _ _ _ _ _ _ _ _ _ _ _ _ _ _ _ _ _ _ _ _ _ _ _ _ _ _ _ _ _ _ _ _ _ _ _ _ _ _ _ _ _ _ _ _ _ _ _ _ _ _ _ _ _ _ _ _ _ _ _ _ _ _ _ _ _ hh sd hI)
  rw [nI_toInt (by omega)]
  omega
set_option maxHeartbeats 4000000 in
set_option maxRecDepth 100000 in
theorem law_loop {p : Program} {l : Launch} {e : Env} {s : State} {m : MethodId} {below : List Frame} {meth : Method} {c : Code} {D : va_G} {cI cC cL cB : ClassId} {b L : Nat} {xs : Nat → Int32} (hL : L ≤ 2048) (C0 : lw_At p s m meth c b L xs) (hK : va_K D vwCl (tyL cI cC cL cB) s) {x y : Nat} {Q : State → Prop} (kend : ∀ (H : Heap) (locs : List Loc) (ls : Array Slot), va_S (fun q : Nat => s.heap.size ≤ q) s.heap H locs → W p l e room_1 s m #[Value.ref b] below meth c H locs 42 983 Q (F0 m 863 ls [])) : ∀ (n i : Nat), L < n + i → i ≤ L → ∀ (H : Heap) (locs : List Loc) (xa_page aL aD xa_now xa_trial xa_past xa_sightings xa_kept : Nat) (vckc : Int32) (xa_told xa_page_letters : Nat) (vcpn : Int32) (vcpt : Nat → Int32) (vcP : Int32) (xa_laid_kinds xa_laid_prices : Nat) (vx_laid_roomsAtFirst vcD : Int32) (xa_laid_persons xa_laid_places xa_laid_hours xa_laid_weights : Nat) (vx_laid_coins vcL : Int32) (xa_laid_numbers : Nat) (vcki vcpr vcpe vcpl vcho vcwe vx_laid_numbers_c : Nat → Int32) (vdP : Int32) (xa_draft_kinds xa_draft_prices : Nat) (vdrf vdD : Int32) (xa_draft_persons xa_draft_places xa_draft_hours xa_draft_weights : Nat) (vdco vdL : Int32) (xa_draft_numbers : Nat) (vdki vdpr vdpe vdpl vdho vdwe vdnu : Nat → Int32) (vcro vcbo vcsp vcou vcco vtro vtbo vtsp vtou vtco : Int32) (xa_past_ring : Nat) (vcnx vcdp : Int32) (vcri : Nat → Int64) (xa_sightings_pieces xa_sightings_deeds xa_sightings_tells : Nat) (vcln : Int32) (vcsP vcsD vcsT : Nat → Int32) (vcke : Nat → Int64) (vctd : Nat → Int32) (vmP : Int32) (ya_piece : Nat) (vmD : Int32) (ya_deed : Nat) (vmL : Int32) (ya_st : Nat) (vma : Int32) (ya_was : Nat) (vmk : Int32) (ya_kept : Nat) (vmsn : Int32) (ya_seen ya_text : Nat) (vmtn vmat : Int32) (ya_told : Nat) (vmrP : Int32) (ya_readPiece ya_readRoom : Nat) (vmrD : Int32) (ya_readDeed : Nat) (vmrc vmrL : Int32) (ya_now : Nat) (vmp vmd vms vmwa vmkp vmse vmtx vmto vmrp vmrr vmrd vmw : Nat → Int32) (hh : Hd) (sd : Sd), lwI D cI cC cL cB s x y H locs xa_page aL aD xa_now xa_trial xa_past xa_sightings xa_kept vckc xa_told xa_page_letters vcpn vcpt vcP xa_laid_kinds xa_laid_prices vx_laid_roomsAtFirst vcD xa_laid_persons xa_laid_places xa_laid_hours xa_laid_weights vx_laid_coins vcL xa_laid_numbers vcki vcpr vcpe vcpl vcho vcwe vx_laid_numbers_c vdP xa_draft_kinds xa_draft_prices vdrf vdD xa_draft_persons xa_draft_places xa_draft_hours xa_draft_weights vdco vdL xa_draft_numbers vdki vdpr vdpe vdpl vdho vdwe vdnu vcro vcbo vcsp vcou vcco vtro vtbo vtsp vtou vtco xa_past_ring vcnx vcdp vcri xa_sightings_pieces xa_sightings_deeds xa_sightings_tells vcln vcsP vcsD vcsT vcke vctd vmP ya_piece vmD ya_deed vmL ya_st vma ya_was vmk ya_kept vmsn ya_seen ya_text vmtn vmat ya_told vmrP ya_readPiece ya_readRoom vmrD ya_readDeed vmrc vmrL ya_now vmp vmd vms vmwa vmkp vmse vmtx vmto vmrp vmrr vmrd vmw hh sd → ∀ (ls : Array Slot), lv_has ls 4 [(3, .int (nI i)), (2, .ref y), (1, .ref x), (0, .ref b)] → W p l e room_1 s m #[Value.ref b] below meth c H locs 42 983 Q (F0 m 18 ls []) := by
  have hx := C0.1
  have hb : c.code = cL_law := C0.2.1
  have hX := C0.2.2.2.2.2.2.1
  have hbl := C0.2.2.2.2.2.2.2.1
  have hbA : ¬ (fun q : Nat => s.heap.size ≤ q) b := Nat.not_le.mpr hbl
  intro n
  induction n with
  | zero => intro i h1 h2; omega
  | succ n ih =>
    intro i h1 h2 H locs xa_page aL aD xa_now xa_trial xa_past xa_sightings xa_kept vckc xa_told xa_page_letters vcpn vcpt vcP xa_laid_kinds xa_laid_prices vx_laid_roomsAtFirst vcD xa_laid_persons xa_laid_places xa_laid_hours xa_laid_weights vx_laid_coins vcL xa_laid_numbers vcki vcpr vcpe vcpl vcho vcwe vx_laid_numbers_c vdP xa_draft_kinds xa_draft_prices vdrf vdD xa_draft_persons xa_draft_places xa_draft_hours xa_draft_weights vdco vdL xa_draft_numbers vdki vdpr vdpe vdpl vdho vdwe vdnu vcro vcbo vcsp vcou vcco vtro vtbo vtsp vtou vtco xa_past_ring vcnx vcdp vcri xa_sightings_pieces xa_sightings_deeds xa_sightings_tells vcln vcsP vcsD vcsT vcke vctd vmP ya_piece vmD ya_deed vmL ya_st vma ya_was vmk ya_kept vmsn ya_seen ya_text vmtn vmat ya_told vmrP ya_readPiece ya_readRoom vmrD ya_readDeed vmrc vmrL ya_now vmp vmd vms vmwa vmkp vmse vmtx vmto vmrp vmrr vmrd vmw hh sd hI ls hl
    have hS : va_S (fun q : Nat => s.heap.size ≤ q) s.heap H locs := hI.2.2.1
    refine lv_iload_n hx hb dL_law_18 rfl (lv_at hl 0 rfl) ?_
    refine lv_aload_n hx hb dL_law_19 rfl (lv_at hl 3 rfl) ?_
    refine va_slen hx hb hX hbl hbA hS dL_law_20 ?_
    refine lv_iconst (v := 4) hx hb dL_law_21 (by decide) ?_
    refine lv_isub hx hb dL_law_22 ?_
    refine lv_icmp_gt (tgt := 863) hx hb dL_law_23 (by decide) (fun c1 => ?_) (fun c1 => ?_)
    · exact kend H locs ls hS
    · have hi4 : i + 4 ≤ L := law_lim hL h2 c1
      have hv0 : vp_in (nI i) L := vp_in_nI (by omega) (by omega)
      refine lv_aload_n hx hb dL_law_26 rfl (lv_at hl 3 rfl) ?_
      refine lv_iload_n hx hb dL_law_27 rfl (lv_at hl 0 rfl) ?_
      refine va_sld hx hb hX hbl hbA hS hv0 dL_law_28 ?_
      refine lv_bipush (v := 31) hx hb dL_law_29 (by decide) ?_
      refine lv_iand hx hb dL_law_31 ?_
      obtain ⟨v, hv, ev⟩ := law_and (xs (nI i).toNatClampNeg)
      rw [ev]
      refine law_sw hL C0 hK hi4 hI hl ?_ hv
      intro H locs xa_page aL aD xa_now xa_trial xa_past xa_sightings xa_kept vckc xa_told xa_page_letters vcpn vcpt vcP xa_laid_kinds xa_laid_prices vx_laid_roomsAtFirst vcD xa_laid_persons xa_laid_places xa_laid_hours xa_laid_weights vx_laid_coins vcL xa_laid_numbers vcki vcpr vcpe vcpl vcho vcwe vx_laid_numbers_c vdP xa_draft_kinds xa_draft_prices vdrf vdD xa_draft_persons xa_draft_places xa_draft_hours xa_draft_weights vdco vdL xa_draft_numbers vdki vdpr vdpe vdpl vdho vdwe vdnu vcro vcbo vcsp vcou vcco vtro vtbo vtsp vtou vtco xa_past_ring vcnx vcdp vcri xa_sightings_pieces xa_sightings_deeds xa_sightings_tells vcln vcsP vcsD vcsT vcke vctd vmP ya_piece vmD ya_deed vmL ya_st vma ya_was vmk ya_kept vmsn ya_seen ya_text vmtn vmat ya_told vmrP ya_readPiece ya_readRoom vmrD ya_readDeed vmrc vmrL ya_now vmp vmd vms vmwa vmkp vmse vmtx vmto vmrp vmrr vmrd vmw hh sd hI
      refine lv_iinc (v := nI (i + 4)) (lv' := [(3, .int (nI (i + 4))), (2, .ref y), (1, .ref x), (0, .ref b)]) hx hb dL_law_857 hl (k := 0) rfl (pz_add i 4) (by decide) rfl (fun ls hl => ?_)
      refine lv_goto (tgt := 18) hx hb dL_law_860 (by decide) ?_
      exact ih (i + 4) (by omega) hi4 H locs xa_page aL aD xa_now xa_trial xa_past xa_sightings xa_kept vckc xa_told xa_page_letters vcpn vcpt vcP xa_laid_kinds xa_laid_prices vx_laid_roomsAtFirst vcD xa_laid_persons xa_laid_places xa_laid_hours xa_laid_weights vx_laid_coins vcL xa_laid_numbers vcki vcpr vcpe vcpl vcho vcwe vx_laid_numbers_c vdP xa_draft_kinds xa_draft_prices vdrf vdD xa_draft_persons xa_draft_places xa_draft_hours xa_draft_weights vdco vdL xa_draft_numbers vdki vdpr vdpe vdpl vdho vdwe vdnu vcro vcbo vcsp vcou vcco vtro vtbo vtsp vtou vtco xa_past_ring vcnx vcdp vcri xa_sightings_pieces xa_sightings_deeds xa_sightings_tells vcln vcsP vcsD vcsT vcke vctd vmP ya_piece vmD ya_deed vmL ya_st vma ya_was vmk ya_kept vmsn ya_seen ya_text vmtn vmat ya_told vmrP ya_readPiece ya_readRoom vmrD ya_readDeed vmrc vmrL ya_now vmp vmd vms vmwa vmkp vmse vmtx vmto vmrp vmrr vmrd vmw hh sd hI ls hl
