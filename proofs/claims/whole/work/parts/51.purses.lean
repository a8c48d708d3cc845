theorem pu_purses {s_finding : Int32} {rows_lanes : (Nat → Int32)} {rows_lengths : (Nat → Int32)} {rows_items : (Nat → Int32)} {tape_bytes : (Nat → Int32)} {tape_length : Int32} {tape_faultNumber : Int32} {land_told : Int32} {land_low : Int32} {land_high : Int32} {land_price : Int32} {land_hour : Int32} {land_bidders : Int32} {land_heights : (Nat → Int32)} {land_holders : (Nat → Int32)} {land_kinds : (Nat → Int32)} {land_purses : (Nat → Int32)} {land_homes : (Nat → Int32)} {firstImage_told : Int32} {firstImage_low : Int32} {firstImage_high : Int32} {firstImage_price : Int32} {firstImage_hour : Int32} {firstImage_bidders : Int32} {firstImage_heights : (Nat → Int32)} {firstImage_holders : (Nat → Int32)} {firstImage_kinds : (Nat → Int32)} {firstImage_purses : (Nat → Int32)} {firstImage_homes : (Nat → Int32)} {secondImage_told : Int32} {secondImage_low : Int32} {secondImage_high : Int32} {secondImage_price : Int32} {secondImage_hour : Int32} {secondImage_bidders : Int32} {secondImage_heights : (Nat → Int32)} {secondImage_holders : (Nat → Int32)} {secondImage_kinds : (Nat → Int32)} {secondImage_purses : (Nat → Int32)} {secondImage_homes : (Nat → Int32)} {acts_saved : (Nat → Int32)} {acts_next : Int32} {acts_kept : Int32} {asks_bodies : (Nat → Int32)} {asks_traced : Int32} {m_status : Int32} {m_lane : (Nat → Int32)} {m_many : (Nat → Int32)} {m_item : (Nat → Int32)} {m_isle : (Nat → Int32)} {m_was : (Nat → Int32)} {m_acts : Int32} {m_tape : (Nat → Int32)} {m_taped : Int32} {m_latest : Int32} {m_isKept : (Nat → Int32)} {m_kept : (Nat → Int32)} {m_trace : (Nat → Int32)} {m_traced : Int32} (hI : LInv s_finding rows_lanes rows_lengths rows_items tape_bytes tape_length tape_faultNumber land_told land_low land_high land_price land_hour land_bidders land_heights land_holders land_kinds land_purses land_homes firstImage_told firstImage_low firstImage_high firstImage_price firstImage_hour firstImage_bidders firstImage_heights firstImage_holders firstImage_kinds firstImage_purses firstImage_homes secondImage_told secondImage_low secondImage_high secondImage_price secondImage_hour secondImage_bidders secondImage_heights secondImage_holders secondImage_kinds secondImage_purses secondImage_homes acts_saved acts_next acts_kept asks_bodies asks_traced m_status m_lane m_many m_item m_isle m_was m_acts m_tape m_taped m_latest m_isKept m_kept m_trace m_traced) (v1 : Int32) (v2 : Int32) (v3 : Int32) (v4 : Int32) (v5 : Int32) : ∃ (r : Int32) (s_finding' : Int32) (m_thrown' : Int32) (m_status' : Int32), fX8_purses s_finding rows_lanes rows_lengths rows_items land_price land_bidders land_heights land_kinds v1 v2 v3 v4 v5 = some (r, s_finding') ∧ fX9_purses m_status m_lane m_many m_item m_isle v1 v2 v3 v4 v5 = some (r, m_thrown', m_status') ∧ LInv s_finding' rows_lanes rows_lengths rows_items tape_bytes tape_length tape_faultNumber land_told land_low land_high land_price land_hour land_bidders land_heights land_holders land_kinds land_purses land_homes firstImage_told firstImage_low firstImage_high firstImage_price firstImage_hour firstImage_bidders firstImage_heights firstImage_holders firstImage_kinds firstImage_purses firstImage_homes secondImage_told secondImage_low secondImage_high secondImage_price secondImage_hour secondImage_bidders secondImage_heights secondImage_holders secondImage_kinds secondImage_purses secondImage_homes acts_saved acts_next acts_kept asks_bodies asks_traced m_status' m_lane m_many m_item m_isle m_was m_acts m_tape m_taped m_latest m_isKept m_kept m_trace m_traced := by
  obtain ⟨hst, hR, hT, hL, hO, hrest⟩ := id hI
  obtain ⟨e0, e1, e2, e3, e5, e4, hh, ho, hb⟩ := id hL
  have hz := hO.2.1.1
  suffices H : ∃ (r : Int32) (s_finding' : Int32) (m_thrown' : Int32) (m_status' : Int32), fX8_purses s_finding rows_lanes rows_lengths rows_items land_price land_bidders land_heights land_kinds v1 v2 v3 v4 v5 = some (r, s_finding') ∧ fX9_purses m_status m_lane m_many m_item m_isle v1 v2 v3 v4 v5 = some (r, m_thrown', m_status') ∧ s_finding' = m_status' by
    obtain ⟨r, a1, b1, b2, g1, g2, g3⟩ := H
    exact ⟨r, a1, b1, b2, g1, g2, g3, hR, hT, hL, hO, hrest⟩
  unfold fX8_purses fX9_purses
  rw [e4, e_hasB _ _ hz, e_isB _ _ hz, e_isRow5, e_isRow9, num_X, num_M, e_choice, in_n (C := 1) v5 1 (by decide) rfl]
  simp only [bd1_some, if_bI]
  by_cases hv : rng (m_isle 4).toInt v1
  rotate_left 1
  · rw [if_neg hv, if_neg hv]
    exact ⟨_, _, _, _, rfl, rfl, hst⟩
  rw [if_pos hv, if_pos hv]
  by_cases hv1 : rng 8 v2
  rotate_left 1
  · rw [if_neg hv1, if_neg hv1]
    exact ⟨_, _, _, _, rfl, rfl, hst⟩
  rw [if_pos hv1, if_pos hv1]
  by_cases hn : 1 ≤ v4.toInt ∧ v4.toInt ≤ 12
  rotate_left 1
  · rw [if_neg hn, if_neg hn]
    exact ⟨_, _, _, _, rfl, rfl, hst⟩
  rw [if_pos hn, if_pos hn]
  by_cases h2 : rng 2 v5
  rotate_left 1
  · rw [if_neg h2, if_neg (show ¬ rng ((1 : Nat) + 1) v5 from h2)]
    exact ⟨_, _, _, _, rfl, rfl, hst⟩
  rw [if_pos h2, if_pos (show rng ((1 : Nat) + 1) v5 from h2)]
  obtain ⟨j, hj, hj4, ev⟩ := bid_of hO hv
  obtain ⟨a, ha, ea⟩ := rng_of (n := 8) hv1 (by decide)
  obtain ⟨n, hn2, en⟩ := nat_of (x := v4) (n := 12) (by omega) (by omega) (by decide)
  have hn1 : 1 ≤ n := by rw [en, nI_toInt (by omega)] at hn; omega
  obtain ⟨el, hm⟩ := hR a ha
  rw [en, ea, ev, miss_X _ ha, bd1_some, if_bI, chk_t (nI_in ha (by decide)), chk_t (nI_in ha (by decide)), nI_clamp (n := a) (by omega), el]
  rcases hm with hm | ⟨hm, k, hk, ek, em, hi⟩
  · rw [if_pos hm, if_neg (lane_neg hm)]
    exact ⟨_, _, _, _, rfl, rfl, rfl⟩
  obtain ⟨l1, l2, l3⟩ := lane_pos hm
  rw [if_neg l2, if_pos l1, places_g rows_lengths ha hk ek, bd1_some, if_bI, row_chk _ _ _ _ _ (by rw [nI_toInt (by omega)]; omega), em, nI_toInt (n := k) (by omega), nI_toInt (n := n) (by omega)]
  by_cases hp : 0 ≤ v3.toInt ∧ 0 ≤ (n : Int) ∧ v3.toInt + (n : Int) ≤ (k : Int)
  rotate_left 1
  · rw [if_neg hp, if_neg hp]
    exact ⟨_, _, _, _, rfl, rfl, rfl⟩
  rw [if_pos hp, if_pos hp]
  obtain ⟨p, hp2, ep⟩ := nat_of (x := v3) (n := 40) hp.1 (by omega) (by decide)
  rw [ep, nI_toInt (by omega)] at hp
  have hpk : p + n ≤ k := by omega
  obtain ⟨b1, b2, b3⟩ := hb j hj4
  obtain ⟨k1, k2, k3⟩ := hO.2.2.2.2.2.2.2 j hj4
  rw [ep]
  unfold fX8_areCells
  have hX := areC_X (st := 1) ha (Or.inl rfl) (show p + 1 * n ≤ k by omega) hk hi n 0 FU (by omega) (fu_big (by omega))
  have hM := pur_M (item := m_item) hO ha (show p + n ≤ 40 by omega) hj m_status (fun v6_e165 v7_e165 => (fX9_purses_L181 v6_e165 v7_e165 (fun v8_e242 v9_e242 => (if v5 = 0 then some (v8_e242, 0, 0) else some (v9_e242, 0, 0))) FU 0 (-1000000) 99)) n 0 FU 0 (by omega) (fu_big (by omega))
  simp only [Nat.one_mul] at hX
  rw [show fX8_areCells_L3 rows_items (nI a) (nI p) (nI n) 1 FU 0 = _ from hX, bd1_some, if_bI, show fX9_purses_L98 m_status m_item m_isle (nI j) (nI a) (nI p) (nI n) _ FU 0 0 0 = _ from hM]
  by_cases hc : ∀ x : Nat, x < n → 0 ≤ x → rng 15 (m_item (40 * a + p + x))
  rotate_left 1
  · rw [if_neg hc, if_neg hc]
    exact ⟨_, _, _, _, rfl, rfl, hst⟩
  have hc' : ∀ x : Nat, x < n → rng 15 (m_item (40 * a + p + x)) := fun x h => hc x h (Nat.zero_le _)
  have hX2 := pur_X (heights := land_heights) (kinds := land_kinds) hO ha hpk hk hj hi hh b1 k1 hc' hn1 (fun v6_e135 => bd1 (fX5_item rows_items (nI a) ((nI p + nI n) - 1)) (fun r_18 => bd1 (fX3_costTo (m_isle 3) land_heights land_kinds (nI j) r_18) (fun r_19 => (if v5 = 0 then bd2 (fX8_unfound (imax 0 (((imin 99 ((v6_e135 + r_19) - 1)) - v6_e135) + 1))) (fun r_24 s_finding_24 => some (r_24, s_finding_24)) else (if (imax 0 (((imin 99 ((v6_e135 + r_19) - 1)) - v6_e135) + 1)) ≤ 0 then bd2 (fX8_unfound (-1000000)) (fun r_22 s_finding_22 => some (r_22, s_finding_22)) else bd2 (fX8_unfound v6_e135) (fun r_23 s_finding_23 => some (r_23, s_finding_23))))))) (n - 1) 0 FU (by omega) (fu_big (by omega))
  obtain ⟨c, hc2, ec⟩ := rng_of (n := 15) (hc' (n - 1) (by omega)) (by decide)
  have hle : ∀ x, x < n → (fun x => csN m_isle (m_isle (36 + 3 * j)) (m_item (40 * a + p + x))) x ≤ 82 := fun x hx => by
    obtain ⟨q, hq, eq⟩ := rng_of (n := 15) (hc' x hx) (by decide)
    show csN m_isle (m_isle (36 + 3 * j)) (m_item (40 * a + p + x)) ≤ 82
    rw [eq]
    exact (csN_e hO _ hq).2
  have hs1 := sumN_le (f := fun x => csN m_isle (m_isle (36 + 3 * j)) (m_item (40 * a + p + x))) (n - 1) (fun x hx => hle x (by omega))
  have hs2 : sumN (fun x => csN m_isle (m_isle (36 + 3 * j)) (m_item (40 * a + p + x))) n = sumN (fun x => csN m_isle (m_isle (36 + 3 * j)) (m_item (40 * a + p + x))) (n - 1) + csN m_isle (m_isle (36 + 3 * j)) (nI c) := by
    obtain ⟨z, rfl⟩ : ∃ z, n = z + 1 := ⟨n - 1, by omega⟩
    show sumN _ z + csN m_isle (m_isle (36 + 3 * j)) (m_item (40 * a + p + z)) = _
    rw [show z + 1 - 1 = z from rfl] at ec ⊢
    rw [ec]
  have hlc := (csN_e hO (m_isle (36 + 3 * j)) hc2).2
  have i1 := hi (p + (n - 1)) (by omega)
  rw [← Nat.add_assoc] at i1
  rw [if_pos hc, if_pos hc, if_neg (show ¬ n = 0 by omega), e3, show fX8_purses_L95 rows_items (m_isle 3) land_heights land_kinds (nI j) (nI a) (nI p) (nI n) _ FU 0 0 = _ from hX2, nI_add, show nI (p + n) - 1 = nI (p + (n - 1)) by rw [show (1 : Int32) = nI 1 from rfl, pk_sub (by omega), show p + n - 1 = p + (n - 1) by omega], item_X rows_items ha (by omega), bd1_some, ← Nat.add_assoc, i1, ec, costTo_X m_isle land_heights land_kinds hj hc2 (hh c hc2) b1 k1, bd1_some, (csN_e hO (m_isle (36 + 3 * j)) hc2).1, fits_X (by omega) (by omega), hs2]
  generalize sumN (fun x => csN m_isle (m_isle (36 + 3 * j)) (m_item (40 * a + p + x))) (n - 1) = lo at hs1 ⊢
  generalize csN m_isle (m_isle (36 + 3 * j)) (nI c) = le at hlc ⊢
  have hF := fits_M (lo := lo) (hi := lo + le) (by omega) (by omega) (fun v8_e242 v9_e242 => (if v5 = 0 then some (v8_e242, 0, 0) else some (v9_e242, 0, 0))) 100 FU (Nat.le_refl _) (fu_big (by decide))
  have hz1 : cN lo (lo + le) 100 = 0 := by unfold cN; omega
  rw [show cL lo (lo + le) 100 = -1000000 by unfold cL; rw [if_pos hz1], hz1] at hF
  rw [show fX9_purses_L181 (nI lo) (nI (lo + le)) _ FU 0 (-1000000) 99 = _ from hF]
  have hcN : cN lo (lo + le) 0 ≤ 100 := by unfold cN; omega
  by_cases h0 : v5 = 0
  · rw [if_pos h0, if_pos h0]
    exact ⟨_, _, _, _, rfl, rfl, rfl⟩
  · rw [if_neg h0, if_neg h0]
    by_cases hq : cN lo (lo + le) 0 = 0
    · rw [show cL lo (lo + le) 0 = -1000000 by unfold cL; rw [if_pos hq], hq, if_pos (by decide)]
      exact ⟨_, _, _, _, rfl, rfl, rfl⟩
    · rw [show cL lo (lo + le) 0 = nI lo by unfold cL; rw [if_neg hq, show max lo 0 = lo by omega], if_neg (nI_nle (by omega) (by omega))]
      exact ⟨_, _, _, _, rfl, rfl, rfl⟩

