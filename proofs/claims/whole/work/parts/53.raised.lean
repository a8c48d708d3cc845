theorem rsD_X (w : Nat → Int32) (h : Int32) {c : Nat} (hc : c < 15) : (if w (6 + c) + 1 ≤ sLev w h then orb (sDry w h) 15 &&& ((1 <<< (nI c &&& 31)) ^^^ (-1)) else orb (sDry w h) 15 ||| (1 <<< (nI c &&& 31))) = rsD w h c := by
  apply b_ext
  intro i hi
  unfold rsD
  rw [bt_orb _ (by decide) hi]
  by_cases q : w (6 + c) + 1 ≤ sLev w h
  · rw [if_pos q, b_and, bt_not hi, bt_one (by omega) hi, bt_orb _ (by decide) hi]
    by_cases e : i = c
    · rw [if_pos e, decide_eq_true e, decide_eq_false (show ¬ sLev w h < w (6 + c) + 1 by rw [Int32.not_lt]; exact q)]; simp
    · rw [if_neg e, decide_eq_false e]; simp
  · rw [if_neg q, b_or, bt_one (by omega) hi, bt_orb _ (by decide) hi]
    by_cases e : i = c
    · rw [if_pos e, decide_eq_true e, decide_eq_true (show sLev w h < w (6 + c) + 1 by rw [← Int32.not_le]; exact q), e, decide_eq_true hc]; simp
    · rw [if_neg e, decide_eq_false e]; simp
theorem so_X {B : Int} {w heights : Nat → Int32} (hO : OkH B w) (hh : ∀ c : Nat, c < 15 → heights c = w (6 + c)) {v2 : Int32} {N : Nat} (hN : N < 2 ^ 31) (hv : w 5 + v2 = nI N) (cur v3 : Int32) : fX3_raisedSo (w 1) (w 2) (w 5) heights cur v2 v3 = some (orb (fun c => bt cur c && decide (rsD w (w 5 + v2) c = v3)) 15) := by
  unfold fX3_raisedSo
  rw [lev_X, bd1_some, dryB_X hO hh hN hv, bd1_some]
  refine or_loop (fun m a i => fX3_raisedSo_L20 heights cur v3 (sLev w (w 5 + v2)) (orb (sDry w (w 5 + v2)) 15) m a i) 15 (fun c => bt cur c && decide (rsD w (w 5 + v2) c = v3)) some (fun n k a hk => ?_) (fun n a => ?_) FU (fu_big (by decide))
  · show fX3_raisedSo_L20 heights cur v3 (sLev w (w 5 + v2)) (orb (sDry w (w 5 + v2)) 15) (n + 1) a (nI k) = fX3_raisedSo_L20 heights cur v3 (sLev w (w 5 + v2)) (orb (sDry w (w 5 + v2)) 15) n (if (bt cur k && decide (rsD w (w 5 + v2) k = v3)) = true then a ||| (1 <<< (nI k &&& 31)) else a) (nI (k + 1))
    rw [fX3_raisedSo_L20.eq_2, if_neg (le15 hk), chk_t (nI_in hk (by decide)), nI_clamp (by omega), hh k hk, ite_arg (fX3_raisedSo_J62 cur v3 _ a (nI k)), rsD_X w _ hk]
    unfold fX3_raisedSo_J62
    rw [nI_1]
    by_cases hb : bt cur k = true
    · rw [if_neg (fun q => by rw [and_bit cur (by omega), hb] at q; cases q), hb, Bool.true_and]
      by_cases hd : rsD w (w 5 + v2) k = v3
      · rw [if_pos hd, decide_eq_true hd, if_pos rfl]
      · rw [if_neg hd, decide_eq_false hd, if_neg (by decide)]
    · rw [if_pos ((and_bit cur (by omega)).mpr (Bool.eq_false_iff.mpr hb)), Bool.eq_false_iff.mpr hb, Bool.false_and, if_neg (by decide)]
  · show fX3_raisedSo_L20 heights cur v3 (sLev w (w 5 + v2)) (orb (sDry w (w 5 + v2)) 15) (n + 1) a (nI 15) = _
    rw [fX3_raisedSo_L20.eq_2, if_pos ge15]
theorem rs_X {items item heights w : Nat → Int32} {a p n k h : Nat} (hO : OkI w) (ha : a < 8) (hn : p + n ≤ k) (hk : k ≤ 40) (hi : ∀ i : Nat, i < k → items (40 * a + i) = item (40 * a + i)) (hh : ∀ c : Nat, c < 15 → heights c = w (6 + c)) (e5 : w 5 = nI h) (h9 : h ≤ 999) (kx : Int32 → Option (Int32 × Int32)) : ∀ i q m : Nat, q + i = n → i < m → fX8_raised_L80 items (w 1) (w 2) (w 5) heights (nI a) (nI p) (nI n) kx m (orb (fun c => rsP w (fun x => item (40 * a + p + x)) c q) 15) (nI (q + 1)) = kx (orb (fun c => rsP w (fun x => item (40 * a + p + x)) c n) 15)
  | i, q, m, hq, hm => by
    obtain ⟨m, rfl⟩ : ∃ z, m = z + 1 := ⟨m - 1, by omega⟩
    rw [fX8_raised_L80.eq_2]
    match i, hq, hm with
    | 0, hq, hm => rw [if_pos (nI_lt (by omega) (by omega)), show q = n by omega]
    | i + 1, hq, hm =>
      have e1 : nI p + nI (q + 1) - 1 = nI (p + q) := by rw [nI_add, ← Nat.add_assoc, nI_pred]
      have i1 := hi (p + q) (by omega)
      rw [← Nat.add_assoc] at i1
      have hv : w 5 + nI (q + 1) = nI (h + (q + 1)) := by rw [e5, nI_add]
      rw [if_neg (nI_nlt (by omega) (by omega)), e1, item_X items ha (by omega), bd1_some, ← Nat.add_assoc, i1, so_X hO hh (show h + (q + 1) < 2 ^ 31 by omega) hv, bd1_some, nI_1]
      rw [← rs_X hO ha hn hk hi hh e5 h9 kx i (q + 1) m (by omega) (by omega)]
      congr 1
      refine orb_cg fun c hc => ?_
      rw [bt_orb _ (by decide) (by omega), decide_eq_true hc, Bool.true_and]
      rfl
theorem pu_raised {s_finding : Int32} {rows_lanes : (Nat → Int32)} {rows_lengths : (Nat → Int32)} {rows_items : (Nat → Int32)} {tape_bytes : (Nat → Int32)} {tape_length : Int32} {tape_faultNumber : Int32} {land_told : Int32} {land_low : Int32} {land_high : Int32} {land_price : Int32} {land_hour : Int32} {land_bidders : Int32} {land_heights : (Nat → Int32)} {land_holders : (Nat → Int32)} {land_kinds : (Nat → Int32)} {land_purses : (Nat → Int32)} {land_homes : (Nat → Int32)} {firstImage_told : Int32} {firstImage_low : Int32} {firstImage_high : Int32} {firstImage_price : Int32} {firstImage_hour : Int32} {firstImage_bidders : Int32} {firstImage_heights : (Nat → Int32)} {firstImage_holders : (Nat → Int32)} {firstImage_kinds : (Nat → Int32)} {firstImage_purses : (Nat → Int32)} {firstImage_homes : (Nat → Int32)} {secondImage_told : Int32} {secondImage_low : Int32} {secondImage_high : Int32} {secondImage_price : Int32} {secondImage_hour : Int32} {secondImage_bidders : Int32} {secondImage_heights : (Nat → Int32)} {secondImage_holders : (Nat → Int32)} {secondImage_kinds : (Nat → Int32)} {secondImage_purses : (Nat → Int32)} {secondImage_homes : (Nat → Int32)} {acts_saved : (Nat → Int32)} {acts_next : Int32} {acts_kept : Int32} {asks_bodies : (Nat → Int32)} {asks_traced : Int32} {m_status : Int32} {m_lane : (Nat → Int32)} {m_many : (Nat → Int32)} {m_item : (Nat → Int32)} {m_isle : (Nat → Int32)} {m_then : (Nat → Int32)} {m_was : (Nat → Int32)} {m_acts : Int32} {m_tape : (Nat → Int32)} {m_taped : Int32} {m_latest : Int32} {m_isKept : (Nat → Int32)} {m_kept : (Nat → Int32)} {m_trace : (Nat → Int32)} {m_traced : Int32} (hI : LInv s_finding rows_lanes rows_lengths rows_items tape_bytes tape_length tape_faultNumber land_told land_low land_high land_price land_hour land_bidders land_heights land_holders land_kinds land_purses land_homes firstImage_told firstImage_low firstImage_high firstImage_price firstImage_hour firstImage_bidders firstImage_heights firstImage_holders firstImage_kinds firstImage_purses firstImage_homes secondImage_told secondImage_low secondImage_high secondImage_price secondImage_hour secondImage_bidders secondImage_heights secondImage_holders secondImage_kinds secondImage_purses secondImage_homes acts_saved acts_next acts_kept asks_bodies asks_traced m_status m_lane m_many m_item m_isle m_was m_acts m_tape m_taped m_latest m_isKept m_kept m_trace m_traced) (v1 : Int32) (v2 : Int32) (v3 : Int32) : ∃ (r : Int32) (s_finding' : Int32) (m_thrown' : Int32) (m_status' : Int32) (m_then' : (Nat → Int32)), fX8_raised s_finding rows_lanes rows_lengths rows_items land_told land_low land_high land_hour land_heights v1 v2 v3 = some (r, s_finding') ∧ fX9_raised m_status m_lane m_many m_item m_isle m_then v1 v2 v3 = some (r, m_thrown', m_status', m_then') ∧ LInv s_finding' rows_lanes rows_lengths rows_items tape_bytes tape_length tape_faultNumber land_told land_low land_high land_price land_hour land_bidders land_heights land_holders land_kinds land_purses land_homes firstImage_told firstImage_low firstImage_high firstImage_price firstImage_hour firstImage_bidders firstImage_heights firstImage_holders firstImage_kinds firstImage_purses firstImage_homes secondImage_told secondImage_low secondImage_high secondImage_price secondImage_hour secondImage_bidders secondImage_heights secondImage_holders secondImage_kinds secondImage_purses secondImage_homes acts_saved acts_next acts_kept asks_bodies asks_traced m_status' m_lane m_many m_item m_isle m_was m_acts m_tape m_taped m_latest m_isKept m_kept m_trace m_traced := by
  obtain ⟨hst, hR, hT, hL, hO, hrest⟩ := id hI
  obtain ⟨e0, e1, e2, e3, e5, e4, hh, ho, hb⟩ := id hL
  suffices H : ∃ (r : Int32) (s_finding' : Int32) (m_thrown' : Int32) (m_status' : Int32) (m_then' : Nat → Int32), fX8_raised s_finding rows_lanes rows_lengths rows_items land_told land_low land_high land_hour land_heights v1 v2 v3 = some (r, s_finding') ∧ fX9_raised m_status m_lane m_many m_item m_isle m_then v1 v2 v3 = some (r, m_thrown', m_status', m_then') ∧ s_finding' = m_status' by
    obtain ⟨r, a1, b1, b2, b3, g1, g2, g3⟩ := H
    exact ⟨r, a1, b1, b2, b3, g1, g2, g3, hR, hT, hL, hO, hrest⟩
  unfold fX8_raised fX9_raised
  rw [e0, told_X hO, there_M, e_isRow5, e_isRow9, num_X, num_M]
  simp only [bd1_some, if_bI]
  by_cases hw : m_isle 0 = 1
  rotate_left 1
  · rw [if_neg hw, if_neg hw]
    exact ⟨_, _, _, _, _, rfl, rfl, hst⟩
  rw [if_pos hw, if_pos hw]
  by_cases hv1 : rng 8 v1
  rotate_left 1
  · rw [if_neg hv1, if_neg hv1]
    exact ⟨_, _, _, _, _, rfl, rfl, hst⟩
  rw [if_pos hv1, if_pos hv1]
  by_cases hn : 1 ≤ v3.toInt ∧ v3.toInt ≤ 12
  rotate_left 1
  · rw [if_neg hn, if_neg hn]
    exact ⟨_, _, _, _, _, rfl, rfl, hst⟩
  rw [if_pos hn, if_pos hn]
  obtain ⟨a, ha, ea⟩ := rng_of (n := 8) hv1 (by decide)
  obtain ⟨n, hn2, en⟩ := nat_of (x := v3) (n := 12) (by omega) (by omega) (by decide)
  obtain ⟨el, hm⟩ := hR a ha
  rw [en, ea, miss_X _ ha, bd1_some, if_bI, chk_t (nI_in ha (by decide)), chk_t (nI_in ha (by decide)), nI_clamp (n := a) (by omega), el]
  rcases hm with hm | ⟨hm, k, hk, ek, em, hi⟩
  · rw [if_pos hm, if_neg (lane_neg hm)]
    exact ⟨_, _, _, _, _, rfl, rfl, rfl⟩
  obtain ⟨l1, l2, l3⟩ := lane_pos hm
  rw [if_neg l2, if_pos l1, places_g rows_lengths ha hk ek, bd1_some, if_bI, row_chk _ _ _ _ _ (by rw [nI_toInt (by omega)]; omega), em, nI_toInt (n := k) (by omega), nI_toInt (n := n) (by omega)]
  by_cases hp : 0 ≤ v2.toInt ∧ 0 ≤ (n : Int) ∧ v2.toInt + (n : Int) ≤ (k : Int)
  rotate_left 1
  · rw [if_neg hp, if_neg hp]
    exact ⟨_, _, _, _, _, rfl, rfl, rfl⟩
  rw [if_pos hp, if_pos hp]
  obtain ⟨p, hp2, ep⟩ := nat_of (x := v2) (n := 40) hp.1 (by omega) (by decide)
  rw [ep, nI_toInt (by omega)] at hp
  have hpk : p + n ≤ k := by omega
  obtain ⟨h, hh9, eh⟩ := hour_nat (B := 999) hO (by decide)
  rw [ep, below_X, bd1_some, e1, e2, e5]
  obtain ⟨t, ht⟩ := rs_LM (item := m_item) (w := m_isle) ha (show p + n ≤ 40 by omega) 15 0 FU m_then (by omega) (fu_big (by decide))
  have hX := rs_X (heights := land_heights) hO ha hpk hk hi hh eh hh9 (fun v4_e119 => bd2 (fX8_unfound v4_e119) (fun r_15 s_finding_15 => some (r_15, s_finding_15))) n 0 FU (by omega) (fu_big (by omega))
  have e9 : orb (fun c => !decide (9 ≤ land_heights c)) 15 = orb (fun c => rsP m_isle (fun x => m_item (40 * a + p + x)) c 0) 15 := orb_cg fun c hc => by
    show (!decide (9 ≤ land_heights c)) = (!decide (9 ≤ m_isle (6 + c)))
    rw [hh c hc]
  rw [e9]
  exact ⟨_, _, 0, 0, t, hX, ht, rfl⟩

