theorem pu_buy {s_finding : Int32} {rows_lanes : (Nat → Int32)} {rows_lengths : (Nat → Int32)} {rows_items : (Nat → Int32)} {tape_bytes : (Nat → Int32)} {tape_length : Int32} {tape_faultNumber : Int32} {land_told : Int32} {land_low : Int32} {land_high : Int32} {land_price : Int32} {land_hour : Int32} {land_bidders : Int32} {land_heights : (Nat → Int32)} {land_holders : (Nat → Int32)} {land_kinds : (Nat → Int32)} {land_purses : (Nat → Int32)} {land_homes : (Nat → Int32)} {firstImage_told : Int32} {firstImage_low : Int32} {firstImage_high : Int32} {firstImage_price : Int32} {firstImage_hour : Int32} {firstImage_bidders : Int32} {firstImage_heights : (Nat → Int32)} {firstImage_holders : (Nat → Int32)} {firstImage_kinds : (Nat → Int32)} {firstImage_purses : (Nat → Int32)} {firstImage_homes : (Nat → Int32)} {secondImage_told : Int32} {secondImage_low : Int32} {secondImage_high : Int32} {secondImage_price : Int32} {secondImage_hour : Int32} {secondImage_bidders : Int32} {secondImage_heights : (Nat → Int32)} {secondImage_holders : (Nat → Int32)} {secondImage_kinds : (Nat → Int32)} {secondImage_purses : (Nat → Int32)} {secondImage_homes : (Nat → Int32)} {acts_saved : (Nat → Int32)} {acts_next : Int32} {acts_kept : Int32} {basket_most : (Nat → Int32)} {basket_which : (Nat → Int32)} {basket_best : Int32} {asks_bodies : (Nat → Int32)} {asks_traced : Int32} {m_status : Int32} {m_lane : (Nat → Int32)} {m_many : (Nat → Int32)} {m_item : (Nat → Int32)} {m_isle : (Nat → Int32)} {m_was : (Nat → Int32)} {m_acts : Int32} {m_tape : (Nat → Int32)} {m_taped : Int32} {m_latest : Int32} {m_isKept : (Nat → Int32)} {m_kept : (Nat → Int32)} {m_trace : (Nat → Int32)} {m_traced : Int32} (hI : LInv s_finding rows_lanes rows_lengths rows_items tape_bytes tape_length tape_faultNumber land_told land_low land_high land_price land_hour land_bidders land_heights land_holders land_kinds land_purses land_homes firstImage_told firstImage_low firstImage_high firstImage_price firstImage_hour firstImage_bidders firstImage_heights firstImage_holders firstImage_kinds firstImage_purses firstImage_homes secondImage_told secondImage_low secondImage_high secondImage_price secondImage_hour secondImage_bidders secondImage_heights secondImage_holders secondImage_kinds secondImage_purses secondImage_homes acts_saved acts_next acts_kept asks_bodies asks_traced m_status m_lane m_many m_item m_isle m_was m_acts m_tape m_taped m_latest m_isKept m_kept m_trace m_traced) (v1 : Int32) (v2 : Int32) : ∃ (r : Int32) (basket_most' : (Nat → Int32)) (basket_which' : (Nat → Int32)) (basket_best' : Int32) (m_thrown' : Int32), fX8_buy land_low land_high land_price land_hour land_bidders land_heights land_holders land_kinds land_purses basket_most basket_which basket_best v1 v2 = some (r, basket_most', basket_which', basket_best') ∧ fX9_buy m_isle v1 v2 = some (r, m_thrown') ∧ LInv s_finding rows_lanes rows_lengths rows_items tape_bytes tape_length tape_faultNumber land_told land_low land_high land_price land_hour land_bidders land_heights land_holders land_kinds land_purses land_homes firstImage_told firstImage_low firstImage_high firstImage_price firstImage_hour firstImage_bidders firstImage_heights firstImage_holders firstImage_kinds firstImage_purses firstImage_homes secondImage_told secondImage_low secondImage_high secondImage_price secondImage_hour secondImage_bidders secondImage_heights secondImage_holders secondImage_kinds secondImage_purses secondImage_homes acts_saved acts_next acts_kept asks_bodies asks_traced m_status m_lane m_many m_item m_isle m_was m_acts m_tape m_taped m_latest m_isKept m_kept m_trace m_traced := by
  obtain ⟨hst, hR, hT, hL, hO, hrest⟩ := id hI
  suffices H : ∃ (r : Int32) (a1 a2 : Nat → Int32) (a3 th : Int32), fX8_buy land_low land_high land_price land_hour land_bidders land_heights land_holders land_kinds land_purses basket_most basket_which basket_best v1 v2 = some (r, a1, a2, a3) ∧ fX9_buy m_isle v1 v2 = some (r, th) by
    obtain ⟨r, a1, a2, a3, th, b1, b2⟩ := H
    exact ⟨r, a1, a2, a3, th, b1, b2, hI⟩
  obtain ⟨e0, e1, e2, e3, e5, e4, hh, ho, hb⟩ := id hL
  have hz := hO.2.1.1
  unfold fX8_buy fX9_buy
  rw [e4, e_hasB _ _ hz, e_isB _ _ hz, bd1_some, bd1_some, if_bI, if_bI, e_choice, bd1_some, if_bI, in_n (C := 1) v2 1 (by decide) rfl, bd1_some, if_bI]
  by_cases hv : rng (m_isle 4).toInt v1
  rotate_left 1
  · rw [if_neg hv, if_neg hv]
    exact ⟨_, _, _, _, _, rfl, rfl⟩
  rw [if_pos hv, if_pos hv]
  by_cases h2 : rng ((1 : Nat) + 1) v2
  rotate_left 1
  · rw [if_neg h2, if_neg (show ¬ rng 2 v2 from h2)]
    exact ⟨_, _, _, _, _, rfl, rfl⟩
  rw [if_pos h2, if_pos (show rng 2 v2 from h2)]
  obtain ⟨j, hj, hj4, ev⟩ := bid_of hO hv
  have hkd := (hb j hj4).1
  have hr := (hO.2.2.2.2.2.2.2 j hj4).1
  have hpp := (hO.2.2.2.2.2.2.2 j hj4).2.1
  obtain ⟨p, hp, ep⟩ := nat_of (n := 99) hpp.1 (by omega) (by decide)
  rw [ev, e1, e2, e3, e5, open_M m_isle hj, bd1_some, e_of0 m_isle j hj, bd1_some]
  obtain ⟨b', d1, d2⟩ := sets_M hO hj ep hp (fun v5_e244 v6_e244 => (if v2 = 0 then some (v6_e244, 0) else some (v5_e244, 0))) 32768 0 FU 0 (by omega) (fu_big (by omega)) ⟨adm_0 _ _, by rw [show csS m_isle (m_isle (36 + 3 * j)) 0 = 0 from sb_0 _ 15]; omega, Nat.le_refl _, fun u hu => absurd hu (Nat.not_lt_zero u)⟩
  rw [show hsS m_isle 0 = 0 from sb_0 _ 15, show csS m_isle (m_isle (36 + 3 * j)) 0 = 0 from sb_0 _ 15] at d1
  obtain ⟨mo, wh, i1, i2⟩ := init_L (fun s_most_e56 s_which_e56 => bd1 (fX3_freeFor (m_isle 1) (m_isle 2) (m_isle 5) land_heights land_holders land_kinds (nI j)) (fun r_8 => (fX2_fill_L69 (m_isle 3) land_heights land_kinds (nI j) (nI p) r_8 (fun v5_e130 s_most_e130 s_which_e130 => (fX2_fill_L138 v5_e130 s_most_e130 s_which_e130 FU 1 0)) FU 0 0 s_most_e56 s_which_e56))) basket_most basket_which
  have hD0 : DP (frB m_isle j) (hsS m_isle) (csS m_isle (m_isle (36 + 3 * j))) 0 p 0 mo wh := by
    have hz0 : ∀ u, adm (frB m_isle j) 0 u → u = 0 := fun u hu => by
      have : u < 2 ^ 0 := hu.1
      omega
    have hc0 : csS m_isle (m_isle (36 + 3 * j)) 0 = 0 := sb_0 _ 15
    have hh0 : hsS m_isle 0 = 0 := sb_0 _ 15
    refine ⟨Nat.zero_le _, fun u hu _ => by rw [hz0 u hu, hc0]; exact Nat.le_refl 0, fun t ht => ?_⟩
    obtain ⟨x1, x2⟩ := i2 t (by omega)
    by_cases e : t = 0
    · subst e
      refine Or.inr ⟨0, ⟨adm_0 _ _, hc0, fun u hu _ => ?_⟩, by rw [x1, hh0]; rfl, x2⟩
      rw [hz0 u hu]
      omega
    · rw [if_neg e] at x1
      exact Or.inl ⟨x1, fun u hu z => by
        rw [hz0 u hu, hc0] at z
        exact e z.symm⟩
  obtain ⟨D, mo2, wh2, f1, f2⟩ := fill_L (heights := land_heights) (kinds := land_kinds) hO hj hh hkd hr hp (fun v5_e130 s_most_e130 s_which_e130 => (fX2_fill_L138 v5_e130 s_most_e130 s_which_e130 FU 1 0)) 15 0 FU 0 mo wh rfl (fu_big (by decide)) hD0
  have hDp := f2.1
  obtain ⟨t1, g1, g2⟩ := best_L (wh := wh2) (mo := mo2) (D := D) (by omega) D 1 FU 0 (by omega) (fu_big (by omega)) ⟨by omega, fun t ht => by
    have : t = 0 := by omega
    subst this
    omega⟩
  obtain ⟨s, s1, s2, s3⟩ := table_best (F := frB m_isle j) (hs := hsS m_isle) (cs := csS m_isle (m_isle (36 + 3 * j))) (hsS_le hO) (sb_0 (cN1 m_isle (m_isle (36 + 3 * j))) 15) f2 g2
  have hsb : s = b' := by
    have t2 := g2.1
    exact beats_eq (s1.2.2.2 b' (Nat.lt_of_lt_of_le d2.1.1 (by decide)) d2.1 d2.2.1) (d2.2.2.2 s (Nat.lt_of_lt_of_le s1.1.1 (by decide)) s1.1 s1.2.1)
  have hfill : fX2_fill basket_most basket_which (m_isle 1) (m_isle 2) (m_isle 3) (m_isle 5) land_heights land_holders land_kinds land_purses (nI j) = some (mo2, wh2, nI t1) := by
    unfold fX2_fill fX3_purse
    rw [chk_t (nI_in hj (by decide)), nI_clamp (by omega), (hb j hj4).2.1, ep, bd1_some, i1, free_X hj hh ho hkd, bd1_some]
    exact f1.trans g1
  have ht99 : t1 < 100 := by
    have := g2.1
    omega
  rw [hfill, a_bd3]
  subst hsb
  unfold fX2_heights fX2_cells
  rw [chk_t (nI_in ht99 (by decide)), chk_t (nI_in ht99 (by decide)), nI_clamp (by omega), s2, s3, bd1_some, bd1_some]
  by_cases q : v2 = 0
  · rw [if_pos q] at d1 ⊢
    exact ⟨_, _, _, _, _, rfl, d1⟩
  · rw [if_neg q] at d1 ⊢
    exact ⟨_, _, _, _, _, rfl, d1⟩

