theorem turn_X {kinds purses homes w : Nat → Int32} {j : Nat} (hj : j < 5) (h : kinds j = w (36 + 3 * j) ∧ purses j = w (37 + 3 * j) ∧ homes j = w (38 + 3 * j)) : fX1_turnTo kinds purses homes (nI j) = some (0, nI j, w (36 + 3 * j), w (37 + 3 * j), w (38 + 3 * j)) := by
  unfold fX1_turnTo fX3_kindOf fX3_purse fX3_homeOf
  rw [chk_t (nI_in hj (by decide)), bd1_some, chk_t (nI_in hj (by decide)), bd1_some, chk_t (nI_in hj (by decide)), bd1_some, nI_clamp (by omega), h.1, h.2.1, h.2.2]
theorem pu_ask {s_finding : Int32} {rows_lanes : (Nat → Int32)} {rows_lengths : (Nat → Int32)} {rows_items : (Nat → Int32)} {tape_bytes : (Nat → Int32)} {tape_length : Int32} {tape_faultNumber : Int32} {land_told : Int32} {land_low : Int32} {land_high : Int32} {land_price : Int32} {land_hour : Int32} {land_bidders : Int32} {land_heights : (Nat → Int32)} {land_holders : (Nat → Int32)} {land_kinds : (Nat → Int32)} {land_purses : (Nat → Int32)} {land_homes : (Nat → Int32)} {firstImage_told : Int32} {firstImage_low : Int32} {firstImage_high : Int32} {firstImage_price : Int32} {firstImage_hour : Int32} {firstImage_bidders : Int32} {firstImage_heights : (Nat → Int32)} {firstImage_holders : (Nat → Int32)} {firstImage_kinds : (Nat → Int32)} {firstImage_purses : (Nat → Int32)} {firstImage_homes : (Nat → Int32)} {secondImage_told : Int32} {secondImage_low : Int32} {secondImage_high : Int32} {secondImage_price : Int32} {secondImage_hour : Int32} {secondImage_bidders : Int32} {secondImage_heights : (Nat → Int32)} {secondImage_holders : (Nat → Int32)} {secondImage_kinds : (Nat → Int32)} {secondImage_purses : (Nat → Int32)} {secondImage_homes : (Nat → Int32)} {acts_saved : (Nat → Int32)} {acts_next : Int32} {acts_kept : Int32} {asks_bodies : (Nat → Int32)} {asks_traced : Int32} {asks_number : Int32} {asks_kind : Int32} {asks_purse : Int32} {asks_home : Int32} {m_status : Int32} {m_lane : (Nat → Int32)} {m_many : (Nat → Int32)} {m_item : (Nat → Int32)} {m_isle : (Nat → Int32)} {m_was : (Nat → Int32)} {m_acts : Int32} {m_tape : (Nat → Int32)} {m_taped : Int32} {m_latest : Int32} {m_isKept : (Nat → Int32)} {m_kept : (Nat → Int32)} {m_trace : (Nat → Int32)} {m_traced : Int32} (hI : LInv s_finding rows_lanes rows_lengths rows_items tape_bytes tape_length tape_faultNumber land_told land_low land_high land_price land_hour land_bidders land_heights land_holders land_kinds land_purses land_homes firstImage_told firstImage_low firstImage_high firstImage_price firstImage_hour firstImage_bidders firstImage_heights firstImage_holders firstImage_kinds firstImage_purses firstImage_homes secondImage_told secondImage_low secondImage_high secondImage_price secondImage_hour secondImage_bidders secondImage_heights secondImage_holders secondImage_kinds secondImage_purses secondImage_homes acts_saved acts_next acts_kept asks_bodies asks_traced m_status m_lane m_many m_item m_isle m_was m_acts m_tape m_taped m_latest m_isKept m_kept m_trace m_traced) (v1 : Int32) (v2 : Int32) : ∃ (r : Int32) (asks_bodies' : (Nat → Int32)) (asks_traced' : Int32) (asks_number' : Int32) (asks_kind' : Int32) (asks_purse' : Int32) (asks_home' : Int32) (m_thrown' : Int32) (m_trace' : (Nat → Int32)) (m_traced' : Int32), fX8_ask land_bidders land_kinds land_purses land_homes asks_bodies asks_traced asks_number asks_kind asks_purse asks_home v1 v2 = some (r, asks_bodies', asks_traced', asks_number', asks_kind', asks_purse', asks_home') ∧ fX9_ask m_isle m_trace m_traced v1 v2 = some (r, m_thrown', m_trace', m_traced') ∧ LInv s_finding rows_lanes rows_lengths rows_items tape_bytes tape_length tape_faultNumber land_told land_low land_high land_price land_hour land_bidders land_heights land_holders land_kinds land_purses land_homes firstImage_told firstImage_low firstImage_high firstImage_price firstImage_hour firstImage_bidders firstImage_heights firstImage_holders firstImage_kinds firstImage_purses firstImage_homes secondImage_told secondImage_low secondImage_high secondImage_price secondImage_hour secondImage_bidders secondImage_heights secondImage_holders secondImage_kinds secondImage_purses secondImage_homes acts_saved acts_next acts_kept asks_bodies' asks_traced' m_status m_lane m_many m_item m_isle m_was m_acts m_tape m_taped m_latest m_isKept m_kept m_trace' m_traced' := by
  obtain ⟨hst, hR, hT, hL, hO, hA, hI0, hI1, hTr⟩ := id hI
  obtain ⟨e0, e1, e2, e3, e5, e4, hh, ho, hb⟩ := id hL
  have hz := hO.2.1.1
  suffices H : ∃ (r : Int32) (asks_bodies' : (Nat → Int32)) (asks_traced' : Int32) (asks_number' : Int32) (asks_kind' : Int32) (asks_purse' : Int32) (asks_home' : Int32) (m_thrown' : Int32) (m_trace' : (Nat → Int32)) (m_traced' : Int32), fX8_ask land_bidders land_kinds land_purses land_homes asks_bodies asks_traced asks_number asks_kind asks_purse asks_home v1 v2 = some (r, asks_bodies', asks_traced', asks_number', asks_kind', asks_purse', asks_home') ∧ fX9_ask m_isle m_trace m_traced v1 v2 = some (r, m_thrown', m_trace', m_traced') ∧ RTr asks_bodies' asks_traced' m_trace' m_traced' by
    obtain ⟨r, a1, a2, a3, a4, a5, a6, b1, b2, b3, g1, g2, g3⟩ := H
    exact ⟨r, a1, a2, a3, a4, a5, a6, b1, b2, b3, g1, g2, hst, hR, hT, hL, hO, hA, hI0, hI1, g3⟩
  unfold fX8_ask fX9_ask
  rw [e4, e_hasB _ _ hz, e_isB _ _ hz, bd1_some, bd1_some, if_bI, if_bI, e_choice, bd1_some, if_bI, in_n (C := 1) v2 1 (by decide) rfl, bd1_some, if_bI]
  by_cases hv : rng (m_isle 4).toInt v1
  rotate_left 1
  · rw [if_neg hv, if_neg hv]
    exact ⟨_, _, _, _, _, _, _, _, _, _, rfl, rfl, hTr⟩
  by_cases h2 : rng 2 v2
  rotate_left 1
  · rw [if_pos hv, if_pos hv, if_neg h2, if_neg (show ¬ rng ((1 : Nat) + 1) v2 from h2)]
    exact ⟨_, _, _, _, _, _, _, _, _, _, rfl, rfl, hTr⟩
  obtain ⟨j, hj, hj4, ev⟩ := bid_of hO hv
  have hk := (hO.2.2.2.2.2.2.2 j hj4).1
  rw [if_pos hv, if_pos hv, if_pos h2, if_pos (show rng ((1 : Nat) + 1) v2 from h2), ev, turn_X (w := m_isle) hj (hb j hj4)]
  by_cases h0 : v2 = 0
  · obtain ⟨r, b', z', t, ht, hx, hm, heq⟩ := ask_s m_isle asks_bodies m_trace hj hk
    rw [nI_0] at hx hm
    refine ⟨r, b', nI t, nI j, m_isle (36 + 3 * j), m_isle (37 + 3 * j), m_isle (38 + 3 * j), 0, z', nI t, ?_, ?_, t, ht, rfl, rfl, heq⟩
    · show (if v2 = 0 then bd3 (fX1_sizeAsked asks_bodies 0 (nI j) (m_isle (36 + 3 * j)) (m_isle (37 + 3 * j)) (m_isle (38 + 3 * j))) _ else _) = _
      rw [if_pos h0, hx]
      rfl
    · rw [if_pos h0, hm]
      rfl
  · obtain ⟨r, b', z', t, ht, hx, hm, heq⟩ := ask_m m_isle asks_bodies m_trace hj hk
    rw [nI_0] at hx hm
    refine ⟨r, b', nI t, nI j, m_isle (36 + 3 * j), m_isle (37 + 3 * j), m_isle (38 + 3 * j), 0, z', nI t, ?_, ?_, t, ht, rfl, rfl, heq⟩
    · show (if v2 = 0 then _ else bd3 (fX1_markAsked asks_bodies 0 (nI j) (m_isle (36 + 3 * j)) (m_isle (37 + 3 * j)) (m_isle (38 + 3 * j))) _) = _
      rw [if_neg h0, hx]
      rfl
    · rw [if_neg h0, hm]
      rfl

