/-! the loops that gather sets of cells -/
theorem ite_arg {α β : Type} {c : Prop} [Decidable c] (f : α → β) {x y : α} : (if c then f x else f y) = f (if c then x else y) := by
  by_cases h : c
  · rw [if_pos h, if_pos h]
  · rw [if_neg h, if_neg h]
theorem le15 {k : Nat} (h : k < 15) : ¬ (15 : Int32) ≤ nI k := nI_ge h (by decide)
theorem ge15 : (15 : Int32) ≤ nI 15 := by decide
theorem fu_big {n : Nat} (h : n ≤ 39999) : n < FU := by unfold FU; omega
theorem cellsOf_X (z : Nat → Int32) (v : Int32) : fX3_cellsOf z v = some (orb (fun c => decide (z c = v)) 15) := by
  refine or_loop (fun n a i => fX3_cellsOf_L4 z v n a i) 15 (fun c => decide (z c = v)) some (fun n k a hk => ?_) (fun n a => ?_) FU (fu_big (by decide))
  · show fX3_cellsOf_L4 z v (n + 1) a (nI k) = _
    rw [fX3_cellsOf_L4.eq_2, if_neg (le15 hk), chk_t (nI_in hk (by decide)), nI_clamp (by omega), nI_succ]
    by_cases h : z k = v
    · rw [if_pos h, if_pos (decide_eq_true h)]
    · rw [if_neg h, if_neg (by rw [decide_eq_true_iff]; exact h)]
  · show fX3_cellsOf_L4 z v (n + 1) a (nI 15) = _
    rw [fX3_cellsOf_L4.eq_2, if_pos ge15]
theorem heldBy_M (w : Nat → Int32) (v : Int32) : fX9_heldBy w v = some (orb (fun c => decide (w (21 + c) = v + 1)) 15) := by
  refine or_loop (fun n a i => fX9_heldBy_L4 w v n a i) 15 (fun c => decide (w (21 + c) = v + 1)) some (fun n k a hk => ?_) (fun n a => ?_) FU (fu_big (by decide))
  · show fX9_heldBy_L4 w v (n + 1) a (nI k) = _
    rw [fX9_heldBy_L4.eq_2, if_neg (le15 hk), hold_c hk, chk_t (nI_in (show 21 + k < 51 by omega) (by decide)), nI_clamp (by omega), nI_succ, or0]
    by_cases h : w (21 + k) = v + 1
    · rw [if_pos h, if_pos (decide_eq_true h)]
    · rw [if_neg h, if_neg (by rw [decide_eq_true_iff]; exact h)]
  · show fX9_heldBy_L4 w v (n + 1) a (nI 15) = _
    rw [fX9_heldBy_L4.eq_2, if_pos ge15]
theorem heldOf_M (w : Nat → Int32) : fX9_heldOf w = some (orb (fun c => !decide (w (21 + c) ≤ 0)) 15) := by
  refine or_loop (fun n a i => fX9_heldOf_L4 w n a i) 15 (fun c => !decide (w (21 + c) ≤ 0)) some (fun n k a hk => ?_) (fun n a => ?_) FU (fu_big (by decide))
  · show fX9_heldOf_L4 w (n + 1) a (nI k) = _
    rw [fX9_heldOf_L4.eq_2, if_neg (le15 hk), hold_c hk, chk_t (nI_in (show 21 + k < 51 by omega) (by decide)), nI_clamp (by omega), nI_succ, or0]
    by_cases h : w (21 + k) ≤ 0
    · rw [if_pos h, if_neg (by simp [h])]
    · rw [if_neg h, if_pos (by simp [h])]
  · show fX9_heldOf_L4 w (n + 1) a (nI 15) = _
    rw [fX9_heldOf_L4.eq_2, if_pos ge15]
theorem dryOf_M (w : Nat → Int32) : fX9_dryOf w = some (orb (sDry w (w 5)) 15) := by
  refine or_loop (fun n a i => fX9_dryOf_L4 w n a i) 15 (sDry w (w 5)) some (fun n k a hk => ?_) (fun n a => ?_) FU (fu_big (by decide))
  · show fX9_dryOf_L4 w (n + 1) a (nI k) = _
    rw [fX9_dryOf_L4.eq_2, if_neg (le15 hk), dry_M w hk, bd1_some, if_bI, nI_succ, or0]
    exact ite_arg (fun z => fX9_dryOf_L4 w n z (nI k + 1))
  · show fX9_dryOf_L4 w (n + 1) a (nI 15) = _
    rw [fX9_dryOf_L4.eq_2, if_pos ge15]
theorem below_X (z : Nat → Int32) (v : Int32) : fX3_cellsBelow z v = some (orb (fun c => !decide (v ≤ z c)) 15) := by
  refine or_loop (fun n a i => fX3_cellsBelow_L4 z v n a i) 15 (fun c => !decide (v ≤ z c)) some (fun n k a hk => ?_) (fun n a => ?_) FU (fu_big (by decide))
  · show fX3_cellsBelow_L4 z v (n + 1) a (nI k) = _
    rw [fX3_cellsBelow_L4.eq_2, if_neg (le15 hk), chk_t (nI_in hk (by decide)), nI_clamp (by omega), nI_succ]
    by_cases h : v ≤ z k
    · rw [if_pos h, if_neg (by simp [h])]
    · rw [if_neg h, if_pos (by simp [h])]
  · show fX3_cellsBelow_L4 z v (n + 1) a (nI 15) = _
    rw [fX3_cellsBelow_L4.eq_2, if_pos ge15]
theorem held_X (z : Nat → Int32) : fX3_heldCells z = some (orb (fun c => !decide (z c = -1)) 15) := by
  unfold fX3_heldCells
  rw [cellsOf_X, bd1_some, orb_not]
/-- a holder, one less, and none -/
theorem sub1_eq {x y : Int32} : x - 1 = y ↔ x = y + 1 := by
  constructor
  · intro h
    rw [← h]
    apply Int32.toBitVec_inj.mp
    simp
  · intro h
    rw [h]
    apply Int32.toBitVec_inj.mp
    simp
theorem pos_iff {x : Int32} (h : 0 ≤ x.toInt) : ¬ x ≤ 0 ↔ ¬ x - 1 = -1 := by
  rw [sub1_eq, show (-1 : Int32) + 1 = 0 from rfl, Int32.le_iff_toInt_le, Int32.toInt_zero]
  constructor
  · intro q e
    rw [e, Int32.toInt_zero] at q
    omega
  · intro q e
    exact q (Int32.toInt_inj.mp (by rw [Int32.toInt_zero]; omega))
theorem held_eq {z w : Nat → Int32} (ho : ∀ c : Nat, c < 15 → z c = w (21 + c) - 1) (hr : ∀ c : Nat, c < 15 → 0 ≤ (w (21 + c)).toInt) : orb (fun c => !decide (z c = -1)) 15 = orb (fun c => !decide (w (21 + c) ≤ 0)) 15 := by
  refine orb_cg (fun c hc => ?_)
  rw [ho c hc]
  have := pos_iff (hr c hc)
  by_cases h : w (21 + c) ≤ 0
  · have h2 : w (21 + c) - 1 = -1 := Decidable.byContradiction (fun q => (this.mpr q) h)
    rw [decide_eq_true h, decide_eq_true h2]
  · rw [decide_eq_false h, decide_eq_false (this.mp h)]
theorem by_eq {z w : Nat → Int32} (ho : ∀ c : Nat, c < 15 → z c = w (21 + c) - 1) (v : Int32) : orb (fun c => decide (z c = v)) 15 = orb (fun c => decide (w (21 + c) = v + 1)) 15 := by
  refine orb_cg (fun c hc => ?_)
  rw [ho c hc]
  exact decide_eq_decide.mpr sub1_eq
theorem pu_bidder {s_finding : Int32} {rows_lanes : (Nat → Int32)} {rows_lengths : (Nat → Int32)} {rows_items : (Nat → Int32)} {tape_bytes : (Nat → Int32)} {tape_length : Int32} {tape_faultNumber : Int32} {land_told : Int32} {land_low : Int32} {land_high : Int32} {land_price : Int32} {land_hour : Int32} {land_bidders : Int32} {land_heights : (Nat → Int32)} {land_holders : (Nat → Int32)} {land_kinds : (Nat → Int32)} {land_purses : (Nat → Int32)} {land_homes : (Nat → Int32)} {firstImage_told : Int32} {firstImage_low : Int32} {firstImage_high : Int32} {firstImage_price : Int32} {firstImage_hour : Int32} {firstImage_bidders : Int32} {firstImage_heights : (Nat → Int32)} {firstImage_holders : (Nat → Int32)} {firstImage_kinds : (Nat → Int32)} {firstImage_purses : (Nat → Int32)} {firstImage_homes : (Nat → Int32)} {secondImage_told : Int32} {secondImage_low : Int32} {secondImage_high : Int32} {secondImage_price : Int32} {secondImage_hour : Int32} {secondImage_bidders : Int32} {secondImage_heights : (Nat → Int32)} {secondImage_holders : (Nat → Int32)} {secondImage_kinds : (Nat → Int32)} {secondImage_purses : (Nat → Int32)} {secondImage_homes : (Nat → Int32)} {acts_saved : (Nat → Int32)} {acts_next : Int32} {acts_kept : Int32} {asks_bodies : (Nat → Int32)} {asks_traced : Int32} {m_status : Int32} {m_lane : (Nat → Int32)} {m_many : (Nat → Int32)} {m_item : (Nat → Int32)} {m_isle : (Nat → Int32)} {m_was : (Nat → Int32)} {m_acts : Int32} {m_tape : (Nat → Int32)} {m_taped : Int32} {m_latest : Int32} {m_isKept : (Nat → Int32)} {m_kept : (Nat → Int32)} {m_trace : (Nat → Int32)} {m_traced : Int32} (hI : LInv s_finding rows_lanes rows_lengths rows_items tape_bytes tape_length tape_faultNumber land_told land_low land_high land_price land_hour land_bidders land_heights land_holders land_kinds land_purses land_homes firstImage_told firstImage_low firstImage_high firstImage_price firstImage_hour firstImage_bidders firstImage_heights firstImage_holders firstImage_kinds firstImage_purses firstImage_homes secondImage_told secondImage_low secondImage_high secondImage_price secondImage_hour secondImage_bidders secondImage_heights secondImage_holders secondImage_kinds secondImage_purses secondImage_homes acts_saved acts_next acts_kept asks_bodies asks_traced m_status m_lane m_many m_item m_isle m_was m_acts m_tape m_taped m_latest m_isKept m_kept m_trace m_traced) (v1 : Int32) (v2 : Int32) : ∃ (r : Int32) (m_thrown' : Int32), fX8_bidder land_bidders land_holders land_purses land_homes v1 v2 = some (r) ∧ fX9_bidder m_isle v1 v2 = some (r, m_thrown') ∧ LInv s_finding rows_lanes rows_lengths rows_items tape_bytes tape_length tape_faultNumber land_told land_low land_high land_price land_hour land_bidders land_heights land_holders land_kinds land_purses land_homes firstImage_told firstImage_low firstImage_high firstImage_price firstImage_hour firstImage_bidders firstImage_heights firstImage_holders firstImage_kinds firstImage_purses firstImage_homes secondImage_told secondImage_low secondImage_high secondImage_price secondImage_hour secondImage_bidders secondImage_heights secondImage_holders secondImage_kinds secondImage_purses secondImage_homes acts_saved acts_next acts_kept asks_bodies asks_traced m_status m_lane m_many m_item m_isle m_was m_acts m_tape m_taped m_latest m_isKept m_kept m_trace m_traced := by
  obtain ⟨hst, hR, hT, hL, hO, hrest⟩ := id hI
  refine ex_and2 ?_ hI
  obtain ⟨e0, e1, e2, e3, e5, e4, hh, ho, hb⟩ := hL
  have hz := hO.2.1.1
  unfold fX8_bidder fX9_bidder
  rw [e4, e_hasB _ _ hz, e_isB _ _ hz, bd1_some, bd1_some, if_bI, if_bI, in_n (C := 2) v2 2 (by decide) rfl, bd1_some, if_bI]
  by_cases hv : rng (m_isle 4).toInt v1
  · obtain ⟨j, hj, hj4, ev⟩ := bid_of hO hv
    rw [if_pos hv, if_pos hv]
    by_cases h0 : v2 = 0
    · refine ⟨m_isle (37 + 3 * j), 0, ?_, ?_⟩
      · rw [if_pos h0, ev]
        unfold fX3_purse
        rw [chk_t (nI_in hj (by decide)), nI_clamp (by omega), (hb j hj4).2.1]
        rfl
      · rw [h0, if_pos (by decide), if_neg (by decide), ev, show (1 : Int32) + 0 = 1 from rfl, e_of1 m_isle j hj]
        rfl
    · rw [if_neg h0]
      by_cases h1 : v2 = 1
      · refine ⟨m_isle (38 + 3 * j), 0, ?_, ?_⟩
        · rw [if_pos h1, ev]
          unfold fX3_homeOf
          rw [chk_t (nI_in hj (by decide)), nI_clamp (by omega), (hb j hj4).2.2]
          rfl
        · rw [h1, if_pos (by decide), if_neg (by decide), ev, show (1 : Int32) + 1 = 2 from rfl, e_of2 m_isle j hj]
          rfl
      · rw [if_neg h1]
        by_cases h2 : v2 = 2
        · refine ⟨orb (fun c => decide (m_isle (21 + c) = v1 + 1)) 15, 0, ?_, ?_⟩
          · rw [if_pos h2, cellsOf_X, by_eq ho]; rfl
          · rw [h2, if_pos (by decide), if_pos rfl, heldBy_M]; rfl
        · refine ⟨-1000001, 0, by rw [if_neg h2], ?_⟩
          rw [if_neg]
          rintro ⟨a, b⟩
          have n0 := ne_tn h0 (z := 0) rfl
          have n1 := ne_tn h1 (z := 1) rfl
          have n2 := ne_tn h2 (z := 2) rfl
          omega
  · exact ⟨-1000001, 0, by rw [if_neg hv], by rw [if_neg hv]⟩
theorem pu_price {s_finding : Int32} {rows_lanes : (Nat → Int32)} {rows_lengths : (Nat → Int32)} {rows_items : (Nat → Int32)} {tape_bytes : (Nat → Int32)} {tape_length : Int32} {tape_faultNumber : Int32} {land_told : Int32} {land_low : Int32} {land_high : Int32} {land_price : Int32} {land_hour : Int32} {land_bidders : Int32} {land_heights : (Nat → Int32)} {land_holders : (Nat → Int32)} {land_kinds : (Nat → Int32)} {land_purses : (Nat → Int32)} {land_homes : (Nat → Int32)} {firstImage_told : Int32} {firstImage_low : Int32} {firstImage_high : Int32} {firstImage_price : Int32} {firstImage_hour : Int32} {firstImage_bidders : Int32} {firstImage_heights : (Nat → Int32)} {firstImage_holders : (Nat → Int32)} {firstImage_kinds : (Nat → Int32)} {firstImage_purses : (Nat → Int32)} {firstImage_homes : (Nat → Int32)} {secondImage_told : Int32} {secondImage_low : Int32} {secondImage_high : Int32} {secondImage_price : Int32} {secondImage_hour : Int32} {secondImage_bidders : Int32} {secondImage_heights : (Nat → Int32)} {secondImage_holders : (Nat → Int32)} {secondImage_kinds : (Nat → Int32)} {secondImage_purses : (Nat → Int32)} {secondImage_homes : (Nat → Int32)} {acts_saved : (Nat → Int32)} {acts_next : Int32} {acts_kept : Int32} {asks_bodies : (Nat → Int32)} {asks_traced : Int32} {m_status : Int32} {m_lane : (Nat → Int32)} {m_many : (Nat → Int32)} {m_item : (Nat → Int32)} {m_isle : (Nat → Int32)} {m_was : (Nat → Int32)} {m_acts : Int32} {m_tape : (Nat → Int32)} {m_taped : Int32} {m_latest : Int32} {m_isKept : (Nat → Int32)} {m_kept : (Nat → Int32)} {m_trace : (Nat → Int32)} {m_traced : Int32} (hI : LInv s_finding rows_lanes rows_lengths rows_items tape_bytes tape_length tape_faultNumber land_told land_low land_high land_price land_hour land_bidders land_heights land_holders land_kinds land_purses land_homes firstImage_told firstImage_low firstImage_high firstImage_price firstImage_hour firstImage_bidders firstImage_heights firstImage_holders firstImage_kinds firstImage_purses firstImage_homes secondImage_told secondImage_low secondImage_high secondImage_price secondImage_hour secondImage_bidders secondImage_heights secondImage_holders secondImage_kinds secondImage_purses secondImage_homes acts_saved acts_next acts_kept asks_bodies asks_traced m_status m_lane m_many m_item m_isle m_was m_acts m_tape m_taped m_latest m_isKept m_kept m_trace m_traced) (v1 : Int32) (v2 : Int32) : ∃ (r : Int32) (m_thrown' : Int32), fX8_price land_low land_high land_price land_hour land_bidders land_heights land_kinds v1 v2 = some (r) ∧ fX9_price m_isle v1 v2 = some (r, m_thrown') ∧ LInv s_finding rows_lanes rows_lengths rows_items tape_bytes tape_length tape_faultNumber land_told land_low land_high land_price land_hour land_bidders land_heights land_holders land_kinds land_purses land_homes firstImage_told firstImage_low firstImage_high firstImage_price firstImage_hour firstImage_bidders firstImage_heights firstImage_holders firstImage_kinds firstImage_purses firstImage_homes secondImage_told secondImage_low secondImage_high secondImage_price secondImage_hour secondImage_bidders secondImage_heights secondImage_holders secondImage_kinds secondImage_purses secondImage_homes acts_saved acts_next acts_kept asks_bodies asks_traced m_status m_lane m_many m_item m_isle m_was m_acts m_tape m_taped m_latest m_isKept m_kept m_trace m_traced := by
  obtain ⟨hst, hR, hT, hL, hO, hrest⟩ := id hI
  refine ex_and2 ?_ hI
  obtain ⟨e0, e1, e2, e3, e5, e4, hh, ho, hb⟩ := hL
  have hz := hO.2.1.1
  unfold fX8_price fX9_price
  rw [e4, e_hasB _ _ hz, e_isB _ _ hz, bd1_some, bd1_some, if_bI, if_bI, e_isCell8, e_isCell9, bd1_some, bd1_some, if_bI, if_bI]
  by_cases hv : rng (m_isle 4).toInt v1
  · obtain ⟨j, hj, hj4, ev⟩ := bid_of hO hv
    rw [if_pos hv, if_pos hv]
    by_cases hc : rng 15 v2
    · obtain ⟨c, hc, ec⟩ := rng_of (n := 15) hc (by decide)
      have hk := (hO.2.2.2.2.2.2.2 j hj4).1
      rw [if_pos (by rw [ec]; exact rng_nI hc (by decide)), if_pos (by rw [ec]; exact rng_nI hc (by decide)), ev, ec, e1, e2, e3, e5, have_X m_isle land_heights land_kinds (m_isle 5) hj hc (hh c hc), have_M m_isle hj hc, bd1_some, bd1_some, (hb j hj4).1, add0, if_bI, if_bI,
        costTo_X m_isle land_heights land_kinds hj hc (hh c hc) (hb j hj4).1 hk, e_of0 m_isle j hj]
      simp only [bd1_some, cost_M m_isle _ hc]
      by_cases hs : sHave m_isle (m_isle (36 + 3 * j)) (m_isle 5) c = true
      · exact ⟨_, 0, by rw [if_pos hs], by rw [if_pos hs]⟩
      · exact ⟨_, 0, by rw [if_neg hs], by rw [if_neg hs]⟩
    · exact ⟨-1000001, 0, by rw [if_neg hc], by rw [if_neg hc]⟩
  · exact ⟨-1000001, 0, by rw [if_neg hv], by rw [if_neg hv]⟩

