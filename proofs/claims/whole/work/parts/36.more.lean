/-! what a kind is; a cell; counts -/
theorem isA_eq {k v : Int32} (hk : k = 1 ∨ k = 2 ∨ k = 3 ∨ k = 4 ∨ k = 5) (hv : v = 0 ∨ v = 1 ∨ v = 2 ∨ v = 3 ∨ v = 4 ∨ v = 5) : ∃ b : Bool, fX4_isA k v = some (bI (b = true)) ∧ fX9_isOf k v = some (bI (b = true)) := by
  have key : ∀ k ∈ ([1, 2, 3, 4, 5] : List Int32), ∀ v ∈ ([0, 1, 2, 3, 4, 5] : List Int32), fX4_isA k v = fX9_isOf k v ∧ (fX9_isOf k v = some 0 ∨ fX9_isOf k v = some 1) := by decide +kernel
  have hk2 : k ∈ ([1, 2, 3, 4, 5] : List Int32) := by rcases hk with rfl | rfl | rfl | rfl | rfl <;> simp
  have hv2 : v ∈ ([0, 1, 2, 3, 4, 5] : List Int32) := by rcases hv with rfl | rfl | rfl | rfl | rfl | rfl <;> simp
  obtain ⟨e, h⟩ := key k hk2 v hv2
  rcases h with h | h
  · exact ⟨false, by rw [e, h]; rfl, by rw [h]; rfl⟩
  · exact ⟨true, by rw [e, h]; rfl, by rw [h]; rfl⟩
theorem six_of {v : Int32} (h : rng ((5 : Nat) + 1) v) : v = 0 ∨ v = 1 ∨ v = 2 ∨ v = 3 ∨ v = 4 ∨ v = 5 := by
  obtain ⟨j, hj, e⟩ := rng_of (n := 6) h (by decide)
  rcases (show j = 0 ∨ j = 1 ∨ j = 2 ∨ j = 3 ∨ j = 4 ∨ j = 5 by omega) with rfl | rfl | rfl | rfl | rfl | rfl
  · exact Or.inl e
  · exact Or.inr (Or.inl e)
  · exact Or.inr (Or.inr (Or.inl e))
  · exact Or.inr (Or.inr (Or.inr (Or.inl e)))
  · exact Or.inr (Or.inr (Or.inr (Or.inr (Or.inl e))))
  · exact Or.inr (Or.inr (Or.inr (Or.inr (Or.inr e))))
theorem pu_as {s_finding : Int32} {rows_lanes : (Nat → Int32)} {rows_lengths : (Nat → Int32)} {rows_items : (Nat → Int32)} {tape_bytes : (Nat → Int32)} {tape_length : Int32} {tape_faultNumber : Int32} {land_told : Int32} {land_low : Int32} {land_high : Int32} {land_price : Int32} {land_hour : Int32} {land_bidders : Int32} {land_heights : (Nat → Int32)} {land_holders : (Nat → Int32)} {land_kinds : (Nat → Int32)} {land_purses : (Nat → Int32)} {land_homes : (Nat → Int32)} {firstImage_told : Int32} {firstImage_low : Int32} {firstImage_high : Int32} {firstImage_price : Int32} {firstImage_hour : Int32} {firstImage_bidders : Int32} {firstImage_heights : (Nat → Int32)} {firstImage_holders : (Nat → Int32)} {firstImage_kinds : (Nat → Int32)} {firstImage_purses : (Nat → Int32)} {firstImage_homes : (Nat → Int32)} {secondImage_told : Int32} {secondImage_low : Int32} {secondImage_high : Int32} {secondImage_price : Int32} {secondImage_hour : Int32} {secondImage_bidders : Int32} {secondImage_heights : (Nat → Int32)} {secondImage_holders : (Nat → Int32)} {secondImage_kinds : (Nat → Int32)} {secondImage_purses : (Nat → Int32)} {secondImage_homes : (Nat → Int32)} {acts_saved : (Nat → Int32)} {acts_next : Int32} {acts_kept : Int32} {asks_bodies : (Nat → Int32)} {asks_traced : Int32} {m_status : Int32} {m_lane : (Nat → Int32)} {m_many : (Nat → Int32)} {m_item : (Nat → Int32)} {m_isle : (Nat → Int32)} {m_was : (Nat → Int32)} {m_acts : Int32} {m_tape : (Nat → Int32)} {m_taped : Int32} {m_latest : Int32} {m_isKept : (Nat → Int32)} {m_kept : (Nat → Int32)} {m_trace : (Nat → Int32)} {m_traced : Int32} (hI : LInv s_finding rows_lanes rows_lengths rows_items tape_bytes tape_length tape_faultNumber land_told land_low land_high land_price land_hour land_bidders land_heights land_holders land_kinds land_purses land_homes firstImage_told firstImage_low firstImage_high firstImage_price firstImage_hour firstImage_bidders firstImage_heights firstImage_holders firstImage_kinds firstImage_purses firstImage_homes secondImage_told secondImage_low secondImage_high secondImage_price secondImage_hour secondImage_bidders secondImage_heights secondImage_holders secondImage_kinds secondImage_purses secondImage_homes acts_saved acts_next acts_kept asks_bodies asks_traced m_status m_lane m_many m_item m_isle m_was m_acts m_tape m_taped m_latest m_isKept m_kept m_trace m_traced) (v1 : Int32) (v2 : Int32) : ∃ (r : Int32) (s_finding' : Int32) (m_thrown' : Int32) (m_status' : Int32), fX8_as s_finding land_bidders land_kinds v1 v2 = some (r, s_finding') ∧ fX9_as m_status m_isle v1 v2 = some (r, m_thrown', m_status') ∧ LInv s_finding' rows_lanes rows_lengths rows_items tape_bytes tape_length tape_faultNumber land_told land_low land_high land_price land_hour land_bidders land_heights land_holders land_kinds land_purses land_homes firstImage_told firstImage_low firstImage_high firstImage_price firstImage_hour firstImage_bidders firstImage_heights firstImage_holders firstImage_kinds firstImage_purses firstImage_homes secondImage_told secondImage_low secondImage_high secondImage_price secondImage_hour secondImage_bidders secondImage_heights secondImage_holders secondImage_kinds secondImage_purses secondImage_homes acts_saved acts_next acts_kept asks_bodies asks_traced m_status' m_lane m_many m_item m_isle m_was m_acts m_tape m_taped m_latest m_isKept m_kept m_trace m_traced := by
  obtain ⟨hst, hR, hT, hL, hO, hrest⟩ := id hI
  suffices H : ∃ r sf th st, fX8_as s_finding land_bidders land_kinds v1 v2 = some (r, sf) ∧ fX9_as m_status m_isle v1 v2 = some (r, th, st) ∧ sf = st by
    obtain ⟨r, sf, th, st, a, b, c⟩ := H
    exact ⟨r, sf, th, st, a, b, c, hR, hT, hL, hO, hrest⟩
  obtain ⟨e0, e1, e2, e3, e5, e4, hh, ho, hb⟩ := hL
  have hz := hO.2.1.1
  unfold fX8_as fX9_as
  rw [e4, e_hasB _ _ hz, e_isB _ _ hz, bd1_some, bd1_some, if_bI, if_bI, in_n (C := 5) v2 5 (by decide) rfl, bd1_some, if_bI]
  by_cases hv : rng (m_isle 4).toInt v1
  · obtain ⟨j, hj, hj4, ev⟩ := bid_of hO hv
    rw [if_pos hv, if_pos hv]
    have hk := (hO.2.2.2.2.2.2.2 j hj4).1
    by_cases h2 : rng ((5 : Nat) + 1) v2
    · have q0 : ¬ v2 < 0 := by rw [Int32.lt_iff_toInt_lt, Int32.toInt_zero]; have := h2.1; omega
      have q5 : v2 ≤ 5 := by rw [Int32.le_iff_toInt_le, show (5 : Int32).toInt = 5 from rfl]; have := h2.2; omega
      obtain ⟨b, b1, b2⟩ := isA_eq (kind_of hk) (six_of h2)
      rw [if_pos h2, if_neg q0, if_pos q5, ev, e_of0 m_isle j hj]
      unfold fX3_kindOf
      rw [chk_t (nI_in hj (by decide)), nI_clamp (by omega), (hb j hj4).1]
      simp only [bd1_some, b1, b2, if_bI]
      cases b
      · exact ⟨-1000013, 3, 0, 3, rfl, rfl, rfl⟩
      · exact ⟨nI j, 0, 0, 0, rfl, rfl, rfl⟩
    · rw [if_neg h2]
      refine ⟨-1000001, s_finding, 0, m_status, ?_, rfl, hst⟩
      by_cases q0 : v2 < 0
      · rw [if_pos q0]
      · rw [if_neg q0, if_neg]
        rw [Int32.lt_iff_toInt_lt, Int32.toInt_zero] at q0
        rw [Int32.le_iff_toInt_le, show (5 : Int32).toInt = 5 from rfl]
        unfold rng at h2
        omega
  · rw [if_neg hv, if_neg hv]
    exact ⟨-1000001, s_finding, 0, m_status, rfl, rfl, hst⟩
theorem told_X {w : Nat → Int32} (hO : OkI w) : fX3_isTold (w 0) = some (bI (w 0 = 1)) := by
  unfold fX3_isTold
  rcases hO.1 with ⟨h, -⟩ | ⟨h, -⟩
  · rw [h]; rfl
  · rw [h]; rfl
theorem there_M (w : Nat → Int32) : fX9_isThere w = some (bI (w 0 = 1)) := by
  unfold fX9_isThere
  have e : (0 : Int32).toNatClampNeg = 0 := rfl
  rw [e]
  by_cases h : w 0 = 1
  · rw [if_pos h, bI_t h]
  · rw [if_neg h, bI_f h]
/-- a number that isn't negative and small -/
theorem nat_of {x : Int32} {n : Nat} (h0 : 0 ≤ x.toInt) (h1 : x.toInt ≤ n) (hn : n < 2 ^ 30) : ∃ k : Nat, k ≤ n ∧ x = nI k := by
  obtain ⟨k, hk, e⟩ := rng_of (n := n + 1) (v := x) ⟨h0, by omega⟩ (by omega)
  exact ⟨k, by omega, e⟩
theorem six_nat {n : Nat} (hn : n < 2 ^ 31) : ∃ s : Nat, s ≤ 6 ∧ sSix (nI n) = nI s := by
  unfold sSix
  have e : nI n - nI n / 12 * 12 = nI (n % 12) := by
    rw [show (12 : Int32) = nI 12 from rfl, pk_rem hn (by decide) (by decide)]
  rw [e]
  by_cases h : 6 < n % 12
  · rw [if_pos (show (6 : Int32) < nI (n % 12) from nI_lt h (by omega))]
    exact ⟨12 - n % 12, by omega, by rw [show (12 : Int32) = nI 12 from rfl, pk_sub (by omega)]⟩
  · rw [if_neg (show ¬ (6 : Int32) < nI (n % 12) from nI_nlt (Nat.not_lt.mp h) (by decide))]
    exact ⟨n % 12, by omega, rfl⟩
theorem lev_nat {B : Int} {w : Nat → Int32} (hO : OkH B w) {n : Nat} (hn : n < 2 ^ 31) : ∃ v : Nat, v ≤ 9 ∧ sLev w (nI n) = nI v := by
  obtain ⟨-, -, ⟨a1, a2, a3⟩, -⟩ := hO
  obtain ⟨b, hb, eb⟩ := nat_of (n := 9) (x := w 2) (by omega) (by omega) (by decide)
  have hb2 : (w 2).toInt = b := by rw [eb, nI_toInt (by omega)]
  obtain ⟨a, ha, ea⟩ := nat_of (n := b) (x := w 1) a1 (by omega) (by omega)
  obtain ⟨s, hs, es⟩ := six_nat hn
  unfold sLev
  have h1 : (b - a) * s ≤ 9 * 6 := Nat.mul_le_mul (by omega) hs
  have h2 : (b - a) * s ≤ (b - a) * 6 := Nat.mul_le_mul (Nat.le_refl _) hs
  rw [es, ea, eb, pk_sub ha, pk_mul, show (6 : Int32) = nI 6 from rfl, pk_div (by omega) (by decide) (by decide), nI_add]
  exact ⟨_, by omega, rfl⟩
theorem hour_nat {B : Nat} {w : Nat → Int32} (hO : OkH B w) (hB : B < 2 ^ 30) : ∃ n : Nat, n ≤ B ∧ w 5 = nI n := by
  obtain ⟨-, -, -, -, ⟨a, b⟩, -⟩ := hO
  exact nat_of a b hB
theorem pu_cell {s_finding : Int32} {rows_lanes : (Nat → Int32)} {rows_lengths : (Nat → Int32)} {rows_items : (Nat → Int32)} {tape_bytes : (Nat → Int32)} {tape_length : Int32} {tape_faultNumber : Int32} {land_told : Int32} {land_low : Int32} {land_high : Int32} {land_price : Int32} {land_hour : Int32} {land_bidders : Int32} {land_heights : (Nat → Int32)} {land_holders : (Nat → Int32)} {land_kinds : (Nat → Int32)} {land_purses : (Nat → Int32)} {land_homes : (Nat → Int32)} {firstImage_told : Int32} {firstImage_low : Int32} {firstImage_high : Int32} {firstImage_price : Int32} {firstImage_hour : Int32} {firstImage_bidders : Int32} {firstImage_heights : (Nat → Int32)} {firstImage_holders : (Nat → Int32)} {firstImage_kinds : (Nat → Int32)} {firstImage_purses : (Nat → Int32)} {firstImage_homes : (Nat → Int32)} {secondImage_told : Int32} {secondImage_low : Int32} {secondImage_high : Int32} {secondImage_price : Int32} {secondImage_hour : Int32} {secondImage_bidders : Int32} {secondImage_heights : (Nat → Int32)} {secondImage_holders : (Nat → Int32)} {secondImage_kinds : (Nat → Int32)} {secondImage_purses : (Nat → Int32)} {secondImage_homes : (Nat → Int32)} {acts_saved : (Nat → Int32)} {acts_next : Int32} {acts_kept : Int32} {asks_bodies : (Nat → Int32)} {asks_traced : Int32} {m_status : Int32} {m_lane : (Nat → Int32)} {m_many : (Nat → Int32)} {m_item : (Nat → Int32)} {m_isle : (Nat → Int32)} {m_was : (Nat → Int32)} {m_acts : Int32} {m_tape : (Nat → Int32)} {m_taped : Int32} {m_latest : Int32} {m_isKept : (Nat → Int32)} {m_kept : (Nat → Int32)} {m_trace : (Nat → Int32)} {m_traced : Int32} (hI : LInv s_finding rows_lanes rows_lengths rows_items tape_bytes tape_length tape_faultNumber land_told land_low land_high land_price land_hour land_bidders land_heights land_holders land_kinds land_purses land_homes firstImage_told firstImage_low firstImage_high firstImage_price firstImage_hour firstImage_bidders firstImage_heights firstImage_holders firstImage_kinds firstImage_purses firstImage_homes secondImage_told secondImage_low secondImage_high secondImage_price secondImage_hour secondImage_bidders secondImage_heights secondImage_holders secondImage_kinds secondImage_purses secondImage_homes acts_saved acts_next acts_kept asks_bodies asks_traced m_status m_lane m_many m_item m_isle m_was m_acts m_tape m_taped m_latest m_isKept m_kept m_trace m_traced) (v1 : Int32) (v2 : Int32) : ∃ (r : Int32) (m_thrown' : Int32), fX8_cell land_told land_low land_high land_hour land_heights land_holders v1 v2 = some (r) ∧ fX9_cell m_isle v1 v2 = some (r, m_thrown') ∧ LInv s_finding rows_lanes rows_lengths rows_items tape_bytes tape_length tape_faultNumber land_told land_low land_high land_price land_hour land_bidders land_heights land_holders land_kinds land_purses land_homes firstImage_told firstImage_low firstImage_high firstImage_price firstImage_hour firstImage_bidders firstImage_heights firstImage_holders firstImage_kinds firstImage_purses firstImage_homes secondImage_told secondImage_low secondImage_high secondImage_price secondImage_hour secondImage_bidders secondImage_heights secondImage_holders secondImage_kinds secondImage_purses secondImage_homes acts_saved acts_next acts_kept asks_bodies asks_traced m_status m_lane m_many m_item m_isle m_was m_acts m_tape m_taped m_latest m_isKept m_kept m_trace m_traced := by
  obtain ⟨hst, hR, hT, hL, hO, hrest⟩ := id hI
  refine ex_and2 ?_ hI
  obtain ⟨e0, e1, e2, e3, e5, e4, hh, ho, hb⟩ := hL
  unfold fX8_cell fX9_cell
  rw [e0, told_X hO, there_M, e_isCell8, e_isCell9]
  simp only [bd1_some, if_bI]
  by_cases hw : m_isle 0 = 1
  · rw [if_pos hw, if_pos hw]
    by_cases hc : rng 15 v1
    · obtain ⟨c, hc2, ec⟩ := rng_of (n := 15) hc (by decide)
      rw [if_pos hc, if_pos hc, ec]
      by_cases h0 : v2 = 0
      · rw [if_pos h0, if_pos h0]
        refine ⟨m_isle (6 + c), 0, ?_, ?_⟩
        · unfold fX3_height
          rw [chk_t (nI_in hc2 (by decide)), nI_clamp (by omega), hh c hc2]; rfl
        · rw [six_c hc2, chk_t (nI_in (show 6 + c < 51 by omega) (by decide)), nI_clamp (by omega)]
      · rw [if_neg h0, if_neg h0]
        by_cases h1 : v2 = 1
        · rw [if_pos h1, if_pos h1]
          unfold fX3_isHeld fX3_holder
          rw [chk_t (nI_in hc2 (by decide)), chk_t (nI_in hc2 (by decide)), hold_c hc2, chk_t (nI_in (show 21 + c < 51 by omega) (by decide)), chk_t (nI_in (show 21 + c < 51 by omega) (by decide)), nI_clamp (by omega), nI_clamp (by omega), ho c hc2]
          by_cases hz : m_isle (21 + c) = 0
          · refine ⟨-1000000, 0, ?_, by rw [if_pos hz]⟩
            rw [hz]; rfl
          · have hz2 : ¬ m_isle (21 + c) - 1 = -1 := fun q => hz (sub1_eq.mp q)
            refine ⟨m_isle (21 + c) - 1, 0, ?_, by rw [if_neg hz]⟩
            rw [if_neg hz2, bd1_some, if_neg n10]; rfl
        · rw [if_neg h1, if_neg h1]
          by_cases h2 : v2 = 2
          · rw [if_pos h2, if_pos h2, e1, e2, e5, dry_X m_isle land_heights (m_isle 5) 0 hc2 (hh c hc2), dry_M m_isle hc2, add0, bd1_some, bd1_some, if_bI, if_bI]
            by_cases hd : sDry m_isle (m_isle 5) c = true
            · exact ⟨1, 0, by rw [if_pos hd], by rw [if_pos hd]⟩
            · exact ⟨0, 0, by rw [if_neg hd], by rw [if_neg hd]⟩
          · rw [if_neg h2, if_neg h2]
            by_cases h3 : v2 = 3
            · obtain ⟨n, hn, en⟩ := hour_nat (B := 999) hO (by decide)
              obtain ⟨v, hv, elv⟩ := lev_nat hO (n := n) (by omega)
              obtain ⟨q0, q1⟩ := hO.2.2.2.2.2.1 c hc2
              obtain ⟨x, hx, ex⟩ := nat_of (n := 9) q0 (by omega) (by decide)
              rw [if_pos h3, if_pos h3, e1, e2, e5, lev_X, add0, bd1_some]
              unfold fX3_height fX9_deepOf
              rw [chk_t (nI_in hc2 (by decide)), nI_clamp (by omega), hh c hc2, bd1_some, dry_M m_isle hc2, bd1_some, if_bI]
              have e5' : (5 : Int32).toNatClampNeg = 5 := rfl
              rw [e5', lev_M, bd1_some, six_c hc2, chk_t (nI_in (show 6 + c < 51 by omega) (by decide)), nI_clamp (by omega), en, elv, ex]
              unfold sDry
              rw [en] at *
              rw [elv, ex]
              by_cases hd : v < x
              · have hd2 : nI v < nI x := nI_lt hd (by omega)
                refine ⟨0, 0, ?_, by rw [if_pos (decide_eq_true hd2)]; rfl⟩
                unfold imax
                rw [if_neg]
                have := pk_sneg (a := v) (b := x) (by omega) hd
                intro q
                exact absurd q (by rw [Int32.not_lt]; exact Int32.le_of_lt this)
              · have hd2 : ¬ nI v < nI x := nI_nlt (Nat.not_lt.mp hd) (by omega)
                refine ⟨nI (v - x), 0, ?_, by rw [if_neg (by rw [decide_eq_true_iff]; exact hd2), bd1_some, pk_sub (Nat.not_lt.mp hd)]⟩
                unfold imax
                rw [pk_sub (Nat.not_lt.mp hd)]
                by_cases hz : v - x = 0
                · rw [hz]; rfl
                · rw [if_pos]
                  exact nI_lt (a := 0) (by omega) (by omega)
            · exact ⟨-1000001, 0, by rw [if_neg h3], by rw [if_neg h3]⟩
    · exact ⟨-1000001, 0, by rw [if_neg hc], by rw [if_neg hc]⟩
  · exact ⟨-1000002, 0, by rw [if_neg hw], by rw [if_neg hw]⟩
theorem there_eq {lanes lane : Nat → Int32} (h : ∀ r : Nat, r < 8 → lanes r = lane r ∧ (lane r = -1 ∨ lane r = 0 ∨ lane r = 1 ∨ lane r = 2)) : ∃ r, fX5_there lanes = some r ∧ fX9_count_L58 lane FU 0 0 = some (r, 0) := by
  refine ⟨itr (fun k a => if lane k = -1 then a else a + 1) 8 0, ?_, ?_⟩
  · refine (for_loop (fun n a i => fX5_there_L4 lanes n a i) 8 (fun k a => if lane k = -1 then a else a + 1) some (fun _ _ => True) (fun n k a hk _ => ⟨?_, trivial⟩) (fun n a _ => ?_) 0 trivial FU (fu_big (by decide))).1
    · show fX5_there_L4 lanes (n + 1) a (nI k) = _
      rw [fX5_there_L4.eq_2, if_neg (show ¬ (8 : Int32) ≤ nI k from nI_ge hk (by decide)), miss_X _ hk, bd1_some, if_bI, (h k hk).1, nI_succ]
      exact ite_arg (fun z => fX5_there_L4 lanes n z (nI k + 1))
    · show fX5_there_L4 lanes (n + 1) a (nI 8) = _
      rw [fX5_there_L4.eq_2, if_pos (by decide)]
  · refine (for_loop (fun n a i => fX9_count_L58 lane n a i) 8 (fun k a => if lane k = -1 then a else a + 1) (fun a => some (a, 0)) (fun _ _ => True) (fun n k a hk _ => ⟨?_, trivial⟩) (fun n a _ => ?_) 0 trivial FU (fu_big (by decide))).1
    · show fX9_count_L58 lane (n + 1) a (nI k) = _
      rw [fX9_count_L58.eq_2, if_neg (show ¬ (8 : Int32) ≤ nI k from nI_ge hk (by decide)), chk_t (nI_in hk (by decide)), nI_clamp (by omega), nI_succ, add0]
      rcases (h k hk).2 with q | q
      · rw [q, if_pos (by decide), if_pos rfl]
      · obtain ⟨l1, l2, l3⟩ := lane_pos q
        rw [if_neg l3, if_neg l2]
    · show fX9_count_L58 lane (n + 1) a (nI 8) = _
      rw [fX9_count_L58.eq_2, if_pos (by decide)]
theorem pu_count {s_finding : Int32} {rows_lanes : (Nat → Int32)} {rows_lengths : (Nat → Int32)} {rows_items : (Nat → Int32)} {tape_bytes : (Nat → Int32)} {tape_length : Int32} {tape_faultNumber : Int32} {land_told : Int32} {land_low : Int32} {land_high : Int32} {land_price : Int32} {land_hour : Int32} {land_bidders : Int32} {land_heights : (Nat → Int32)} {land_holders : (Nat → Int32)} {land_kinds : (Nat → Int32)} {land_purses : (Nat → Int32)} {land_homes : (Nat → Int32)} {firstImage_told : Int32} {firstImage_low : Int32} {firstImage_high : Int32} {firstImage_price : Int32} {firstImage_hour : Int32} {firstImage_bidders : Int32} {firstImage_heights : (Nat → Int32)} {firstImage_holders : (Nat → Int32)} {firstImage_kinds : (Nat → Int32)} {firstImage_purses : (Nat → Int32)} {firstImage_homes : (Nat → Int32)} {secondImage_told : Int32} {secondImage_low : Int32} {secondImage_high : Int32} {secondImage_price : Int32} {secondImage_hour : Int32} {secondImage_bidders : Int32} {secondImage_heights : (Nat → Int32)} {secondImage_holders : (Nat → Int32)} {secondImage_kinds : (Nat → Int32)} {secondImage_purses : (Nat → Int32)} {secondImage_homes : (Nat → Int32)} {acts_saved : (Nat → Int32)} {acts_next : Int32} {acts_kept : Int32} {asks_bodies : (Nat → Int32)} {asks_traced : Int32} {m_status : Int32} {m_lane : (Nat → Int32)} {m_many : (Nat → Int32)} {m_item : (Nat → Int32)} {m_isle : (Nat → Int32)} {m_was : (Nat → Int32)} {m_acts : Int32} {m_tape : (Nat → Int32)} {m_taped : Int32} {m_latest : Int32} {m_isKept : (Nat → Int32)} {m_kept : (Nat → Int32)} {m_trace : (Nat → Int32)} {m_traced : Int32} (hI : LInv s_finding rows_lanes rows_lengths rows_items tape_bytes tape_length tape_faultNumber land_told land_low land_high land_price land_hour land_bidders land_heights land_holders land_kinds land_purses land_homes firstImage_told firstImage_low firstImage_high firstImage_price firstImage_hour firstImage_bidders firstImage_heights firstImage_holders firstImage_kinds firstImage_purses firstImage_homes secondImage_told secondImage_low secondImage_high secondImage_price secondImage_hour secondImage_bidders secondImage_heights secondImage_holders secondImage_kinds secondImage_purses secondImage_homes acts_saved acts_next acts_kept asks_bodies asks_traced m_status m_lane m_many m_item m_isle m_was m_acts m_tape m_taped m_latest m_isKept m_kept m_trace m_traced) (v1 : Int32) : ∃ (r : Int32) (m_thrown' : Int32), fX8_count rows_lanes tape_length land_low land_high land_price land_hour land_bidders land_holders acts_kept v1 = some (r) ∧ fX9_count m_lane m_isle m_acts m_taped v1 = some (r, m_thrown') ∧ LInv s_finding rows_lanes rows_lengths rows_items tape_bytes tape_length tape_faultNumber land_told land_low land_high land_price land_hour land_bidders land_heights land_holders land_kinds land_purses land_homes firstImage_told firstImage_low firstImage_high firstImage_price firstImage_hour firstImage_bidders firstImage_heights firstImage_holders firstImage_kinds firstImage_purses firstImage_homes secondImage_told secondImage_low secondImage_high secondImage_price secondImage_hour secondImage_bidders secondImage_heights secondImage_holders secondImage_kinds secondImage_purses secondImage_homes acts_saved acts_next acts_kept asks_bodies asks_traced m_status m_lane m_many m_item m_isle m_was m_acts m_tape m_taped m_latest m_isKept m_kept m_trace m_traced := by
  obtain ⟨hst, hR, hT, hL, hO, hA, hrest⟩ := id hI
  refine ex_and2 ?_ hI
  obtain ⟨e0, e1, e2, e3, e5, e4, hh, ho, hb⟩ := hL
  obtain ⟨-, t, ht, t1, t2, -⟩ := hT
  obtain ⟨a, nx, ha, hnx, k1, k2, -⟩ := hA
  unfold fX8_count fX9_count
  by_cases h0 : v1 = 0
  · rw [if_pos h0, if_pos h0]
    obtain ⟨r, a1, a2⟩ := there_eq (fun r hr => ⟨(hR r hr).1, (hR r hr).2.imp id (fun q => q.1)⟩)
    exact ⟨r, 0, by rw [a1]; rfl, a2⟩
  · rw [if_neg h0, if_neg h0]
    by_cases h1 : v1 = 1
    · exact ⟨m_isle 4, 0, by rw [if_pos h1, e4]; rfl, by rw [if_pos h1]; rfl⟩
    · rw [if_neg h1, if_neg h1]
      by_cases h2 : v1 = 2
      · refine ⟨sLev m_isle (m_isle 5), 0, ?_, ?_⟩
        · rw [if_pos h2, e1, e2, e5, lev_X, add0]; rfl
        · rw [if_pos h2, lev_M]; rfl
      · rw [if_neg h2, if_neg h2]
        by_cases h3 : v1 = 3
        · exact ⟨m_isle 3, 0, by rw [if_pos h3, e3]; rfl, by rw [if_pos h3]; rfl⟩
        · rw [if_neg h3, if_neg h3]
          by_cases h4 : v1 = 4
          · exact ⟨m_isle 5, 0, by rw [if_pos h4, e5]; rfl, by rw [if_pos h4]; rfl⟩
          · rw [if_neg h4, if_neg h4]
            by_cases h5 : v1 = 5
            · refine ⟨orb (fun c => !decide (m_isle (21 + c) ≤ 0)) 15, 0, ?_, ?_⟩
              · rw [if_pos h5, held_X, held_eq ho (fun c hc => (hO.2.2.2.2.2.2.1 c hc).1)]; rfl
              · rw [if_pos h5, heldOf_M]; rfl
            · rw [if_neg h5, if_neg h5]
              by_cases h6 : v1 = 6
              · exact ⟨nI a, 0, by rw [if_pos h6, k1]; rfl, by rw [if_pos h6, k2]⟩
              · rw [if_neg h6, if_neg h6]
                by_cases h7 : v1 = 7
                · exact ⟨nI t, 0, by rw [if_pos h7, t1]; rfl, by rw [if_pos h7, t2]⟩
                · exact ⟨-1000001, 0, by rw [if_neg h7], by rw [if_neg h7]⟩

