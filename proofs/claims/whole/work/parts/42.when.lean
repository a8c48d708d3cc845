/-! when, stays -/
theorem when_both {w heights : Nat → Int32} {c : Nat} (hc : c < 15) (hh : heights c = w (6 + c)) (v2 : Int32) : ∀ (j n k : Nat) (th : Nat → Int32), k + j = 61 → j < n → ∃ r t, fX8_when_L32 (w 1) (w 2) (w 5) heights (nI c) v2 n (nI k) = some r ∧ fX9_when_L37 w (nI c) v2 n (nI k) th = some (r, 0, t) := by
  intro j
  induction j with
  | zero =>
    intro n k th hk hn
    obtain ⟨n, rfl⟩ : ∃ q, n = q + 1 := ⟨n - 1, by omega⟩
    have : k = 61 := by omega
    subst this
    rw [fX8_when_L32.eq_2, fX9_when_L37.eq_2, if_pos (by decide), if_pos (by decide)]
    exact ⟨_, _, rfl, rfl⟩
  | succ j ih =>
    intro n k th hk hn
    obtain ⟨n, rfl⟩ : ∃ q, n = q + 1 := ⟨n - 1, by omega⟩
    obtain ⟨t, t1, t2, t3⟩ := layHour_M w th (nI k)
    have hd : sDry t (t 5) c = sDry w (w 5 + nI k) c := by
      rw [t2]
      exact sDry_cg (t3 1 (by decide) (by decide)) (t3 2 (by decide) (by decide)) (t3 (6 + c) (by omega) (by omega)) _
    rw [fX8_when_L32.eq_2, fX9_when_L37.eq_2, if_neg (show ¬ (60 : Int32) < nI k from nI_nlt (show k ≤ 60 by omega) (by decide)), if_neg (show ¬ (61 : Int32) ≤ nI k from nI_ge (show k < 61 by omega) (by decide)), dry_X w heights (w 5) (nI k) hc hh, t1, bd1_some, bd1_some, dry_M t hc, bd1_some, hd, ← nI_succ]
    cases sDry w (w 5 + nI k) c
    · by_cases h1 : v2 = 1
      · rw [if_pos h1, if_pos h1, if_neg (by decide), if_neg (by decide)]
        exact ih n (k + 1) t (by omega) (by omega)
      · rw [if_neg h1, if_neg h1, if_pos (by decide), if_pos (by decide)]
        exact ⟨_, _, rfl, rfl⟩
    · by_cases h1 : v2 = 1
      · rw [if_pos h1, if_pos h1, if_pos (by decide), if_pos (by decide)]
        exact ⟨_, _, rfl, rfl⟩
      · rw [if_neg h1, if_neg h1, if_neg (by decide), if_neg (by decide)]
        exact ih n (k + 1) t (by omega) (by omega)
theorem pu_when {s_finding : Int32} {rows_lanes : (Nat → Int32)} {rows_lengths : (Nat → Int32)} {rows_items : (Nat → Int32)} {tape_bytes : (Nat → Int32)} {tape_length : Int32} {tape_faultNumber : Int32} {land_told : Int32} {land_low : Int32} {land_high : Int32} {land_price : Int32} {land_hour : Int32} {land_bidders : Int32} {land_heights : (Nat → Int32)} {land_holders : (Nat → Int32)} {land_kinds : (Nat → Int32)} {land_purses : (Nat → Int32)} {land_homes : (Nat → Int32)} {firstImage_told : Int32} {firstImage_low : Int32} {firstImage_high : Int32} {firstImage_price : Int32} {firstImage_hour : Int32} {firstImage_bidders : Int32} {firstImage_heights : (Nat → Int32)} {firstImage_holders : (Nat → Int32)} {firstImage_kinds : (Nat → Int32)} {firstImage_purses : (Nat → Int32)} {firstImage_homes : (Nat → Int32)} {secondImage_told : Int32} {secondImage_low : Int32} {secondImage_high : Int32} {secondImage_price : Int32} {secondImage_hour : Int32} {secondImage_bidders : Int32} {secondImage_heights : (Nat → Int32)} {secondImage_holders : (Nat → Int32)} {secondImage_kinds : (Nat → Int32)} {secondImage_purses : (Nat → Int32)} {secondImage_homes : (Nat → Int32)} {acts_saved : (Nat → Int32)} {acts_next : Int32} {acts_kept : Int32} {asks_bodies : (Nat → Int32)} {asks_traced : Int32} {m_status : Int32} {m_lane : (Nat → Int32)} {m_many : (Nat → Int32)} {m_item : (Nat → Int32)} {m_isle : (Nat → Int32)} {m_then : (Nat → Int32)} {m_was : (Nat → Int32)} {m_acts : Int32} {m_tape : (Nat → Int32)} {m_taped : Int32} {m_latest : Int32} {m_isKept : (Nat → Int32)} {m_kept : (Nat → Int32)} {m_trace : (Nat → Int32)} {m_traced : Int32} (hI : LInv s_finding rows_lanes rows_lengths rows_items tape_bytes tape_length tape_faultNumber land_told land_low land_high land_price land_hour land_bidders land_heights land_holders land_kinds land_purses land_homes firstImage_told firstImage_low firstImage_high firstImage_price firstImage_hour firstImage_bidders firstImage_heights firstImage_holders firstImage_kinds firstImage_purses firstImage_homes secondImage_told secondImage_low secondImage_high secondImage_price secondImage_hour secondImage_bidders secondImage_heights secondImage_holders secondImage_kinds secondImage_purses secondImage_homes acts_saved acts_next acts_kept asks_bodies asks_traced m_status m_lane m_many m_item m_isle m_was m_acts m_tape m_taped m_latest m_isKept m_kept m_trace m_traced) (v1 : Int32) (v2 : Int32) : ∃ (r : Int32) (m_thrown' : Int32) (m_then' : (Nat → Int32)), fX8_when land_told land_low land_high land_hour land_heights v1 v2 = some (r) ∧ fX9_when m_isle m_then v1 v2 = some (r, m_thrown', m_then') ∧ LInv s_finding rows_lanes rows_lengths rows_items tape_bytes tape_length tape_faultNumber land_told land_low land_high land_price land_hour land_bidders land_heights land_holders land_kinds land_purses land_homes firstImage_told firstImage_low firstImage_high firstImage_price firstImage_hour firstImage_bidders firstImage_heights firstImage_holders firstImage_kinds firstImage_purses firstImage_homes secondImage_told secondImage_low secondImage_high secondImage_price secondImage_hour secondImage_bidders secondImage_heights secondImage_holders secondImage_kinds secondImage_purses secondImage_homes acts_saved acts_next acts_kept asks_bodies asks_traced m_status m_lane m_many m_item m_isle m_was m_acts m_tape m_taped m_latest m_isKept m_kept m_trace m_traced := by
  obtain ⟨hst, hR, hT, hL, hO, hrest⟩ := id hI
  refine ex_and3 ?_ hI
  obtain ⟨e0, e1, e2, e3, e5, e4, hh, ho, hb⟩ := hL
  unfold fX8_when fX9_when
  rw [e0, told_X hO, there_M, e_isCell8, e_isCell9, e_choice, in_n (C := 1) v2 1 (by decide) rfl]
  simp only [bd1_some, if_bI]
  by_cases hw : m_isle 0 = 1
  · rw [if_pos hw, if_pos hw]
    by_cases hc : rng 15 v1
    · obtain ⟨c, hc2, ec⟩ := rng_of (n := 15) hc (by decide)
      rw [if_pos hc, if_pos hc]
      by_cases h2 : rng ((1 : Nat) + 1) v2
      · rw [if_pos (show rng 2 v2 from h2), if_pos h2, ec, e1, e2, e5]
        obtain ⟨r, t, a, b⟩ := when_both hc2 (hh c hc2) v2 61 FU 0 m_then rfl (fu_big (by decide))
        exact ⟨r, 0, t, a, b⟩
      · rw [if_neg (show ¬ rng 2 v2 from h2), if_neg h2]
        exact ⟨_, _, _, rfl, rfl⟩
    · rw [if_neg hc, if_neg hc]
      exact ⟨_, _, _, rfl, rfl⟩
  · rw [if_neg hw, if_neg hw]
    exact ⟨_, _, _, rfl, rfl⟩
/-- what stays of an isle while hours pass -/
theorem sLost_cg {w t : Nat → Int32} (h1 : t 1 = w 1) (h2 : t 2 = w 2) {c : Nat} (hc : t (6 + c) = w (6 + c)) (k h : Int32) : sLost t k h c = sLost w k h c := by unfold sLost; rw [sDry_cg h1 h2 hc, sLev_cg h1 h2, hc]
theorem stays_both {w heights kinds : Nat → Int32} {c : Nat} (hO : OkI w) (hc : c < 15) (hh : heights c = w (6 + c)) (h0 : w (21 + c) ≠ 0) (hk : kinds (sWho w c) = w (36 + 3 * sWho w c)) : ∀ (j n k : Nat) (th : Nat → Int32), k + j = 61 → 1 ≤ k → j < n → OkH ((999 + (k - 1) : Nat) : Int) th → th 5 = w 5 + nI (k - 1) → th (21 + c) = w (21 + c) → (∀ i : Nat, i < 51 → i ≠ 5 → (i < 21 ∨ 36 ≤ i) → th i = w i) →
    ∃ q : Nat, q ≤ 61 ∧ 1 ≤ q ∧ fX3_hoursTillLost_L3 (w 1) (w 2) (w 5) heights kinds (nI (sWho w c)) (nI c) 60 (some (60 + 1)) n (nI k) = some (nI q) ∧ ∃ t, fX9_stays_L31 w (nI c) n (nI k) th = some (if q ≤ 60 then nI q else -1000000, 0, t) := by
  obtain ⟨w1, w2, w3, w4⟩ := who_of hO hc h0
  have hpos : ¬ w (21 + c) ≤ 0 := by
    rw [w4, Int32.le_iff_toInt_le, nI_toInt (by omega), Int32.toInt_zero]
    omega
  intro j
  induction j with
  | zero =>
    intro n k th hk2 hk1 hn hOt h5 hhold hsame
    obtain ⟨n, rfl⟩ : ∃ q, n = q + 1 := ⟨n - 1, by omega⟩
    have : k = 61 := by omega
    subst this
    rw [fX3_hoursTillLost_L3.eq_2, fX9_stays_L31.eq_2, if_pos (by decide), if_pos (by decide)]
    exact ⟨61, by omega, by omega, rfl, th, rfl⟩
  | succ j ih =>
    intro n k th hk2 hk1 hn hOt h5 hhold hsame
    obtain ⟨n, rfl⟩ : ∃ q, n = q + 1 := ⟨n - 1, by omega⟩
    have hs1 := hsame 1 (by decide) (by decide) (by decide)
    have hs2 := hsame 2 (by decide) (by decide) (by decide)
    have hs6 := hsame (6 + c) (by omega) (by omega) (by omega)
    have ek : th 5 + 1 = w 5 + nI k := by
      rw [h5, show w 5 + nI (k - 1) + 1 = w 5 + (nI (k - 1) + 1) from Int32.add_assoc _ _ _, nI_1, show k - 1 + 1 = k by omega]
    have ewho : sWho th c = sWho w c := by unfold sWho; rw [hhold]
    have elost : sLost th (th (36 + 3 * sWho th c)) (th 5 + 1) c = sLost w (w (36 + 3 * sWho w c)) (w 5 + nI k) c := by
      rw [ewho, hsame (36 + 3 * sWho w c) (by omega) (by omega) (by omega), ek]
      exact sLost_cg hs1 hs2 hs6 _ _
    have eh : sHour th (21 + c) = if sLost w (w (36 + 3 * sWho w c)) (w 5 + nI k) c = true then 0 else w (21 + c) := by
      rw [sHour_c th hc, elost, hhold]
      by_cases q : sLost w (w (36 + 3 * sWho w c)) (w 5 + nI k) c = true
      · rw [if_pos q, if_pos ⟨h0, q⟩]
      · rw [if_neg q, if_neg (fun z => q z.2)]
    rw [fX3_hoursTillLost_L3.eq_2, fX9_stays_L31.eq_2, if_neg (show ¬ (60 : Int32) < nI k from nI_nlt (show k ≤ 60 by omega) (by decide)), if_neg (show ¬ (61 : Int32) ≤ nI k from nI_ge (show k < 61 by omega) (by decide)), chk_t (nI_in w1 (by decide)), lev_X, bd1_some, chk_t (nI_in hc (by decide)), nI_clamp (by omega), nI_clamp (by omega), hk, hh, loses_e, bd1_some, if_bI, hold_c hc]
    simp only [chk_nI (show 21 + c < 51 by omega) (show 51 < 2 ^ 31 by decide), chk_nI2 (show 21 + c < 51 by omega) (show 51 < 2 ^ 31 by decide), nI_clamp (show 21 + c < 2 ^ 31 by omega)]
    rw [if_neg hpos, hour_M hOt (by omega), bd1_some, eh, ← nI_succ]
    by_cases q : sLost w (w (36 + 3 * sWho w c)) (w 5 + nI k) c = true
    · rw [if_pos q, if_pos q, if_pos rfl]
      exact ⟨k, by omega, hk1, rfl, _, by rw [if_pos (by omega)]⟩
    · rw [if_neg q, if_neg q, if_neg h0]
      exact ih n (k + 1) (sHour th) (by omega) (by omega) (by omega) (okH_mono (by omega) (okH_hour hOt (by omega))) (by rw [sHour_5, ek, Nat.add_sub_cancel]) (by rw [eh, if_neg q]) (fun i hi h5' h21 => by rw [sHour_o th h5' h21]; exact hsame i hi h5' h21)
theorem pu_stays {s_finding : Int32} {rows_lanes : (Nat → Int32)} {rows_lengths : (Nat → Int32)} {rows_items : (Nat → Int32)} {tape_bytes : (Nat → Int32)} {tape_length : Int32} {tape_faultNumber : Int32} {land_told : Int32} {land_low : Int32} {land_high : Int32} {land_price : Int32} {land_hour : Int32} {land_bidders : Int32} {land_heights : (Nat → Int32)} {land_holders : (Nat → Int32)} {land_kinds : (Nat → Int32)} {land_purses : (Nat → Int32)} {land_homes : (Nat → Int32)} {firstImage_told : Int32} {firstImage_low : Int32} {firstImage_high : Int32} {firstImage_price : Int32} {firstImage_hour : Int32} {firstImage_bidders : Int32} {firstImage_heights : (Nat → Int32)} {firstImage_holders : (Nat → Int32)} {firstImage_kinds : (Nat → Int32)} {firstImage_purses : (Nat → Int32)} {firstImage_homes : (Nat → Int32)} {secondImage_told : Int32} {secondImage_low : Int32} {secondImage_high : Int32} {secondImage_price : Int32} {secondImage_hour : Int32} {secondImage_bidders : Int32} {secondImage_heights : (Nat → Int32)} {secondImage_holders : (Nat → Int32)} {secondImage_kinds : (Nat → Int32)} {secondImage_purses : (Nat → Int32)} {secondImage_homes : (Nat → Int32)} {acts_saved : (Nat → Int32)} {acts_next : Int32} {acts_kept : Int32} {asks_bodies : (Nat → Int32)} {asks_traced : Int32} {m_status : Int32} {m_lane : (Nat → Int32)} {m_many : (Nat → Int32)} {m_item : (Nat → Int32)} {m_isle : (Nat → Int32)} {m_then : (Nat → Int32)} {m_was : (Nat → Int32)} {m_acts : Int32} {m_tape : (Nat → Int32)} {m_taped : Int32} {m_latest : Int32} {m_isKept : (Nat → Int32)} {m_kept : (Nat → Int32)} {m_trace : (Nat → Int32)} {m_traced : Int32} (hI : LInv s_finding rows_lanes rows_lengths rows_items tape_bytes tape_length tape_faultNumber land_told land_low land_high land_price land_hour land_bidders land_heights land_holders land_kinds land_purses land_homes firstImage_told firstImage_low firstImage_high firstImage_price firstImage_hour firstImage_bidders firstImage_heights firstImage_holders firstImage_kinds firstImage_purses firstImage_homes secondImage_told secondImage_low secondImage_high secondImage_price secondImage_hour secondImage_bidders secondImage_heights secondImage_holders secondImage_kinds secondImage_purses secondImage_homes acts_saved acts_next acts_kept asks_bodies asks_traced m_status m_lane m_many m_item m_isle m_was m_acts m_tape m_taped m_latest m_isKept m_kept m_trace m_traced) (v1 : Int32) : ∃ (r : Int32) (m_thrown' : Int32) (m_then' : (Nat → Int32)), fX8_stays land_told land_low land_high land_hour land_heights land_holders land_kinds v1 = some (r) ∧ fX9_stays m_isle m_then v1 = some (r, m_thrown', m_then') ∧ LInv s_finding rows_lanes rows_lengths rows_items tape_bytes tape_length tape_faultNumber land_told land_low land_high land_price land_hour land_bidders land_heights land_holders land_kinds land_purses land_homes firstImage_told firstImage_low firstImage_high firstImage_price firstImage_hour firstImage_bidders firstImage_heights firstImage_holders firstImage_kinds firstImage_purses firstImage_homes secondImage_told secondImage_low secondImage_high secondImage_price secondImage_hour secondImage_bidders secondImage_heights secondImage_holders secondImage_kinds secondImage_purses secondImage_homes acts_saved acts_next acts_kept asks_bodies asks_traced m_status m_lane m_many m_item m_isle m_was m_acts m_tape m_taped m_latest m_isKept m_kept m_trace m_traced := by
  obtain ⟨hst, hR, hT, hL, hO, hrest⟩ := id hI
  refine ex_and3 ?_ hI
  obtain ⟨e0, e1, e2, e3, e5, e4, hh, ho, hb⟩ := hL
  unfold fX8_stays fX9_stays
  rw [e0, told_X hO, there_M, e_isCell8, e_isCell9]
  simp only [bd1_some, if_bI]
  by_cases hw : m_isle 0 = 1
  · rw [if_pos hw, if_pos hw]
    by_cases hc : rng 15 v1
    · obtain ⟨c, hc2, ec⟩ := rng_of (n := 15) hc (by decide)
      obtain ⟨t, t1, t2⟩ := layThen_M m_isle m_then
      rw [if_pos hc, if_pos hc, ec, held_id _ hc2, t1, ho c hc2, bd1_some, if_bI]
      by_cases h0 : m_isle (21 + c) = 0
      · rw [if_neg (fun q => q (by rw [h0]; rfl)), show FU = 39999 + 1 from rfl, bd1_some, fX9_stays_L31.eq_2, if_neg (by decide), hold_c hc2, chk_t (nI_in (show 21 + c < 51 by omega) (by decide)), nI_clamp (by omega), h0, if_pos (by decide)]
        exact ⟨_, _, _, rfl, rfl⟩
      · obtain ⟨w1, w2, w3, w4⟩ := who_of hO hc2 h0
        rw [if_pos (fun q => h0 (sub1_eq.mp q)), bd1_some]
        unfold fX3_holder fX3_hoursTillLost
        rw [chk_t (nI_in hc2 (by decide)), nI_clamp (by omega), ho c hc2, w3, bd1_some, e1, e2, e5]
        obtain ⟨q, q1, q2, q3, t', q4⟩ := stays_both hO hc2 (hh c hc2) h0 (hb _ w2).1 60 FU 1 t rfl (by decide) (fu_big (by decide)) (okH_cg t2 hO) (by rw [t2 5 (by decide)]; exact (add0 _).symm) (t2 _ (by omega)) (fun i hi _ _ => t2 i hi)
        refine ⟨_, 0, t', ?_, q4⟩
        rw [show (1 : Int32) = nI 1 from rfl, show (60 : Int32) + nI 1 = 60 + 1 from rfl, q3, bd1_some]
        by_cases z : q ≤ 60
        · rw [if_pos z, if_pos (show nI q ≤ 60 from nI_le z (by decide))]
        · rw [if_neg z, if_neg (show ¬ nI q ≤ 60 from fun y => z ((nI_leI (b := 60) (by omega) (by decide)).mp y))]
    · rw [if_neg hc, if_neg hc]
      exact ⟨_, _, _, rfl, rfl⟩
  · rw [if_neg hw, if_neg hw]
    exact ⟨_, _, _, rfl, rfl⟩

