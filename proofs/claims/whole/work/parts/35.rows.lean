/-! rows -/
theorem miss_X (z : Nat → Int32) {j : Nat} (hj : j < 8) : fX5_isMissing z (nI j) = some (bI (z j = -1)) := by
  unfold fX5_isMissing
  rw [chk_t (nI_in hj (by decide)), nI_clamp (by omega)]
  by_cases h : z j = -1
  · rw [if_pos h, bI_t h]
  · rw [if_neg h, bI_f h]
theorem lane_neg {x : Int32} (h : x = -1) : ¬ 0 ≤ x := by rw [h]; decide
theorem lane_pos {x : Int32} (h : x = 0 ∨ x = 1 ∨ x = 2) : 0 ≤ x ∧ ¬ x = -1 ∧ ¬ x < 0 := by
  rcases h with rfl | rfl | rfl <;> decide
theorem rrows_upd {lanes lengths items lane many item lanes' lengths' items' lane' many' item' : Nat → Int32} {j : Nat} (hR : RRows lanes lengths items lane many item)
    (h1 : ∀ r : Nat, r ≠ j → lanes' r = lanes r ∧ lengths' r = lengths r ∧ lane' r = lane r ∧ many' r = many r ∧ ∀ i : Nat, i < 40 → items' (40 * r + i) = items (40 * r + i) ∧ item' (40 * r + i) = item (40 * r + i))
    (h2 : lanes' j = lane' j ∧ (lane' j = -1 ∨ (lane' j = 0 ∨ lane' j = 1 ∨ lane' j = 2) ∧ ∃ k : Nat, k ≤ 40 ∧ lengths' j = nI k ∧ many' j = nI k ∧ ∀ i : Nat, i < k → items' (40 * j + i) = item' (40 * j + i))) : RRows lanes' lengths' items' lane' many' item' := by
  intro r hr
  by_cases e : r = j
  · subst e; exact h2
  · obtain ⟨a, b, c, d, f⟩ := h1 r e
    obtain ⟨g1, g2⟩ := hR r hr
    rw [a, b, c, d]
    refine ⟨g1, ?_⟩
    rcases g2 with g | ⟨g, k, hk, e1, e2, hi⟩
    · exact Or.inl g
    · exact Or.inr ⟨g, k, hk, e1, e2, fun i hi2 => by rw [(f i (by omega)).1, (f i (by omega)).2]; exact hi i hi2⟩
theorem pu_drop {s_finding : Int32} {rows_lanes : (Nat → Int32)} {rows_lengths : (Nat → Int32)} {rows_items : (Nat → Int32)} {tape_bytes : (Nat → Int32)} {tape_length : Int32} {tape_faultNumber : Int32} {land_told : Int32} {land_low : Int32} {land_high : Int32} {land_price : Int32} {land_hour : Int32} {land_bidders : Int32} {land_heights : (Nat → Int32)} {land_holders : (Nat → Int32)} {land_kinds : (Nat → Int32)} {land_purses : (Nat → Int32)} {land_homes : (Nat → Int32)} {firstImage_told : Int32} {firstImage_low : Int32} {firstImage_high : Int32} {firstImage_price : Int32} {firstImage_hour : Int32} {firstImage_bidders : Int32} {firstImage_heights : (Nat → Int32)} {firstImage_holders : (Nat → Int32)} {firstImage_kinds : (Nat → Int32)} {firstImage_purses : (Nat → Int32)} {firstImage_homes : (Nat → Int32)} {secondImage_told : Int32} {secondImage_low : Int32} {secondImage_high : Int32} {secondImage_price : Int32} {secondImage_hour : Int32} {secondImage_bidders : Int32} {secondImage_heights : (Nat → Int32)} {secondImage_holders : (Nat → Int32)} {secondImage_kinds : (Nat → Int32)} {secondImage_purses : (Nat → Int32)} {secondImage_homes : (Nat → Int32)} {acts_saved : (Nat → Int32)} {acts_next : Int32} {acts_kept : Int32} {asks_bodies : (Nat → Int32)} {asks_traced : Int32} {m_status : Int32} {m_lane : (Nat → Int32)} {m_many : (Nat → Int32)} {m_item : (Nat → Int32)} {m_isle : (Nat → Int32)} {m_was : (Nat → Int32)} {m_acts : Int32} {m_tape : (Nat → Int32)} {m_taped : Int32} {m_latest : Int32} {m_isKept : (Nat → Int32)} {m_kept : (Nat → Int32)} {m_trace : (Nat → Int32)} {m_traced : Int32} (hI : LInv s_finding rows_lanes rows_lengths rows_items tape_bytes tape_length tape_faultNumber land_told land_low land_high land_price land_hour land_bidders land_heights land_holders land_kinds land_purses land_homes firstImage_told firstImage_low firstImage_high firstImage_price firstImage_hour firstImage_bidders firstImage_heights firstImage_holders firstImage_kinds firstImage_purses firstImage_homes secondImage_told secondImage_low secondImage_high secondImage_price secondImage_hour secondImage_bidders secondImage_heights secondImage_holders secondImage_kinds secondImage_purses secondImage_homes acts_saved acts_next acts_kept asks_bodies asks_traced m_status m_lane m_many m_item m_isle m_was m_acts m_tape m_taped m_latest m_isKept m_kept m_trace m_traced) (v1 : Int32) : ∃ (r : Int32) (s_finding' : Int32) (rows_lanes' : (Nat → Int32)) (rows_lengths' : (Nat → Int32)) (m_thrown' : Int32) (m_status' : Int32) (m_lane' : (Nat → Int32)), fX8_drop s_finding rows_lanes rows_lengths v1 = some (r, s_finding', rows_lanes', rows_lengths') ∧ fX9_drop m_status m_lane m_many v1 = some (r, m_thrown', m_status', m_lane') ∧ LInv s_finding' rows_lanes' rows_lengths' rows_items tape_bytes tape_length tape_faultNumber land_told land_low land_high land_price land_hour land_bidders land_heights land_holders land_kinds land_purses land_homes firstImage_told firstImage_low firstImage_high firstImage_price firstImage_hour firstImage_bidders firstImage_heights firstImage_holders firstImage_kinds firstImage_purses firstImage_homes secondImage_told secondImage_low secondImage_high secondImage_price secondImage_hour secondImage_bidders secondImage_heights secondImage_holders secondImage_kinds secondImage_purses secondImage_homes acts_saved acts_next acts_kept asks_bodies asks_traced m_status' m_lane' m_many m_item m_isle m_was m_acts m_tape m_taped m_latest m_isKept m_kept m_trace m_traced := by
  obtain ⟨hst, hR, hrest⟩ := id hI
  unfold fX8_drop fX9_drop
  rw [e_isRow5, e_isRow9, bd1_some, bd1_some, if_bI, if_bI]
  by_cases hv : rng 8 v1
  · obtain ⟨j, hj, ev⟩ := rng_of (n := 8) hv (by decide)
    obtain ⟨el, hm⟩ := hR j hj
    rw [if_pos hv, if_pos hv, ev, miss_X _ hj, bd1_some, if_bI, chk_t (nI_in hj (by decide)), nI_clamp (by omega), el]
    rcases hm with hm | ⟨hm, k, hk, ek, em, hi⟩
    · exact ⟨-1000011, 1, rows_lanes, rows_lengths, 0, 1, m_lane, by rw [if_pos hm]; rfl, by rw [if_neg (lane_neg hm)]; rfl, ⟨rfl, hR, hrest⟩⟩
    · obtain ⟨l1, l2, l3⟩ := lane_pos hm
      refine ⟨nI k, 0, upd rows_lanes j (-1), upd rows_lengths j 0, 0, 0, upd m_lane j (-1), ?_, ?_, ⟨rfl, ?_, hrest⟩⟩
      · rw [if_neg l2]
        unfold fX5_remove
        rw [chk_t (nI_in hj (by decide)), chk_t (nI_in hj (by decide)), chk_t (nI_in hj (by decide)), nI_clamp (by omega), ek]
        rfl
      · rw [if_pos l1, chk_t (nI_in2 hj (by decide)), chk_t (nI_in2 hj (by decide)), em]
      · refine rrows_upd (j := j) hR (fun r hr => ⟨pk_un hr, pk_un hr, pk_un hr, rfl, fun i _ => ⟨rfl, rfl⟩⟩) ?_
        rw [pk_us, pk_us]
        exact ⟨rfl, Or.inl rfl⟩
  · exact ⟨-1000001, s_finding, rows_lanes, rows_lengths, 0, m_status, m_lane, by rw [if_neg hv], by rw [if_neg hv], hI⟩
/-- the zeros that a row gets -/
theorem zfill (b : Nat) (f : Nat → Int32) : ∀ n x, itr (fun k a => upd a (b + k) 0) n f x = if b ≤ x ∧ x < b + n then 0 else f x
  | 0, x => by rw [if_neg (by omega)]; rfl
  | n + 1, x => by
    show upd (itr _ n f) (b + n) 0 x = _
    by_cases e : x = b + n
    · rw [e, pk_us, if_pos (by omega)]
    · rw [pk_un e, zfill b f n x]
      by_cases h : b ≤ x ∧ x < b + n
      · rw [if_pos h, if_pos (by omega)]
      · rw [if_neg h, if_neg (by omega)]
theorem r40 {j k : Nat} : nI j * 40 + nI k = nI (40 * j + k) := by
  rw [show (40 : Int32) = nI 40 from rfl, pk_mul, nI_add, Nat.mul_comm]
theorem r40' {j k : Nat} : 40 * nI j + nI k = nI (40 * j + k) := by
  rw [show (40 : Int32) = nI 40 from rfl, pk_mul, nI_add]
theorem make_X (lanes lengths items : Nat → Int32) {j n : Nat} (hj : j < 8) (hn : n ≤ 40) (v2 : Int32) : fX5_make lanes lengths items (nI j) v2 (nI n) = some (upd lanes j v2, upd lengths j (nI n), itr (fun k a => upd a (40 * j + k) 0) n items) := by
  unfold fX5_make
  rw [chk_t (nI_in hj (by decide)), chk_t (nI_in hj (by decide))]
  refine (for_loop (fun m a i => fX5_make_L17 lanes lengths (nI j) v2 (nI n) m i a) n (fun k a => upd a (40 * j + k) 0) (fun a => some (upd lanes j v2, upd lengths j (nI n), a)) (fun _ _ => True) (fun m k a hk _ => ⟨?_, trivial⟩) (fun m a _ => ?_) items trivial FU (fu_big (by omega))).1
  · show fX5_make_L17 lanes lengths (nI j) v2 (nI n) (m + 1) (nI k) a = _
    rw [fX5_make_L17.eq_2, if_neg (nI_ge hk (by omega)), r40, chk_t (nI_in (show 40 * j + k < 320 by omega) (by decide)), nI_clamp (by omega), nI_succ]
  · show fX5_make_L17 lanes lengths (nI j) v2 (nI n) (m + 1) (nI n) a = _
    rw [fX5_make_L17.eq_2, if_pos (nI_le (Nat.le_refl n) (by omega)), nI_clamp (by omega)]
theorem row_M (lane many item : Nat → Int32) {j n : Nat} (hj : j < 8) (hn : n ≤ 40) (v2 : Int32) : fX9_row_L65 lane many (nI j) v2 (nI n) FU 0 item = some (nI n, 0, 0, upd lane j v2, upd many j (nI n), itr (fun k a => upd a (40 * j + k) 0) 40 item) := by
  refine (for_loop (fun m a i => fX9_row_L65 lane many (nI j) v2 (nI n) m i a) 40 (fun k a => upd a (40 * j + k) 0) (fun a => some (nI n, 0, 0, upd lane j v2, upd many j (nI n), a)) (fun _ _ => True) (fun m k a hk _ => ⟨?_, trivial⟩) (fun m a _ => ?_) item trivial FU (fu_big (by omega))).1
  · show fX9_row_L65 lane many (nI j) v2 (nI n) (m + 1) (nI k) a = _
    rw [fX9_row_L65.eq_2, if_neg (show ¬ (40 : Int32) ≤ nI k from nI_ge hk (by decide)), r40', chk_t (nI_in (show 40 * j + k < 320 by omega) (by decide)), nI_clamp (by omega), nI_succ]
  · show fX9_row_L65 lane many (nI j) v2 (nI n) (m + 1) (nI 40) a = _
    rw [fX9_row_L65.eq_2, if_pos (by decide), nI_clamp (by omega)]
theorem pu_row {s_finding : Int32} {rows_lanes : (Nat → Int32)} {rows_lengths : (Nat → Int32)} {rows_items : (Nat → Int32)} {tape_bytes : (Nat → Int32)} {tape_length : Int32} {tape_faultNumber : Int32} {land_told : Int32} {land_low : Int32} {land_high : Int32} {land_price : Int32} {land_hour : Int32} {land_bidders : Int32} {land_heights : (Nat → Int32)} {land_holders : (Nat → Int32)} {land_kinds : (Nat → Int32)} {land_purses : (Nat → Int32)} {land_homes : (Nat → Int32)} {firstImage_told : Int32} {firstImage_low : Int32} {firstImage_high : Int32} {firstImage_price : Int32} {firstImage_hour : Int32} {firstImage_bidders : Int32} {firstImage_heights : (Nat → Int32)} {firstImage_holders : (Nat → Int32)} {firstImage_kinds : (Nat → Int32)} {firstImage_purses : (Nat → Int32)} {firstImage_homes : (Nat → Int32)} {secondImage_told : Int32} {secondImage_low : Int32} {secondImage_high : Int32} {secondImage_price : Int32} {secondImage_hour : Int32} {secondImage_bidders : Int32} {secondImage_heights : (Nat → Int32)} {secondImage_holders : (Nat → Int32)} {secondImage_kinds : (Nat → Int32)} {secondImage_purses : (Nat → Int32)} {secondImage_homes : (Nat → Int32)} {acts_saved : (Nat → Int32)} {acts_next : Int32} {acts_kept : Int32} {asks_bodies : (Nat → Int32)} {asks_traced : Int32} {m_status : Int32} {m_lane : (Nat → Int32)} {m_many : (Nat → Int32)} {m_item : (Nat → Int32)} {m_isle : (Nat → Int32)} {m_was : (Nat → Int32)} {m_acts : Int32} {m_tape : (Nat → Int32)} {m_taped : Int32} {m_latest : Int32} {m_isKept : (Nat → Int32)} {m_kept : (Nat → Int32)} {m_trace : (Nat → Int32)} {m_traced : Int32} (hI : LInv s_finding rows_lanes rows_lengths rows_items tape_bytes tape_length tape_faultNumber land_told land_low land_high land_price land_hour land_bidders land_heights land_holders land_kinds land_purses land_homes firstImage_told firstImage_low firstImage_high firstImage_price firstImage_hour firstImage_bidders firstImage_heights firstImage_holders firstImage_kinds firstImage_purses firstImage_homes secondImage_told secondImage_low secondImage_high secondImage_price secondImage_hour secondImage_bidders secondImage_heights secondImage_holders secondImage_kinds secondImage_purses secondImage_homes acts_saved acts_next acts_kept asks_bodies asks_traced m_status m_lane m_many m_item m_isle m_was m_acts m_tape m_taped m_latest m_isKept m_kept m_trace m_traced) (v1 : Int32) (v2 : Int32) (v3 : Int32) : ∃ (r : Int32) (s_finding' : Int32) (rows_lanes' : (Nat → Int32)) (rows_lengths' : (Nat → Int32)) (rows_items' : (Nat → Int32)) (m_thrown' : Int32) (m_status' : Int32) (m_lane' : (Nat → Int32)) (m_many' : (Nat → Int32)) (m_item' : (Nat → Int32)), fX8_row s_finding rows_lanes rows_lengths rows_items v1 v2 v3 = some (r, s_finding', rows_lanes', rows_lengths', rows_items') ∧ fX9_row m_status m_lane m_many m_item v1 v2 v3 = some (r, m_thrown', m_status', m_lane', m_many', m_item') ∧ LInv s_finding' rows_lanes' rows_lengths' rows_items' tape_bytes tape_length tape_faultNumber land_told land_low land_high land_price land_hour land_bidders land_heights land_holders land_kinds land_purses land_homes firstImage_told firstImage_low firstImage_high firstImage_price firstImage_hour firstImage_bidders firstImage_heights firstImage_holders firstImage_kinds firstImage_purses firstImage_homes secondImage_told secondImage_low secondImage_high secondImage_price secondImage_hour secondImage_bidders secondImage_heights secondImage_holders secondImage_kinds secondImage_purses secondImage_homes acts_saved acts_next acts_kept asks_bodies asks_traced m_status' m_lane' m_many' m_item' m_isle m_was m_acts m_tape m_taped m_latest m_isKept m_kept m_trace m_traced := by
  obtain ⟨hst, hR, hrest⟩ := id hI
  have bad : ∀ (x : Option (Int32 × Int32 × (Nat → Int32) × (Nat → Int32) × (Nat → Int32))) (y : Option (Int32 × Int32 × Int32 × (Nat → Int32) × (Nat → Int32) × (Nat → Int32))), x = some (-1000001, s_finding, rows_lanes, rows_lengths, rows_items) → y = some (-1000001, 0, m_status, m_lane, m_many, m_item) → ∃ (r : Int32) (s_finding' : Int32) (rows_lanes' : (Nat → Int32)) (rows_lengths' : (Nat → Int32)) (rows_items' : (Nat → Int32)) (m_thrown' : Int32) (m_status' : Int32) (m_lane' : (Nat → Int32)) (m_many' : (Nat → Int32)) (m_item' : (Nat → Int32)), x = some (r, s_finding', rows_lanes', rows_lengths', rows_items') ∧ y = some (r, m_thrown', m_status', m_lane', m_many', m_item') ∧ (s_finding' = m_status' ∧ RRows rows_lanes' rows_lengths' rows_items' m_lane' m_many' m_item') := fun x y hx hy => ⟨_, _, _, _, _, _, _, _, _, _, hx, hy, hst, hR⟩
  suffices H : ∃ (r : Int32) (s_finding' : Int32) (rows_lanes' : (Nat → Int32)) (rows_lengths' : (Nat → Int32)) (rows_items' : (Nat → Int32)) (m_thrown' : Int32) (m_status' : Int32) (m_lane' : (Nat → Int32)) (m_many' : (Nat → Int32)) (m_item' : (Nat → Int32)), fX8_row s_finding rows_lanes rows_lengths rows_items v1 v2 v3 = some (r, s_finding', rows_lanes', rows_lengths', rows_items') ∧ fX9_row m_status m_lane m_many m_item v1 v2 v3 = some (r, m_thrown', m_status', m_lane', m_many', m_item') ∧ (s_finding' = m_status' ∧ RRows rows_lanes' rows_lengths' rows_items' m_lane' m_many' m_item') by
    obtain ⟨r, a1, a2, a3, a4, b1, b2, b3, b4, b5, g1, g2, g3, g4⟩ := H
    exact ⟨r, a1, a2, a3, a4, b1, b2, b3, b4, b5, g1, g2, g3, g4, hrest⟩
  unfold fX8_row fX9_row
  rw [e_isRow5, e_isRow9, bd1_some, bd1_some, if_bI, if_bI, in_n (C := 2) v2 2 (by decide) rfl, bd1_some, if_bI]
  by_cases hv : rng 8 v1
  · obtain ⟨j, hj, ev⟩ := rng_of (n := 8) hv (by decide)
    rw [if_pos hv, if_pos hv, ev]
    by_cases h2 : rng ((2 : Nat) + 1) v2
    · obtain ⟨l, hl, el⟩ := rng_of (n := 3) h2 (by decide)
      rw [if_pos h2, el, if_neg (nI_pos (by omega)), if_neg (show ¬ (2 : Int32) < nI l from nI_nlt (show l ≤ 2 by omega) (by decide))]
      by_cases h3 : v3 ≤ 40
      · rw [if_pos h3, if_pos h3]
        by_cases h4 : 0 ≤ v3
        · obtain ⟨n, hn, en⟩ := nI_of2 (M := 40) (n := 40) rfl (by rw [Int32.not_lt]; exact h4) h3
          rw [if_pos h4, if_pos h4, en, make_X _ _ _ hj hn, chk_t (nI_in hj (by decide)), chk_t (nI_in hj (by decide)), row_M _ _ _ hj hn]
          refine ⟨nI n, 0, upd rows_lanes j (nI l), upd rows_lengths j (nI n), _, 0, 0, upd m_lane j (nI l), upd m_many j (nI n), _, rfl, rfl, rfl, ?_⟩
          refine rrows_upd (j := j) hR (fun r hr => ⟨pk_un hr, pk_un hr, pk_un hr, pk_un hr, fun i hi => ⟨?_, ?_⟩⟩) ?_
          · rw [zfill, if_neg]
            rcases Nat.lt_or_gt_of_ne hr with q | q <;> omega
          · rw [zfill, if_neg]
            rcases Nat.lt_or_gt_of_ne hr with q | q <;> omega
          · rw [pk_us, pk_us, pk_us, pk_us]
            refine ⟨rfl, Or.inr ⟨?_, n, hn, rfl, rfl, fun i hi => ?_⟩⟩
            · rcases (show l = 0 ∨ l = 1 ∨ l = 2 by omega) with rfl | rfl | rfl
              · exact Or.inl rfl
              · exact Or.inr (Or.inl rfl)
              · exact Or.inr (Or.inr rfl)
            · rw [zfill, zfill, if_pos (by omega), if_pos (by omega)]
        · rw [if_neg h4, if_neg h4]
          exact ⟨-1000014, 4, rows_lanes, rows_lengths, rows_items, 0, 4, m_lane, m_many, m_item, rfl, rfl, rfl, hR⟩
      · rw [if_neg h3, if_neg h3]
        exact bad _ _ rfl rfl
    · rw [if_neg h2]
      refine bad _ _ ?_ rfl
      by_cases q : v2 < 0
      · rw [if_pos q]
      · rw [if_neg q, if_pos]
        rw [Int32.lt_iff_toInt_lt, Int32.toInt_zero] at q
        rw [Int32.lt_iff_toInt_lt, show (2 : Int32).toInt = 2 from rfl]
        unfold rng at h2
        omega
  · rw [if_neg hv, if_neg hv]
    exact bad _ _ rfl rfl
theorem places_X (lengths : Nat → Int32) {j k n : Nat} (hj : j < 8) (hk : k ≤ 40) (ek : lengths j = nI k) (hn : n < 2 ^ 30) (i : Int32) : fX5_hasPlaces lengths (nI j) i (nI n) = some (bI (0 ≤ i.toInt ∧ i.toInt + n ≤ k)) := by
  unfold fX5_hasPlaces
  have e0 : i < 0 ↔ i.toInt < 0 := by rw [Int32.lt_iff_toInt_lt, Int32.toInt_zero]
  by_cases h0 : i < 0
  · rw [if_pos h0, bI_f]
    rw [e0] at h0
    omega
  · rw [if_neg h0, if_neg (nI_pos (by omega)), chk_t (nI_in hj (by decide)), chk_t (nI_in hj (by decide)), nI_clamp (by omega), ek]
    rw [e0] at h0
    by_cases h1 : nI k < nI n
    · rw [if_pos h1, bI_f]
      have := (nI_ltI (by omega) (by omega)).mp h1
      omega
    · have h1' : n ≤ k := Nat.not_lt.mp (fun q => h1 ((nI_ltI (by omega) (by omega)).mpr q))
      rw [if_neg h1, pk_sub h1']
      by_cases h2 : nI (k - n) < i
      · rw [if_pos h2, bI_f]
        rw [Int32.lt_iff_toInt_lt, nI_toInt (by omega)] at h2
        omega
      · rw [if_neg h2, bI_t]
        rw [Int32.lt_iff_toInt_lt, nI_toInt (by omega)] at h2
        omega
theorem pu_set {s_finding : Int32} {rows_lanes : (Nat → Int32)} {rows_lengths : (Nat → Int32)} {rows_items : (Nat → Int32)} {tape_bytes : (Nat → Int32)} {tape_length : Int32} {tape_faultNumber : Int32} {land_told : Int32} {land_low : Int32} {land_high : Int32} {land_price : Int32} {land_hour : Int32} {land_bidders : Int32} {land_heights : (Nat → Int32)} {land_holders : (Nat → Int32)} {land_kinds : (Nat → Int32)} {land_purses : (Nat → Int32)} {land_homes : (Nat → Int32)} {firstImage_told : Int32} {firstImage_low : Int32} {firstImage_high : Int32} {firstImage_price : Int32} {firstImage_hour : Int32} {firstImage_bidders : Int32} {firstImage_heights : (Nat → Int32)} {firstImage_holders : (Nat → Int32)} {firstImage_kinds : (Nat → Int32)} {firstImage_purses : (Nat → Int32)} {firstImage_homes : (Nat → Int32)} {secondImage_told : Int32} {secondImage_low : Int32} {secondImage_high : Int32} {secondImage_price : Int32} {secondImage_hour : Int32} {secondImage_bidders : Int32} {secondImage_heights : (Nat → Int32)} {secondImage_holders : (Nat → Int32)} {secondImage_kinds : (Nat → Int32)} {secondImage_purses : (Nat → Int32)} {secondImage_homes : (Nat → Int32)} {acts_saved : (Nat → Int32)} {acts_next : Int32} {acts_kept : Int32} {asks_bodies : (Nat → Int32)} {asks_traced : Int32} {m_status : Int32} {m_lane : (Nat → Int32)} {m_many : (Nat → Int32)} {m_item : (Nat → Int32)} {m_isle : (Nat → Int32)} {m_was : (Nat → Int32)} {m_acts : Int32} {m_tape : (Nat → Int32)} {m_taped : Int32} {m_latest : Int32} {m_isKept : (Nat → Int32)} {m_kept : (Nat → Int32)} {m_trace : (Nat → Int32)} {m_traced : Int32} (hI : LInv s_finding rows_lanes rows_lengths rows_items tape_bytes tape_length tape_faultNumber land_told land_low land_high land_price land_hour land_bidders land_heights land_holders land_kinds land_purses land_homes firstImage_told firstImage_low firstImage_high firstImage_price firstImage_hour firstImage_bidders firstImage_heights firstImage_holders firstImage_kinds firstImage_purses firstImage_homes secondImage_told secondImage_low secondImage_high secondImage_price secondImage_hour secondImage_bidders secondImage_heights secondImage_holders secondImage_kinds secondImage_purses secondImage_homes acts_saved acts_next acts_kept asks_bodies asks_traced m_status m_lane m_many m_item m_isle m_was m_acts m_tape m_taped m_latest m_isKept m_kept m_trace m_traced) (v1 : Int32) (v2 : Int32) (v3 : Int32) : ∃ (r : Int32) (s_finding' : Int32) (rows_items' : (Nat → Int32)) (m_thrown' : Int32) (m_status' : Int32) (m_item' : (Nat → Int32)), fX8_set s_finding rows_lanes rows_lengths rows_items v1 v2 v3 = some (r, s_finding', rows_items') ∧ fX9_set m_status m_lane m_many m_item v1 v2 v3 = some (r, m_thrown', m_status', m_item') ∧ LInv s_finding' rows_lanes rows_lengths rows_items' tape_bytes tape_length tape_faultNumber land_told land_low land_high land_price land_hour land_bidders land_heights land_holders land_kinds land_purses land_homes firstImage_told firstImage_low firstImage_high firstImage_price firstImage_hour firstImage_bidders firstImage_heights firstImage_holders firstImage_kinds firstImage_purses firstImage_homes secondImage_told secondImage_low secondImage_high secondImage_price secondImage_hour secondImage_bidders secondImage_heights secondImage_holders secondImage_kinds secondImage_purses secondImage_homes acts_saved acts_next acts_kept asks_bodies asks_traced m_status' m_lane m_many m_item' m_isle m_was m_acts m_tape m_taped m_latest m_isKept m_kept m_trace m_traced := by
  obtain ⟨hst, hR, hrest⟩ := id hI
  unfold fX8_set fX9_set
  rw [e_isRow5, e_isRow9, bd1_some, bd1_some, if_bI, if_bI]
  by_cases hv : rng 8 v1
  · obtain ⟨j, hj, ev⟩ := rng_of (n := 8) hv (by decide)
    obtain ⟨el, hm⟩ := hR j hj
    rw [if_pos hv, if_pos hv, ev, miss_X _ hj, bd1_some, if_bI, chk_t (nI_in hj (by decide)), nI_clamp (by omega), el]
    rcases hm with hm | ⟨hm, k, hk, ek, em, hi⟩
    · exact ⟨-1000011, 1, rows_items, 0, 1, m_item, by rw [if_pos hm]; rfl, by rw [if_neg (lane_neg hm)]; rfl, ⟨rfl, hR, hrest⟩⟩
    · obtain ⟨l1, l2, l3⟩ := lane_pos hm
      have hk0 : 0 ≤ (nI k).toInt := by rw [nI_toInt (by omega)]; omega
      rw [if_neg l2, if_pos l1, show (1 : Int32) = nI 1 from rfl, places_X _ hj hk ek (by decide), bd1_some, if_bI, chk_t (nI_in2 hj (by decide)), em, show nI 1 = (1 : Int32) from rfl, in_z v2 (nI k - 1), bd1_some, if_bI, sub1 hk0, nI_toInt (by omega)]
      by_cases h2 : 0 ≤ v2.toInt ∧ v2.toInt + (1 : Nat) ≤ k
      · obtain ⟨i, hi2, ei⟩ := rng_of (n := k) (v := v2) ⟨h2.1, by omega⟩ (by omega)
        have ix : 40 * j + i < 320 := by omega
        rw [if_pos h2, if_pos (show 0 ≤ v2.toInt ∧ v2.toInt ≤ (k : Int) - 1 by omega), ei]
        unfold fX5_put
        rw [chk_t (nI_in hj (by decide)), chk_t (nI_in2 hj (by decide)), chk_t (nI_in hj (by decide)), chk_t (nI_in2 hj (by decide)), nI_clamp (by omega), el]
        have fin : ∀ x : Int32, ∃ (r : Int32) (s_finding' : Int32) (rows_items' : (Nat → Int32)) (m_thrown' : Int32) (m_status' : Int32) (m_item' : (Nat → Int32)), bd2 (fX5_put_J33 rows_items (nI j) (nI i) x) (fun r_7 rows_items_7 => bd2 (fX8_unfound r_7) (fun r_8 s_finding_8 => some (r_8, s_finding_8, rows_items_7))) = some (r, s_finding', rows_items') ∧ fX9_set_J99 m_item (nI j) (nI i) x = some (r, m_thrown', m_status', m_item') ∧ s_finding' = m_status' ∧ RRows rows_lanes rows_lengths rows_items' m_lane m_many m_item' := by
          intro x
          refine ⟨x, 0, upd rows_items (40 * j + i) x, 0, 0, upd m_item (40 * j + i) x, ?_, ?_, rfl, ?_⟩
          · unfold fX5_put_J33
            rw [r40, chk_t (nI_in ix (by decide)), nI_clamp (by omega)]
            rfl
          · unfold fX9_set_J99
            rw [r40', chk_t (nI_in ix (by decide)), chk_t (nI_in ix (by decide)), nI_clamp (by omega), pk_us]
          · refine rrows_upd (j := j) hR (fun r hr => ⟨rfl, rfl, rfl, rfl, fun q hq => ?_⟩) ⟨el, Or.inr ⟨hm, k, hk, ek, em, fun q hq => ?_⟩⟩
            · have : 40 * r + q ≠ 40 * j + i := by rcases Nat.lt_or_gt_of_ne hr with z | z <;> omega
              exact ⟨pk_un this, pk_un this⟩
            · by_cases e : q = i
              · rw [e, pk_us, pk_us]
              · rw [pk_un (by omega), pk_un (by omega)]; exact hi q hq
        by_cases z0 : m_lane j = 0
        · rw [if_pos z0, if_pos z0]
          obtain ⟨r, a1, a2, b1, b2, b3, g1, g2, g3, g4⟩ := fin (v3.toInt8.toInt32)
          exact ⟨r, a1, a2, b1, b2, b3, g1, g2, g3, g4, hrest⟩
        · rw [if_neg z0, if_neg z0]
          by_cases z1 : m_lane j = 1
          · rw [if_pos z1, if_pos z1]
            obtain ⟨r, a1, a2, b1, b2, b3, g1, g2, g3, g4⟩ := fin (v3.toInt16.toInt32)
            exact ⟨r, a1, a2, b1, b2, b3, g1, g2, g3, g4, hrest⟩
          · rw [if_neg z1, if_neg z1]
            obtain ⟨r, a1, a2, b1, b2, b3, g1, g2, g3, g4⟩ := fin v3
            exact ⟨r, a1, a2, b1, b2, b3, g1, g2, g3, g4, hrest⟩
      · exact ⟨-1000012, 2, rows_items, 0, 2, m_item, by rw [if_neg h2]; rfl, by rw [if_neg (show ¬ (0 ≤ v2.toInt ∧ v2.toInt ≤ (k : Int) - 1) by omega)]; rfl, ⟨rfl, hR, hrest⟩⟩
  · exact ⟨-1000001, s_finding, rows_items, 0, m_status, m_item, by rw [if_neg hv], by rw [if_neg hv], hI⟩

