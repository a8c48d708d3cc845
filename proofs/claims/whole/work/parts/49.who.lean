/-! rows that are read -/
theorem row_chk {α : Type} (v2 n A : Int32) (x y : Option α) (hn : 0 ≤ n.toInt) : (if v2 < 0 then y else if lg_cmp (v2.toInt64 + n.toInt64) A.toInt64 ≤ 0 then x else y) = if 0 ≤ v2.toInt ∧ 0 ≤ n.toInt ∧ v2.toInt + n.toInt ≤ A.toInt then x else y := by
  by_cases h2 : v2 < 0
  · rw [if_pos h2, if_neg (fun g => by rw [lt0_iff] at h2; omega)]
  rw [if_neg h2]
  rw [lt0_iff] at h2
  by_cases h7 : lg_cmp (v2.toInt64 + n.toInt64) A.toInt64 ≤ 0
  · rw [if_pos h7, if_pos (by rw [cmp_le0, le64] at h7; omega)]
  · rw [if_neg h7, if_neg (fun g => by rw [cmp_le0, le64] at h7; omega)]
theorem num_X (v : Int32) : fX8_isNumberOfItems v = some (bI (1 ≤ v.toInt ∧ v.toInt ≤ 12)) := by
  unfold fX8_isNumberOfItems
  have e1 : v < 1 ↔ v.toInt < 1 := by rw [Int32.lt_iff_toInt_lt]; exact Iff.rfl
  have e2 : 12 < v ↔ 12 < v.toInt := by rw [Int32.lt_iff_toInt_lt]; exact Iff.rfl
  by_cases h1 : v < 1
  · rw [if_pos h1, bI_f (by rw [e1] at h1; omega)]
  · by_cases h2 : 12 < v
    · rw [if_neg h1, if_pos h2, bI_f (by rw [e2] at h2; omega)]
    · rw [if_neg h1, if_neg h2, bI_t (by rw [e1] at h1; rw [e2] at h2; omega)]
theorem num_M (v : Int32) : fX9_in v.toInt64 1 12 = some (bI (1 ≤ v.toInt ∧ v.toInt ≤ 12)) := in_lit (B := 1) (C := 12) v 1 12 rfl rfl
theorem item_X (items : Nat → Int32) {a p : Nat} (ha : a < 8) (hp : p < 40) : fX5_item items (nI a) (nI p) = some (items (40 * a + p)) := by
  unfold fX5_item
  rw [r40, chk_t (nI_in (show 40 * a + p < 320 by omega) (by decide)), nI_clamp (by omega)]
theorem areC_X {items item : Nat → Int32} {a p n st k : Nat} (ha : a < 8) (hst : st = 1 ∨ st = 2) (hn : p + st * n ≤ k) (hk : k ≤ 40) (hi : ∀ i : Nat, i < k → items (40 * a + i) = item (40 * a + i)) : ∀ i q m : Nat, q + i = n → i < m → fX8_areCells_L3 items (nI a) (nI p) (nI n) (nI st) m (nI q) = some (bI (∀ x : Nat, x < n → q ≤ x → rng 15 (item (40 * a + p + st * x))))
  | i, q, m, hq, hm => by
    obtain ⟨m, rfl⟩ : ∃ z, m = z + 1 := ⟨m - 1, by omega⟩
    rw [fX8_areCells_L3.eq_2]
    have hnn : n ≤ 40 := by rcases hst with rfl | rfl <;> omega
    match i, hq, hm with
    | 0, hq, hm => rw [if_pos (nI_le (by omega) (by omega)), bI_t (fun x h1 h2 => by omega)]
    | i + 1, hq, hm =>
      have hx : st * q + st ≤ st * n := by rw [← Nat.mul_succ]; exact Nat.mul_le_mul_left st (by omega)
      have hx2 : p + st * q < k := by rcases hst with rfl | rfl <;> omega
      rw [if_neg (nI_ge (show q < n by omega) (by omega)), pk_mul, nI_add, item_X items ha (by omega), bd1_some, hi _ hx2, ← Nat.add_assoc, e_isCell8, bd1_some, if_bI]
      by_cases hr : rng 15 (item (40 * a + p + st * q))
      · rw [if_pos hr, ← nI_succ, areC_X ha hst hn hk hi i (q + 1) m (by omega) (by omega)]
        refine congrArg some (bI_cg ⟨fun h x h1 h2 => ?_, fun h x h1 h2 => h x h1 (by omega)⟩)
        rcases Nat.lt_or_ge q x with g | g
        · exact h x h1 (by omega)
        · rw [show x = q by omega]; exact hr
      · rw [if_neg hr, bI_f (fun h => hr (h q (by omega) (Nat.le_refl _)))]
theorem cells_M {item : Nat → Int32} {a p n : Nat} (ha : a < 8) (hn : p + 2 * n ≤ 40) (st : Int32) (kk : Option (Int32 × Int32 × Int32)) : ∀ i q m : Nat, q + i = n → i < m → fX9_who_L83 st item (nI a) (nI p) (nI n) kk m (nI q) = if (∀ x : Nat, x < n → q ≤ x → rng 15 (item (40 * a + p + 2 * x))) then kk else some (-1000001, 0, st)
  | i, q, m, hq, hm => by
    obtain ⟨m, rfl⟩ : ∃ z, m = z + 1 := ⟨m - 1, by omega⟩
    rw [fX9_who_L83.eq_2]
    match i, hq, hm with
    | 0, hq, hm => rw [if_pos (nI_le (by omega) (by omega)), if_pos (fun x h1 h2 => by omega)]
    | i + 1, hq, hm =>
      have e : 40 * nI a + nI p + 2 * nI q = nI (40 * a + p + 2 * q) := by rw [r40', show (2 : Int32) = nI 2 from rfl, pk_mul, nI_add]
      rw [if_neg (nI_ge (show q < n by omega) (by omega)), e, chk_t (nI_in (show 40 * a + p + 2 * q < 320 by omega) (by decide)), nI_clamp (by omega), e_isCell9, bd1_some, if_bI]
      by_cases hr : rng 15 (item (40 * a + p + 2 * q))
      · rw [if_pos hr, ← nI_succ, cells_M ha hn st kk i (q + 1) m (by omega) (by omega)]
        by_cases h : ∀ x : Nat, x < n → q + 1 ≤ x → rng 15 (item (40 * a + p + 2 * x))
        · rw [if_pos h, if_pos]
          intro x h1 h2
          rcases Nat.lt_or_ge q x with g | g
          · exact h x h1 (by omega)
          · rw [show x = q by omega]; exact hr
        · rw [if_neg h, if_neg (fun h' => h (fun x h1 h2 => h' x h1 (by omega)))]
      · rw [if_neg hr, if_neg (fun h => hr (h q (by omega) (Nat.le_refl _)))]
theorem who_0 {item w : Nat → Int32} {v1 v2 v5 : Int32} {n : Nat} (hn : n ≤ 40) (k : Int32 → Option (Int32 × Int32 × Int32)) : ∀ i q m : Nat, q + i = n → i < m → fX9_who_L143 item w v1 v2 (nI n) v5 k m 0 (nI q) = k 0
  | i, q, m, hq, hm => by
    obtain ⟨m, rfl⟩ : ∃ z, m = z + 1 := ⟨m - 1, by omega⟩
    rw [fX9_who_L143.eq_2]
    match i, hq, hm with
    | 0, hq, hm => rw [if_pos (nI_le (by omega) (by omega))]
    | i + 1, hq, hm => rw [if_neg (nI_ge (show q < n by omega) (by omega)), if_pos rfl, ← nI_succ, who_0 hn k i (q + 1) m (by omega) (by omega)]
theorem prices_both {items item heights w : Nat → Int32} {a p n k : Nat} (ha : a < 8) (hn : p + 2 * n ≤ k) (hk : k ≤ 40) (hi : ∀ i : Nat, i < k → items (40 * a + i) = item (40 * a + i)) (hh : ∀ c : Nat, c < 15 → heights c = w (6 + c)) (hc : ∀ x : Nat, x < n → rng 15 (item (40 * a + p + 2 * x))) {kd : Int32} (hkd : kd = 1 ∨ kd = 2 ∨ kd = 3 ∨ kd = 4 ∨ kd = 5) (kk : Int32 → Option (Int32 × Int32 × Int32)) : ∀ i q m m' : Nat, q + i = n → i < m → i < m' →
    (fX8_arePricesTo_L3 items (w 3) heights kd (nI a) (nI p) (nI n) m (nI q) = some 1 ∧ fX9_who_L143 item w (nI a) (nI p) (nI n) kd kk m' 1 (nI q) = kk 1) ∨ (fX8_arePricesTo_L3 items (w 3) heights kd (nI a) (nI p) (nI n) m (nI q) = some 0 ∧ fX9_who_L143 item w (nI a) (nI p) (nI n) kd kk m' 1 (nI q) = kk 0)
  | i, q, m, m', hq, hm, hm' => by
    obtain ⟨m, rfl⟩ : ∃ z, m = z + 1 := ⟨m - 1, by omega⟩
    obtain ⟨m', rfl⟩ : ∃ z, m' = z + 1 := ⟨m' - 1, by omega⟩
    rw [fX8_arePricesTo_L3.eq_2, fX9_who_L143.eq_2]
    match i, hq, hm, hm' with
    | 0, hq, hm, hm' =>
      rw [if_pos (nI_le (show n ≤ q by omega) (by omega)), if_pos (nI_le (show n ≤ q by omega) (by omega))]
      exact Or.inl ⟨rfl, rfl⟩
    | i + 1, hq, hm, hm' =>
      have e2 : nI p + 2 * nI q = nI (p + 2 * q) := by rw [show (2 : Int32) = nI 2 from rfl, pk_mul, nI_add]
      have e : 40 * nI a + nI p + 2 * nI q = nI (40 * a + p + 2 * q) := by rw [r40', show (2 : Int32) = nI 2 from rfl, pk_mul, nI_add]
      obtain ⟨c, hc2, ec⟩ := rng_of (n := 15) (hc q (by omega)) (by decide)
      have i1 := hi (p + 2 * q) (by omega)
      have i2 := hi (p + 2 * q + 1) (by omega)
      rw [← Nat.add_assoc] at i1
      have a2 : 40 * a + (p + 2 * q + 1) = 40 * a + p + 2 * q + 1 := by omega
      rw [if_neg (nI_ge (show q < n by omega) (by omega)), if_neg (nI_ge (show q < n by omega) (by omega)), if_neg n10, e2, e, item_X items ha (by omega), bd1_some, ← Nat.add_assoc, i1, ec, cost_X w heights hkd hc2 (hh c hc2), bd1_some, nI_1, nI_1, item_X items ha (by omega), bd1_some, i2, chk_t (nI_in (show 40 * a + p + 2 * q < 320 by omega) (by decide)), nI_clamp (n := 40 * a + p + 2 * q) (by omega), ec, cost_M w kd hc2, bd1_some, nI_1, chk_t (nI_in (show 40 * a + p + 2 * q + 1 < 320 by omega) (by decide)), nI_clamp (n := 40 * a + p + 2 * q + 1) (by omega), a2]
      by_cases h : sCost w kd c = item (40 * a + p + 2 * q + 1)
      · rw [if_pos h, if_pos h]
        exact prices_both ha hn hk hi hh hc hkd kk i (q + 1) m m' (by omega) (by omega) (by omega)
      · rw [if_neg h, if_neg h, who_0 (by omega) kk i (q + 1) m' (by omega) (by omega)]
        exact Or.inr ⟨rfl, rfl⟩
theorem who_L {items item heights w : Nat → Int32} {a p n k : Nat} (ha : a < 8) (hn : p + 2 * n ≤ k) (hk : k ≤ 40) (hi : ∀ i : Nat, i < k → items (40 * a + i) = item (40 * a + i)) (hh : ∀ c : Nat, c < 15 → heights c = w (6 + c)) (hc : ∀ x : Nat, x < n → rng 15 (item (40 * a + p + 2 * x))) (kx : Int32 → Option (Int32 × Int32)) : ∀ i q m m' : Nat, ∀ z : Int32, q + i = 6 → 1 ≤ q → i < m → i < m' →
    ∃ r, fX8_who_L88 items (w 3) heights (nI a) (nI p) (nI n) kx m z (nI q) = kx r ∧ fX9_who_L131 item w (nI a) (nI p) (nI n) m' z (nI q) = some (r, 0, 0)
  | i, q, m, m', z, hq, h1, hm, hm' => by
    obtain ⟨m, rfl⟩ : ∃ z, m = z + 1 := ⟨m - 1, by omega⟩
    obtain ⟨m', rfl⟩ : ∃ z, m' = z + 1 := ⟨m' - 1, by omega⟩
    rw [fX8_who_L88.eq_2, fX9_who_L131.eq_2]
    match i, hq, hm, hm' with
    | 0, hq, hm, hm' =>
      rw [if_pos (show (5 : Int32) < nI q from nI_lt (a := 5) (by omega) (by omega)), if_pos (show (5 : Int32) < nI q from nI_lt (a := 5) (by omega) (by omega))]
      exact ⟨z, rfl, rfl⟩
    | i + 1, hq, hm, hm' =>
      have hkd : nI q = 1 ∨ nI q = 2 ∨ nI q = 3 ∨ nI q = 4 ∨ nI q = 5 := by
        rcases (show q = 1 ∨ q = 2 ∨ q = 3 ∨ q = 4 ∨ q = 5 by omega) with rfl | rfl | rfl | rfl | rfl <;> decide
      rw [if_neg (show ¬ (5 : Int32) < nI q from nI_nlt (b := q) (a := 5) (by omega) (by decide)), if_neg (show ¬ (5 : Int32) < nI q from nI_nlt (b := q) (a := 5) (by omega) (by decide)), ← nI_succ, or0]
      unfold fX8_arePricesTo
      rcases prices_both ha hn hk hi hh hc hkd (fun v6_e208 => (if v6_e208 = 0 then ((fX9_who_L131 item w (nI a) (nI p) (nI n) m') z (nI (q + 1))) else ((fX9_who_L131 item w (nI a) (nI p) (nI n) m') (z ||| (1 <<< (nI q &&& 31))) (nI (q + 1))))) n 0 FU FU (by omega) (fu_big (by omega)) (fu_big (by omega)) with ⟨x, y⟩ | ⟨x, y⟩
      · rw [show fX8_arePricesTo_L3 items (w 3) heights (nI q) (nI a) (nI p) (nI n) FU 0 = some 1 from x, bd1_some, if_neg n10]
        obtain ⟨r, r1, r2⟩ := who_L ha hn hk hi hh hc kx i (q + 1) m m' (z ||| (1 <<< (nI q &&& 31))) (by omega) (by omega) (by omega) (by omega)
        exact ⟨r, r1, y.trans (by rw [if_neg n10]; exact r2)⟩
      · rw [show fX8_arePricesTo_L3 items (w 3) heights (nI q) (nI a) (nI p) (nI n) FU 0 = some 0 from x, bd1_some, if_pos rfl]
        obtain ⟨r, r1, r2⟩ := who_L ha hn hk hi hh hc kx i (q + 1) m m' z (by omega) (by omega) (by omega) (by omega)
        exact ⟨r, r1, y.trans (by rw [if_pos rfl]; exact r2)⟩
theorem pu_who {s_finding : Int32} {rows_lanes : (Nat → Int32)} {rows_lengths : (Nat → Int32)} {rows_items : (Nat → Int32)} {tape_bytes : (Nat → Int32)} {tape_length : Int32} {tape_faultNumber : Int32} {land_told : Int32} {land_low : Int32} {land_high : Int32} {land_price : Int32} {land_hour : Int32} {land_bidders : Int32} {land_heights : (Nat → Int32)} {land_holders : (Nat → Int32)} {land_kinds : (Nat → Int32)} {land_purses : (Nat → Int32)} {land_homes : (Nat → Int32)} {firstImage_told : Int32} {firstImage_low : Int32} {firstImage_high : Int32} {firstImage_price : Int32} {firstImage_hour : Int32} {firstImage_bidders : Int32} {firstImage_heights : (Nat → Int32)} {firstImage_holders : (Nat → Int32)} {firstImage_kinds : (Nat → Int32)} {firstImage_purses : (Nat → Int32)} {firstImage_homes : (Nat → Int32)} {secondImage_told : Int32} {secondImage_low : Int32} {secondImage_high : Int32} {secondImage_price : Int32} {secondImage_hour : Int32} {secondImage_bidders : Int32} {secondImage_heights : (Nat → Int32)} {secondImage_holders : (Nat → Int32)} {secondImage_kinds : (Nat → Int32)} {secondImage_purses : (Nat → Int32)} {secondImage_homes : (Nat → Int32)} {acts_saved : (Nat → Int32)} {acts_next : Int32} {acts_kept : Int32} {asks_bodies : (Nat → Int32)} {asks_traced : Int32} {m_status : Int32} {m_lane : (Nat → Int32)} {m_many : (Nat → Int32)} {m_item : (Nat → Int32)} {m_isle : (Nat → Int32)} {m_was : (Nat → Int32)} {m_acts : Int32} {m_tape : (Nat → Int32)} {m_taped : Int32} {m_latest : Int32} {m_isKept : (Nat → Int32)} {m_kept : (Nat → Int32)} {m_trace : (Nat → Int32)} {m_traced : Int32} (hI : LInv s_finding rows_lanes rows_lengths rows_items tape_bytes tape_length tape_faultNumber land_told land_low land_high land_price land_hour land_bidders land_heights land_holders land_kinds land_purses land_homes firstImage_told firstImage_low firstImage_high firstImage_price firstImage_hour firstImage_bidders firstImage_heights firstImage_holders firstImage_kinds firstImage_purses firstImage_homes secondImage_told secondImage_low secondImage_high secondImage_price secondImage_hour secondImage_bidders secondImage_heights secondImage_holders secondImage_kinds secondImage_purses secondImage_homes acts_saved acts_next acts_kept asks_bodies asks_traced m_status m_lane m_many m_item m_isle m_was m_acts m_tape m_taped m_latest m_isKept m_kept m_trace m_traced) (v1 : Int32) (v2 : Int32) (v3 : Int32) : ∃ (r : Int32) (s_finding' : Int32) (m_thrown' : Int32) (m_status' : Int32), fX8_who s_finding rows_lanes rows_lengths rows_items land_told land_price land_heights v1 v2 v3 = some (r, s_finding') ∧ fX9_who m_status m_lane m_many m_item m_isle v1 v2 v3 = some (r, m_thrown', m_status') ∧ LInv s_finding' rows_lanes rows_lengths rows_items tape_bytes tape_length tape_faultNumber land_told land_low land_high land_price land_hour land_bidders land_heights land_holders land_kinds land_purses land_homes firstImage_told firstImage_low firstImage_high firstImage_price firstImage_hour firstImage_bidders firstImage_heights firstImage_holders firstImage_kinds firstImage_purses firstImage_homes secondImage_told secondImage_low secondImage_high secondImage_price secondImage_hour secondImage_bidders secondImage_heights secondImage_holders secondImage_kinds secondImage_purses secondImage_homes acts_saved acts_next acts_kept asks_bodies asks_traced m_status' m_lane m_many m_item m_isle m_was m_acts m_tape m_taped m_latest m_isKept m_kept m_trace m_traced := by
  obtain ⟨hst, hR, hT, hL, hO, hrest⟩ := id hI
  obtain ⟨e0, e1, e2, e3, e5, e4, hh, ho, hb⟩ := id hL
  suffices H : ∃ (r : Int32) (s_finding' : Int32) (m_thrown' : Int32) (m_status' : Int32), fX8_who s_finding rows_lanes rows_lengths rows_items land_told land_price land_heights v1 v2 v3 = some (r, s_finding') ∧ fX9_who m_status m_lane m_many m_item m_isle v1 v2 v3 = some (r, m_thrown', m_status') ∧ s_finding' = m_status' by
    obtain ⟨r, a1, b1, b2, g1, g2, g3⟩ := H
    exact ⟨r, a1, b1, b2, g1, g2, g3, hR, hT, hL, hO, hrest⟩
  unfold fX8_who fX9_who
  rw [e0, told_X hO, there_M, e_isRow5, e_isRow9, num_X, num_M]
  simp only [bd1_some, if_bI]
  by_cases hw : m_isle 0 = 1
  rotate_left 1
  · rw [if_neg hw, if_neg hw]
    exact ⟨_, _, _, _, rfl, rfl, hst⟩
  rw [if_pos hw, if_pos hw]
  by_cases hv1 : rng 8 v1
  rotate_left 1
  · rw [if_neg hv1, if_neg hv1]
    exact ⟨_, _, _, _, rfl, rfl, hst⟩
  rw [if_pos hv1, if_pos hv1]
  by_cases hn : 1 ≤ v3.toInt ∧ v3.toInt ≤ 12
  rotate_left 1
  · rw [if_neg hn, if_neg hn]
    exact ⟨_, _, _, _, rfl, rfl, hst⟩
  rw [if_pos hn, if_pos hn]
  obtain ⟨a, ha, ea⟩ := rng_of (n := 8) hv1 (by decide)
  obtain ⟨n, hn2, en⟩ := nat_of (x := v3) (n := 12) (by omega) (by omega) (by decide)
  have hn1 : 1 ≤ n := by rw [en, nI_toInt (by omega)] at hn; omega
  have d2 : 2 * v3 = nI (2 * n) := by rw [en, show (2 : Int32) = nI 2 from rfl, pk_mul]
  obtain ⟨el, hm⟩ := hR a ha
  rw [d2, ea, miss_X _ ha, bd1_some, if_bI, chk_t (nI_in ha (by decide)), chk_t (nI_in ha (by decide)), nI_clamp (n := a) (by omega), el]
  rcases hm with hm | ⟨hm, k, hk, ek, em, hi⟩
  · rw [if_pos hm, if_neg (lane_neg hm)]
    exact ⟨_, _, _, _, rfl, rfl, rfl⟩
  obtain ⟨l1, l2, l3⟩ := lane_pos hm
  rw [if_neg l2, if_pos l1, places_g rows_lengths ha hk ek, bd1_some, if_bI, row_chk _ _ _ _ _ (by rw [nI_toInt (by omega)]; omega), em, nI_toInt (n := k) (by omega), nI_toInt (n := 2 * n) (by omega)]
  by_cases hp : 0 ≤ v2.toInt ∧ 0 ≤ ((2 * n : Nat) : Int) ∧ v2.toInt + ((2 * n : Nat) : Int) ≤ (k : Int)
  rotate_left 1
  · rw [if_neg hp, if_neg hp]
    exact ⟨_, _, _, _, rfl, rfl, rfl⟩
  rw [if_pos hp, if_pos hp]
  obtain ⟨p, hp2, ep⟩ := nat_of (x := v2) (n := 40) hp.1 (by omega) (by decide)
  rw [ep, nI_toInt (by omega)] at hp
  have hpk : p + 2 * n ≤ k := by omega
  rw [ep, en]
  unfold fX8_areCells
  rw [show fX8_areCells_L3 rows_items (nI a) (nI p) (nI n) 2 FU 0 = _ from areC_X (st := 2) ha (Or.inr rfl) hpk hk hi n 0 FU (by omega) (fu_big (by omega)), bd1_some, if_bI, show fX9_who_L83 m_status m_item (nI a) (nI p) (nI n) _ FU 0 = _ from cells_M ha (show p + 2 * n ≤ 40 by omega) m_status _ n 0 FU (by omega) (fu_big (by omega))]
  by_cases hc : ∀ x : Nat, x < n → 0 ≤ x → rng 15 (m_item (40 * a + p + 2 * x))
  rotate_left 1
  · rw [if_neg hc, if_neg hc]
    exact ⟨_, _, _, _, rfl, rfl, hst⟩
  rw [if_pos hc, if_pos hc, e3]
  obtain ⟨r, r1, r2⟩ := who_L (heights := land_heights) ha hpk hk hi hh (fun x h => hc x h (Nat.zero_le _)) (fun v4_e121 => bd2 (fX8_unfound v4_e121) (fun r_16 s_finding_16 => some (r_16, s_finding_16))) 5 1 FU FU 0 (by omega) (by omega) (fu_big (by decide)) (fu_big (by decide))
  exact ⟨r, 0, 0, 0, r1, r2, rfl⟩

