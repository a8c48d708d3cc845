/-! copies -/
theorem le64 (a b c : Int32) : a.toInt64 + b.toInt64 ≤ c.toInt64 ↔ a.toInt + b.toInt ≤ c.toInt := by
  have h1 := Int32.le_toInt a
  have h2 := Int32.toInt_lt a
  have h3 := Int32.le_toInt b
  have h4 := Int32.toInt_lt b
  rw [Int64.le_iff_toInt_le, Int64.toInt_add, Int32.toInt_toInt64, Int32.toInt_toInt64, Int32.toInt_toInt64, Int.bmod_eq_of_le (by omega) (by omega)]
theorem lt0_iff (v : Int32) : v < 0 ↔ v.toInt < 0 := by rw [Int32.lt_iff_toInt_lt, Int32.toInt_zero]
theorem places_g (lengths : Nat → Int32) {j k : Nat} (hj : j < 8) (hk : k ≤ 40) (ek : lengths j = nI k) (i n : Int32) : fX5_hasPlaces lengths (nI j) i n = some (bI (0 ≤ i.toInt ∧ 0 ≤ n.toInt ∧ i.toInt + n.toInt ≤ k)) := by
  by_cases h : n < 0
  · unfold fX5_hasPlaces
    rw [bI_f (by rw [lt0_iff] at h; omega)]
    by_cases h0 : i < 0
    · rw [if_pos h0]
    · rw [if_neg h0, if_pos h]
  · obtain ⟨q, hq, e⟩ := nI_of h
    by_cases hb : q < 2 ^ 30
    · rw [e, places_X lengths hj hk ek hb i]
      refine congrArg some (bI_cg ?_)
      rw [nI_toInt hq]
      omega
    · unfold fX5_hasPlaces
      rw [e, bI_f (by rw [nI_toInt hq]; omega)]
      by_cases h0 : i < 0
      · rw [if_pos h0]
      · rw [if_neg h0, if_neg (nI_pos hq), chk_t (nI_in hj (by decide)), nI_clamp (by omega), ek, if_pos ((nI_ltI (by omega) (by omega)).mpr (by omega))]
theorem cp_up {S D n : Nat} (h : ∀ i' i : Nat, i' < i → i < n → D + i' ≠ S + i) (z : Nat → Int32) : ∀ m : Nat, m ≤ n → ∀ x : Nat, itr (fun k a => upd a (D + k) (a (S + k))) m z x = if D ≤ x ∧ x < D + m then z (S + (x - D)) else z x
  | 0, _, x => by rw [if_neg (by omega)]; rfl
  | m + 1, hm, x => by
    have e := cp_up h z m (by omega)
    show upd (itr (fun k a => upd a (D + k) (a (S + k))) m z) (D + m) (itr (fun k a => upd a (D + k) (a (S + k))) m z (S + m)) x = _
    rw [e (S + m), if_neg (fun q => h (S + m - D) m (by omega) (by omega) (by omega))]
    by_cases hx : x = D + m
    · rw [hx, pk_us, if_pos (by omega), show S + (D + m - D) = S + m by omega]
    · rw [pk_un hx, e x]
      by_cases q : D ≤ x ∧ x < D + m
      · rw [if_pos q, if_pos (by omega)]
      · rw [if_neg q, if_neg (by omega)]
theorem cp_dn {S D n : Nat} (h : ∀ i' i : Nat, i < i' → i' < n → D + i' ≠ S + i) (z : Nat → Int32) : ∀ m : Nat, m ≤ n → ∀ x : Nat, itr (fun k a => upd a (D + (n - 1 - k)) (a (S + (n - 1 - k)))) m z x = if D + (n - m) ≤ x ∧ x < D + n then z (S + (x - D)) else z x
  | 0, _, x => by rw [if_neg (by omega)]; rfl
  | m + 1, hm, x => by
    have e := cp_dn h z m (by omega)
    show upd (itr (fun k a => upd a (D + (n - 1 - k)) (a (S + (n - 1 - k)))) m z) (D + (n - 1 - m)) (itr (fun k a => upd a (D + (n - 1 - k)) (a (S + (n - 1 - k)))) m z (S + (n - 1 - m))) x = _
    rw [e (S + (n - 1 - m)), if_neg (fun q => h (S + (n - 1 - m) - D) (n - 1 - m) (by omega) (by omega) (by omega))]
    by_cases hx : x = D + (n - 1 - m)
    · rw [hx, pk_us, if_pos (by omega), show S + (D + (n - 1 - m) - D) = S + (n - 1 - m) by omega]
    · rw [pk_un hx, e x]
      by_cases q : D + (n - m) ≤ x ∧ x < D + n
      · rw [if_pos q, if_pos (by omega)]
      · rw [if_neg q, if_neg (by omega)]
theorem copy_up {a b p q n : Nat} (ha : a < 8) (hb : b < 8) (hp : p + n ≤ 40) (hq : q + n ≤ 40) (item : Nat → Int32) : fX9_copy_L143 (nI a) (nI p) (nI b) (nI q) (nI n) 1 FU 0 item = some (nI n, 0, 0, itr (fun k z => upd z (40 * b + q + k) (z (40 * a + p + k))) n item) := by
  refine (for_loop (fun m z i => fX9_copy_L143 (nI a) (nI p) (nI b) (nI q) (nI n) 1 m i z) n (fun k z => upd z (40 * b + q + k) (z (40 * a + p + k))) (fun z => some (nI n, 0, 0, z)) (fun _ _ => True) (fun m k z hk _ => ⟨?_, trivial⟩) (fun m z _ => ?_) item trivial FU (fu_big (by omega))).1
  · show fX9_copy_L143 (nI a) (nI p) (nI b) (nI q) (nI n) 1 (m + 1) (nI k) z = _
    have e1 : 40 * nI a + nI p + nI k = nI (40 * a + p + k) := by rw [r40', nI_add]
    have e2 : 40 * nI b + nI q + nI k = nI (40 * b + q + k) := by rw [r40', nI_add]
    rw [fX9_copy_L143.eq_2, if_neg (nI_ge hk (by omega)), if_neg n10]
    unfold fX9_copy_J167
    rw [e1, e2, chk_t (nI_in (show 40 * a + p + k < 320 by omega) (by decide)), chk_t (nI_in (show 40 * b + q + k < 320 by omega) (by decide)), nI_clamp (n := 40 * a + p + k) (by omega), nI_clamp (n := 40 * b + q + k) (by omega), nI_succ]
  · show fX9_copy_L143 (nI a) (nI p) (nI b) (nI q) (nI n) 1 (m + 1) (nI n) z = _
    rw [fX9_copy_L143.eq_2, if_pos (nI_le (Nat.le_refl n) (by omega))]
theorem copy_dn {a b p q n : Nat} (ha : a < 8) (hb : b < 8) (hp : p + n ≤ 40) (hq : q + n ≤ 40) (item : Nat → Int32) : fX9_copy_L143 (nI a) (nI p) (nI b) (nI q) (nI n) 0 FU 0 item = some (nI n, 0, 0, itr (fun k z => upd z (40 * b + q + (n - 1 - k)) (z (40 * a + p + (n - 1 - k)))) n item) := by
  refine (for_loop (fun m z i => fX9_copy_L143 (nI a) (nI p) (nI b) (nI q) (nI n) 0 m i z) n (fun k z => upd z (40 * b + q + (n - 1 - k)) (z (40 * a + p + (n - 1 - k)))) (fun z => some (nI n, 0, 0, z)) (fun _ _ => True) (fun m k z hk _ => ⟨?_, trivial⟩) (fun m z _ => ?_) item trivial FU (fu_big (by omega))).1
  · show fX9_copy_L143 (nI a) (nI p) (nI b) (nI q) (nI n) 0 (m + 1) (nI k) z = _
    have e0 : nI n - 1 - nI k = nI (n - 1 - k) := by rw [show (1 : Int32) = nI 1 from rfl, pk_sub (by omega), pk_sub (by omega)]
    have e1 : 40 * nI a + nI p + nI (n - 1 - k) = nI (40 * a + p + (n - 1 - k)) := by rw [r40', nI_add]
    have e2 : 40 * nI b + nI q + nI (n - 1 - k) = nI (40 * b + q + (n - 1 - k)) := by rw [r40', nI_add]
    rw [fX9_copy_L143.eq_2, if_neg (nI_ge hk (by omega)), if_pos rfl]
    unfold fX9_copy_J167
    rw [e0, e1, e2, chk_t (nI_in (show 40 * a + p + (n - 1 - k) < 320 by omega) (by decide)), chk_t (nI_in (show 40 * b + q + (n - 1 - k) < 320 by omega) (by decide)), nI_clamp (n := 40 * a + p + (n - 1 - k)) (by omega), nI_clamp (n := 40 * b + q + (n - 1 - k)) (by omega), nI_succ]
  · show fX9_copy_L143 (nI a) (nI p) (nI b) (nI q) (nI n) 0 (m + 1) (nI n) z = _
    rw [fX9_copy_L143.eq_2, if_pos (nI_le (Nat.le_refl n) (by omega))]
theorem copy_M {a b p q n : Nat} (ha : a < 8) (hb : b < 8) (hp : p + n ≤ 40) (hq : q + n ≤ 40) (item : Nat → Int32) : ∃ t : Nat → Int32, (if nI p < nI q then fX9_copy_J138 item (nI a) (nI p) (nI b) (nI q) (nI n) 0 else fX9_copy_J138 item (nI a) (nI p) (nI b) (nI q) (nI n) 1) = some (nI n, 0, 0, t) ∧ ∀ x : Nat, t x = if 40 * b + q ≤ x ∧ x < 40 * b + q + n then item (40 * a + p + (x - (40 * b + q))) else item x := by
  by_cases h : p < q
  · rw [if_pos ((nI_ltI (by omega) (by omega)).mpr h)]
    refine ⟨_, copy_dn ha hb hp hq item, fun x => ?_⟩
    rw [cp_dn (fun i' i h1 h2 => by rcases Nat.lt_trichotomy a b with g | g | g <;> omega) item n (Nat.le_refl n) x, Nat.sub_self, Nat.add_zero]
  · rw [if_neg (fun g => h ((nI_ltI (by omega) (by omega)).mp g))]
    refine ⟨_, copy_up ha hb hp hq item, fun x => ?_⟩
    rw [cp_up (fun i' i h1 h2 => by rcases Nat.lt_trichotomy a b with g | g | g <;> omega) item n (Nat.le_refl n) x]
theorem copy_chk {α : Type} (v2 v4 v5 A B : Int32) (x y : Option α) : (if v2 < 0 then y else if v4 < 0 then y else if v5 < 0 then y else if 0 < lg_cmp (v2.toInt64 + v5.toInt64) A.toInt64 then y else if lg_cmp (v4.toInt64 + v5.toInt64) B.toInt64 ≤ 0 then x else y) = if (0 ≤ v2.toInt ∧ 0 ≤ v5.toInt ∧ v2.toInt + v5.toInt ≤ A.toInt) ∧ (0 ≤ v4.toInt ∧ 0 ≤ v5.toInt ∧ v4.toInt + v5.toInt ≤ B.toInt) then x else y := by
  by_cases h2 : v2 < 0
  · rw [if_pos h2, if_neg (fun g => by rw [lt0_iff] at h2; omega)]
  rw [if_neg h2]
  by_cases h4 : v4 < 0
  · rw [if_pos h4, if_neg (fun g => by rw [lt0_iff] at h4; omega)]
  rw [if_neg h4]
  by_cases h5 : v5 < 0
  · rw [if_pos h5, if_neg (fun g => by rw [lt0_iff] at h5; omega)]
  rw [if_neg h5]
  rw [lt0_iff] at h2 h4 h5
  by_cases h6 : 0 < lg_cmp (v2.toInt64 + v5.toInt64) A.toInt64
  · rw [if_pos h6, if_neg (fun g => by rw [cmp_gt0, ← Int64.not_le, le64] at h6; omega)]
  rw [if_neg h6]
  rw [cmp_gt0, Int64.not_lt, le64] at h6
  by_cases h7 : lg_cmp (v4.toInt64 + v5.toInt64) B.toInt64 ≤ 0
  · rw [if_pos h7, if_pos (by rw [cmp_le0, le64] at h7; omega)]
  · rw [if_neg h7, if_neg (fun g => by rw [cmp_le0, le64] at h7; omega)]
theorem move_X (items : Nat → Int32) {a b p q n : Nat} (ha : a < 8) (hb : b < 8) (hp : p + n ≤ 40) (hq : q + n ≤ 40) : fX5_move items (nI a) (nI p) (nI b) (nI q) (nI n) = some (va_cpy items items (40 * a + p) (40 * b + q) n) := by
  unfold fX5_move
  rw [r40, r40, nI_clamp (n := 40 * a + p) (by omega), nI_clamp (n := 40 * b + q) (by omega), nI_clamp (n := n) (by omega), chk_t ⟨nI_pos (by omega), nI_pos (by omega), nI_pos (by omega), by omega, by omega⟩]
theorem lane_X (lanes : Nat → Int32) {a : Nat} (ha : a < 8) : fX5_lane lanes (nI a) = some (lanes a) := by
  unfold fX5_lane
  rw [chk_t (nI_in ha (by decide)), nI_clamp (by omega)]
theorem pu_copy {s_finding : Int32} {rows_lanes : (Nat → Int32)} {rows_lengths : (Nat → Int32)} {rows_items : (Nat → Int32)} {tape_bytes : (Nat → Int32)} {tape_length : Int32} {tape_faultNumber : Int32} {land_told : Int32} {land_low : Int32} {land_high : Int32} {land_price : Int32} {land_hour : Int32} {land_bidders : Int32} {land_heights : (Nat → Int32)} {land_holders : (Nat → Int32)} {land_kinds : (Nat → Int32)} {land_purses : (Nat → Int32)} {land_homes : (Nat → Int32)} {firstImage_told : Int32} {firstImage_low : Int32} {firstImage_high : Int32} {firstImage_price : Int32} {firstImage_hour : Int32} {firstImage_bidders : Int32} {firstImage_heights : (Nat → Int32)} {firstImage_holders : (Nat → Int32)} {firstImage_kinds : (Nat → Int32)} {firstImage_purses : (Nat → Int32)} {firstImage_homes : (Nat → Int32)} {secondImage_told : Int32} {secondImage_low : Int32} {secondImage_high : Int32} {secondImage_price : Int32} {secondImage_hour : Int32} {secondImage_bidders : Int32} {secondImage_heights : (Nat → Int32)} {secondImage_holders : (Nat → Int32)} {secondImage_kinds : (Nat → Int32)} {secondImage_purses : (Nat → Int32)} {secondImage_homes : (Nat → Int32)} {acts_saved : (Nat → Int32)} {acts_next : Int32} {acts_kept : Int32} {asks_bodies : (Nat → Int32)} {asks_traced : Int32} {m_status : Int32} {m_lane : (Nat → Int32)} {m_many : (Nat → Int32)} {m_item : (Nat → Int32)} {m_isle : (Nat → Int32)} {m_was : (Nat → Int32)} {m_acts : Int32} {m_tape : (Nat → Int32)} {m_taped : Int32} {m_latest : Int32} {m_isKept : (Nat → Int32)} {m_kept : (Nat → Int32)} {m_trace : (Nat → Int32)} {m_traced : Int32} (hI : LInv s_finding rows_lanes rows_lengths rows_items tape_bytes tape_length tape_faultNumber land_told land_low land_high land_price land_hour land_bidders land_heights land_holders land_kinds land_purses land_homes firstImage_told firstImage_low firstImage_high firstImage_price firstImage_hour firstImage_bidders firstImage_heights firstImage_holders firstImage_kinds firstImage_purses firstImage_homes secondImage_told secondImage_low secondImage_high secondImage_price secondImage_hour secondImage_bidders secondImage_heights secondImage_holders secondImage_kinds secondImage_purses secondImage_homes acts_saved acts_next acts_kept asks_bodies asks_traced m_status m_lane m_many m_item m_isle m_was m_acts m_tape m_taped m_latest m_isKept m_kept m_trace m_traced) (v1 : Int32) (v2 : Int32) (v3 : Int32) (v4 : Int32) (v5 : Int32) : ∃ (r : Int32) (s_finding' : Int32) (rows_items' : (Nat → Int32)) (m_thrown' : Int32) (m_status' : Int32) (m_item' : (Nat → Int32)), fX8_copy s_finding rows_lanes rows_lengths rows_items v1 v2 v3 v4 v5 = some (r, s_finding', rows_items') ∧ fX9_copy m_status m_lane m_many m_item v1 v2 v3 v4 v5 = some (r, m_thrown', m_status', m_item') ∧ LInv s_finding' rows_lanes rows_lengths rows_items' tape_bytes tape_length tape_faultNumber land_told land_low land_high land_price land_hour land_bidders land_heights land_holders land_kinds land_purses land_homes firstImage_told firstImage_low firstImage_high firstImage_price firstImage_hour firstImage_bidders firstImage_heights firstImage_holders firstImage_kinds firstImage_purses firstImage_homes secondImage_told secondImage_low secondImage_high secondImage_price secondImage_hour secondImage_bidders secondImage_heights secondImage_holders secondImage_kinds secondImage_purses secondImage_homes acts_saved acts_next acts_kept asks_bodies asks_traced m_status' m_lane m_many m_item' m_isle m_was m_acts m_tape m_taped m_latest m_isKept m_kept m_trace m_traced := by
  obtain ⟨hst, hR, hrest⟩ := id hI
  have bad : ∀ (x : Option (Int32 × Int32 × (Nat → Int32))) (y : Option (Int32 × Int32 × Int32 × (Nat → Int32))) (r f g : Int32), f = g → x = some (r, f, rows_items) → y = some (r, 0, g, m_item) → ∃ (r : Int32) (s_finding' : Int32) (rows_items' : (Nat → Int32)) (m_thrown' : Int32) (m_status' : Int32) (m_item' : (Nat → Int32)), x = some (r, s_finding', rows_items') ∧ y = some (r, m_thrown', m_status', m_item') ∧ (s_finding' = m_status' ∧ RRows rows_lanes rows_lengths rows_items' m_lane m_many m_item') := fun x y r f g e hx hy => ⟨_, _, _, _, _, _, hx, hy, e, hR⟩
  suffices H : ∃ (r : Int32) (s_finding' : Int32) (rows_items' : (Nat → Int32)) (m_thrown' : Int32) (m_status' : Int32) (m_item' : (Nat → Int32)), fX8_copy s_finding rows_lanes rows_lengths rows_items v1 v2 v3 v4 v5 = some (r, s_finding', rows_items') ∧ fX9_copy m_status m_lane m_many m_item v1 v2 v3 v4 v5 = some (r, m_thrown', m_status', m_item') ∧ (s_finding' = m_status' ∧ RRows rows_lanes rows_lengths rows_items' m_lane m_many m_item') by
    obtain ⟨r, a1, a2, b1, b2, b3, g1, g2, g3, g4⟩ := H
    exact ⟨r, a1, a2, b1, b2, b3, g1, g2, g3, g4, hrest⟩
  clear hI hrest
  unfold fX8_copy fX9_copy
  rw [e_isRow5 v1, e_isRow9 v1, bd1_some, bd1_some, if_bI, if_bI]
  by_cases hv1 : rng 8 v1
  rotate_left 1
  · rw [if_neg hv1, if_neg hv1]
    exact bad _ _ _ _ _ hst rfl rfl
  rw [if_pos hv1, if_pos hv1, e_isRow5 v3, e_isRow9 v3, bd1_some, bd1_some, if_bI, if_bI]
  by_cases hv3 : rng 8 v3
  rotate_left 1
  · rw [if_neg hv3, if_neg hv3]
    exact bad _ _ _ _ _ hst rfl rfl
  rw [if_pos hv3, if_pos hv3]
  obtain ⟨a, ha, ea⟩ := rng_of (n := 8) hv1 (by decide)
  obtain ⟨b, hb, eb⟩ := rng_of (n := 8) hv3 (by decide)
  clear hv1 hv3
  subst ea eb
  have ca := nI_in ha (show 8 < 2 ^ 31 by decide)
  have cb := nI_in hb (show 8 < 2 ^ 31 by decide)
  obtain ⟨el1, hm1⟩ := hR a ha
  obtain ⟨el3, hm3⟩ := hR b hb
  repeat rw [chk_t ca]
  repeat rw [chk_t cb]
  repeat rw [chk_t ca]
  repeat rw [chk_t cb]
  repeat rw [chk_t ca]
  repeat rw [chk_t cb]
  rw [nI_clamp (n := a) (by omega), nI_clamp (n := b) (by omega), miss_X _ ha, bd1_some, if_bI, el1]
  rcases hm1 with hm1 | ⟨hm1, k1, hk1, ek1, em1, hi1⟩
  · rw [if_pos hm1, if_pos (show m_lane a < 0 by rw [hm1]; decide)]
    exact bad _ _ _ 1 1 rfl rfl rfl
  obtain ⟨l1, l2, l3⟩ := lane_pos hm1
  rw [if_neg l2, if_neg l3, miss_X _ hb, bd1_some, if_bI, el3]
  rcases hm3 with hm3 | ⟨hm3, k3, hk3, ek3, em3, hi3⟩
  · rw [if_pos hm3, if_neg (lane_neg hm3)]
    exact bad _ _ _ 1 1 rfl rfl rfl
  obtain ⟨r1, r2, r3⟩ := lane_pos hm3
  rw [if_neg r2, if_pos r1, lane_X _ ha, lane_X _ hb, bd1_some, bd1_some, el1, el3]
  by_cases hl : m_lane a = m_lane b
  rotate_left 1
  · rw [if_neg hl, if_neg hl]
    exact bad _ _ _ 5 5 rfl rfl rfl
  rw [if_pos hl, if_pos hl, places_g rows_lengths ha hk1 ek1 v2 v5, bd1_some, if_bI, places_g rows_lengths hb hk3 ek3 v4 v5, bd1_some, if_bI, copy_chk, em1, em3, nI_toInt (n := k1) (by omega), nI_toInt (n := k3) (by omega)]
  by_cases p1 : 0 ≤ v2.toInt ∧ 0 ≤ v5.toInt ∧ v2.toInt + v5.toInt ≤ k1
  rotate_left 1
  · rw [if_neg p1, if_neg (fun g => p1 g.1)]
    exact bad _ _ _ 2 2 rfl rfl rfl
  by_cases p3 : 0 ≤ v4.toInt ∧ 0 ≤ v5.toInt ∧ v4.toInt + v5.toInt ≤ k3
  rotate_left 1
  · rw [if_pos p1, if_neg p3, if_neg (fun g => p3 g.2)]
    exact bad _ _ _ 2 2 rfl rfl rfl
  rw [if_pos p1, if_pos p3, if_pos ⟨p1, p3⟩]
  obtain ⟨p, hp, ep⟩ := nI_of (show ¬ v2 < 0 by rw [lt0_iff]; omega)
  obtain ⟨q, hq, eq⟩ := nI_of (show ¬ v4 < 0 by rw [lt0_iff]; omega)
  obtain ⟨n, hn, en⟩ := nI_of (show ¬ v5 < 0 by rw [lt0_iff]; omega)
  subst ep eq en
  rw [nI_toInt hp, nI_toInt hn] at p1
  rw [nI_toInt hq, nI_toInt hn] at p3
  obtain ⟨t, ht, htx⟩ := copy_M ha hb (show p + n ≤ 40 by omega) (show q + n ≤ 40 by omega) m_item
  rw [move_X rows_items ha hb (by omega) (by omega), ht]
  refine ⟨nI n, 0, va_cpy rows_items rows_items (40 * a + p) (40 * b + q) n, 0, 0, t, rfl, rfl, rfl, ?_⟩
  refine rrows_upd (j := b) hR (fun r hr => ⟨rfl, rfl, rfl, rfl, fun i hi => ⟨?_, ?_⟩⟩) ⟨el3, Or.inr ⟨hm3, k3, hk3, ek3, em3, fun i hi => ?_⟩⟩
  · rw [pk_cpy_out]
    rcases Nat.lt_or_gt_of_ne hr with g | g <;> omega
  · rw [htx, if_neg]
    rcases Nat.lt_or_gt_of_ne hr with g | g <;> omega
  · rw [htx]
    by_cases g : 40 * b + q ≤ 40 * b + i ∧ 40 * b + i < 40 * b + q + n
    · rw [if_pos g, pk_cpy_in g.1 g.2, show 40 * a + p + (40 * b + i - (40 * b + q)) = 40 * a + (p + (i - q)) by omega]
      exact hi1 _ (by omega)
    · rw [if_neg g, pk_cpy_out (by omega)]
      exact hi3 i hi
/-! what a bidder is asked -/
theorem a_bd2 {α β γ : Type} (x : α) (y : β) (k : α → β → Option γ) : bd2 (some (x, y)) k = k x y := rfl
theorem a_bd3 {α β γ δ : Type} (x : α) (y : β) (z : γ) (k : α → β → γ → Option δ) : bd3 (some (x, y, z)) k = k x y z := rfl
theorem bX (t u : Nat) (ht : t < 16) (hu : u = t + 1) (b : Nat → Int32) (v : Int32) : fX1_begin b (nI t) v = some (upd b t v, nI u) := by
  unfold fX1_begin
  rw [if_neg (show ¬ (16 : Int32) ≤ nI t from nI_ge ht (by decide)), chk_t (nI_in ht (by decide)), nI_clamp (by omega), hu, nI_succ]
theorem bM (t u : Nat) (ht : t < 16) (hu : u = t + 1) (b : Nat → Int32) (v : Int32) : fX9_began b (nI t) v = some (upd b t v, nI u) := bX t u ht hu b v
theorem up_eq {t u : Nat} {b z : Nat → Int32} {v : Int32} (hu : u = t + 1) (h : ∀ i : Nat, i < t → b i = z i) : ∀ i : Nat, i < u → upd b t v i = upd z t v i := by
  intro i hi
  by_cases e : i = t
  · rw [e, pk_us, pk_us]
  · rw [pk_un e, pk_un e]; exact h i (by omega)
theorem ask_s (w b z : Nat → Int32) {j : Nat} (hj : j < 5) (hk : 1 ≤ (w (36 + 3 * j)).toInt ∧ (w (36 + 3 * j)).toInt ≤ 5) : ∃ (r : Int32) (b' z' : Nat → Int32) (t : Nat), t ≤ 16 ∧ fX1_sizeAsked b (nI 0) (nI j) (w (36 + 3 * j)) (w (37 + 3 * j)) (w (38 + 3 * j)) = some (r, b', nI t) ∧ fX9_sizeOf w z (nI 0) (nI j) = some (r, z', nI t) ∧ ∀ i : Nat, i < t → b' i = z' i := by
  have z0 : ∀ i : Nat, i < 0 → b i = z i := fun i h => absurd h (Nat.not_lt_zero i)
  rcases kind_of hk with e | e | e | e | e
  · refine ⟨w (37 + 3 * j) + (nI j + w (38 + 3 * j)), (upd (upd (upd (upd b 0 11) 1 10) 2 21) 3 20), (upd (upd (upd (upd z 0 11) 1 10) 2 21) 3 20), 4, by decide, ?_, ?_, (up_eq (t := 3) (u := 4) (v := 20) rfl (up_eq (t := 2) (u := 3) (v := 21) rfl (up_eq (t := 1) (u := 2) (v := 10) rfl (up_eq (t := 0) (u := 1) (v := 11) rfl z0))))⟩
    · rw [e]
      simp (config := { decide := true }) only [fX1_sizeAsked, fX1_markAsked, fX1_sizeOfBuyers, fX1_sizeLent, fX1_markAskedOfBuyers, fX1_markOfBuyers, fX1_markLent, fX1_sizeOfGoats, fX1_sizeAskedOfGoats, fX1_markOfGoats, bd1_some, a_bd2, a_bd3, show fX4_isA 1 4 = some 0 from rfl, bX 0 1 (by decide) rfl, bX 1 2 (by decide) rfl, bX 2 3 (by decide) rfl, bX 3 4 (by decide) rfl, bX 4 5 (by decide) rfl, bX 5 6 (by decide) rfl, if_true, if_false]
    · simp (config := { decide := true }) only [fX9_sizeOf, fX9_sizeOf_J32, fX9_plainSize, fX9_markOf, fX9_markOf_J56, fX9_goatSize, fX9_goatSize_J29, fX9_goatSize_J18, e_of0 w j hj, e_of1 w j hj, e_of2 w j hj, e, bd1_some, a_bd2, a_bd3, bM 0 1 (by decide) rfl, bM 1 2 (by decide) rfl, bM 2 3 (by decide) rfl, bM 3 4 (by decide) rfl, bM 4 5 (by decide) rfl, bM 5 6 (by decide) rfl, if_true, if_false]
  · refine ⟨-(w (37 + 3 * j) + 2 * (nI j + w (38 + 3 * j))), (upd (upd (upd (upd (upd (upd b 0 12) 1 11) 2 10) 3 24) 4 21) 5 20), (upd (upd (upd (upd (upd (upd z 0 12) 1 11) 2 10) 3 24) 4 21) 5 20), 6, by decide, ?_, ?_, (up_eq (t := 5) (u := 6) (v := 20) rfl (up_eq (t := 4) (u := 5) (v := 21) rfl (up_eq (t := 3) (u := 4) (v := 24) rfl (up_eq (t := 2) (u := 3) (v := 10) rfl (up_eq (t := 1) (u := 2) (v := 11) rfl (up_eq (t := 0) (u := 1) (v := 12) rfl z0))))))⟩
    · rw [e]
      simp (config := { decide := true }) only [fX1_sizeAsked, fX1_markAsked, fX1_sizeOfBuyers, fX1_sizeLent, fX1_markAskedOfBuyers, fX1_markOfBuyers, fX1_markLent, fX1_sizeOfGoats, fX1_sizeAskedOfGoats, fX1_markOfGoats, bd1_some, a_bd2, a_bd3, show fX4_isA 2 4 = some 0 from rfl, bX 0 1 (by decide) rfl, bX 1 2 (by decide) rfl, bX 2 3 (by decide) rfl, bX 3 4 (by decide) rfl, bX 4 5 (by decide) rfl, bX 5 6 (by decide) rfl, if_true, if_false]
    · simp (config := { decide := true }) only [fX9_sizeOf, fX9_sizeOf_J32, fX9_plainSize, fX9_markOf, fX9_markOf_J56, fX9_goatSize, fX9_goatSize_J29, fX9_goatSize_J18, e_of0 w j hj, e_of1 w j hj, e_of2 w j hj, e, bd1_some, a_bd2, a_bd3, bM 0 1 (by decide) rfl, bM 1 2 (by decide) rfl, bM 2 3 (by decide) rfl, bM 3 4 (by decide) rfl, bM 4 5 (by decide) rfl, bM 5 6 (by decide) rfl, if_true, if_false]
  · refine ⟨w (37 + 3 * j) + (nI j + w (38 + 3 * j) - 1000), (upd (upd (upd (upd (upd b 0 11) 1 10) 2 22) 3 21) 4 20), (upd (upd (upd (upd (upd z 0 11) 1 10) 2 22) 3 21) 4 20), 5, by decide, ?_, ?_, (up_eq (t := 4) (u := 5) (v := 20) rfl (up_eq (t := 3) (u := 4) (v := 21) rfl (up_eq (t := 2) (u := 3) (v := 22) rfl (up_eq (t := 1) (u := 2) (v := 10) rfl (up_eq (t := 0) (u := 1) (v := 11) rfl z0)))))⟩
    · rw [e]
      simp (config := { decide := true }) only [fX1_sizeAsked, fX1_markAsked, fX1_sizeOfBuyers, fX1_sizeLent, fX1_markAskedOfBuyers, fX1_markOfBuyers, fX1_markLent, fX1_sizeOfGoats, fX1_sizeAskedOfGoats, fX1_markOfGoats, bd1_some, a_bd2, a_bd3, show fX4_isA 3 4 = some 0 from rfl, bX 0 1 (by decide) rfl, bX 1 2 (by decide) rfl, bX 2 3 (by decide) rfl, bX 3 4 (by decide) rfl, bX 4 5 (by decide) rfl, bX 5 6 (by decide) rfl, if_true, if_false]
    · simp (config := { decide := true }) only [fX9_sizeOf, fX9_sizeOf_J32, fX9_plainSize, fX9_markOf, fX9_markOf_J56, fX9_goatSize, fX9_goatSize_J29, fX9_goatSize_J18, e_of0 w j hj, e_of1 w j hj, e_of2 w j hj, e, bd1_some, a_bd2, a_bd3, bM 0 1 (by decide) rfl, bM 1 2 (by decide) rfl, bM 2 3 (by decide) rfl, bM 3 4 (by decide) rfl, bM 4 5 (by decide) rfl, bM 5 6 (by decide) rfl, if_true, if_false]
  · refine ⟨w (37 + 3 * j) - 100, (upd (upd b 0 13) 1 10), (upd (upd z 0 13) 1 10), 2, by decide, ?_, ?_, (up_eq (t := 1) (u := 2) (v := 10) rfl (up_eq (t := 0) (u := 1) (v := 13) rfl z0))⟩
    · rw [e]
      simp (config := { decide := true }) only [fX1_sizeAsked, fX1_markAsked, fX1_sizeOfBuyers, fX1_sizeLent, fX1_markAskedOfBuyers, fX1_markOfBuyers, fX1_markLent, fX1_sizeOfGoats, fX1_sizeAskedOfGoats, fX1_markOfGoats, bd1_some, a_bd2, a_bd3, show fX4_isA 4 4 = some 1 from rfl, bX 0 1 (by decide) rfl, bX 1 2 (by decide) rfl, bX 2 3 (by decide) rfl, bX 3 4 (by decide) rfl, bX 4 5 (by decide) rfl, bX 5 6 (by decide) rfl, if_true, if_false]
    · simp (config := { decide := true }) only [fX9_sizeOf, fX9_sizeOf_J32, fX9_plainSize, fX9_markOf, fX9_markOf_J56, fX9_goatSize, fX9_goatSize_J29, fX9_goatSize_J18, e_of0 w j hj, e_of1 w j hj, e_of2 w j hj, e, bd1_some, a_bd2, a_bd3, bM 0 1 (by decide) rfl, bM 1 2 (by decide) rfl, bM 2 3 (by decide) rfl, bM 3 4 (by decide) rfl, bM 4 5 (by decide) rfl, bM 5 6 (by decide) rfl, if_true, if_false]
  · refine ⟨2 * (w (37 + 3 * j) - 100), (upd (upd (upd b 0 14) 1 13) 2 10), (upd (upd (upd z 0 14) 1 13) 2 10), 3, by decide, ?_, ?_, (up_eq (t := 2) (u := 3) (v := 10) rfl (up_eq (t := 1) (u := 2) (v := 13) rfl (up_eq (t := 0) (u := 1) (v := 14) rfl z0)))⟩
    · rw [e]
      simp (config := { decide := true }) only [fX1_sizeAsked, fX1_markAsked, fX1_sizeOfBuyers, fX1_sizeLent, fX1_markAskedOfBuyers, fX1_markOfBuyers, fX1_markLent, fX1_sizeOfGoats, fX1_sizeAskedOfGoats, fX1_markOfGoats, bd1_some, a_bd2, a_bd3, show fX4_isA 5 4 = some 1 from rfl, bX 0 1 (by decide) rfl, bX 1 2 (by decide) rfl, bX 2 3 (by decide) rfl, bX 3 4 (by decide) rfl, bX 4 5 (by decide) rfl, bX 5 6 (by decide) rfl, if_true, if_false]
    · simp (config := { decide := true }) only [fX9_sizeOf, fX9_sizeOf_J32, fX9_plainSize, fX9_markOf, fX9_markOf_J56, fX9_goatSize, fX9_goatSize_J29, fX9_goatSize_J18, e_of0 w j hj, e_of1 w j hj, e_of2 w j hj, e, bd1_some, a_bd2, a_bd3, bM 0 1 (by decide) rfl, bM 1 2 (by decide) rfl, bM 2 3 (by decide) rfl, bM 3 4 (by decide) rfl, bM 4 5 (by decide) rfl, bM 5 6 (by decide) rfl, if_true, if_false]
theorem ask_m (w b z : Nat → Int32) {j : Nat} (hj : j < 5) (hk : 1 ≤ (w (36 + 3 * j)).toInt ∧ (w (36 + 3 * j)).toInt ≤ 5) : ∃ (r : Int32) (b' z' : Nat → Int32) (t : Nat), t ≤ 16 ∧ fX1_markAsked b (nI 0) (nI j) (w (36 + 3 * j)) (w (37 + 3 * j)) (w (38 + 3 * j)) = some (r, b', nI t) ∧ fX9_markOf w z (nI 0) (nI j) = some (r, z', nI t) ∧ ∀ i : Nat, i < t → b' i = z' i := by
  have z0 : ∀ i : Nat, i < 0 → b i = z i := fun i h => absurd h (Nat.not_lt_zero i)
  rcases kind_of hk with e | e | e | e | e
  · refine ⟨nI j + w (38 + 3 * j), (upd (upd b 0 21) 1 20), (upd (upd z 0 21) 1 20), 2, by decide, ?_, ?_, (up_eq (t := 1) (u := 2) (v := 20) rfl (up_eq (t := 0) (u := 1) (v := 21) rfl z0))⟩
    · rw [e]
      simp (config := { decide := true }) only [fX1_sizeAsked, fX1_markAsked, fX1_sizeOfBuyers, fX1_sizeLent, fX1_markAskedOfBuyers, fX1_markOfBuyers, fX1_markLent, fX1_sizeOfGoats, fX1_sizeAskedOfGoats, fX1_markOfGoats, bd1_some, a_bd2, a_bd3, show fX4_isA 1 4 = some 0 from rfl, bX 0 1 (by decide) rfl, bX 1 2 (by decide) rfl, bX 2 3 (by decide) rfl, bX 3 4 (by decide) rfl, bX 4 5 (by decide) rfl, bX 5 6 (by decide) rfl, if_true, if_false]
    · simp (config := { decide := true }) only [fX9_sizeOf, fX9_sizeOf_J32, fX9_plainSize, fX9_markOf, fX9_markOf_J56, fX9_goatSize, fX9_goatSize_J29, fX9_goatSize_J18, e_of0 w j hj, e_of1 w j hj, e_of2 w j hj, e, bd1_some, a_bd2, a_bd3, bM 0 1 (by decide) rfl, bM 1 2 (by decide) rfl, bM 2 3 (by decide) rfl, bM 3 4 (by decide) rfl, bM 4 5 (by decide) rfl, bM 5 6 (by decide) rfl, if_true, if_false]
  · refine ⟨2 * (nI j + w (38 + 3 * j)), (upd (upd (upd b 0 24) 1 21) 2 20), (upd (upd (upd z 0 24) 1 21) 2 20), 3, by decide, ?_, ?_, (up_eq (t := 2) (u := 3) (v := 20) rfl (up_eq (t := 1) (u := 2) (v := 21) rfl (up_eq (t := 0) (u := 1) (v := 24) rfl z0)))⟩
    · rw [e]
      simp (config := { decide := true }) only [fX1_sizeAsked, fX1_markAsked, fX1_sizeOfBuyers, fX1_sizeLent, fX1_markAskedOfBuyers, fX1_markOfBuyers, fX1_markLent, fX1_sizeOfGoats, fX1_sizeAskedOfGoats, fX1_markOfGoats, bd1_some, a_bd2, a_bd3, show fX4_isA 2 4 = some 0 from rfl, bX 0 1 (by decide) rfl, bX 1 2 (by decide) rfl, bX 2 3 (by decide) rfl, bX 3 4 (by decide) rfl, bX 4 5 (by decide) rfl, bX 5 6 (by decide) rfl, if_true, if_false]
    · simp (config := { decide := true }) only [fX9_sizeOf, fX9_sizeOf_J32, fX9_plainSize, fX9_markOf, fX9_markOf_J56, fX9_goatSize, fX9_goatSize_J29, fX9_goatSize_J18, e_of0 w j hj, e_of1 w j hj, e_of2 w j hj, e, bd1_some, a_bd2, a_bd3, bM 0 1 (by decide) rfl, bM 1 2 (by decide) rfl, bM 2 3 (by decide) rfl, bM 3 4 (by decide) rfl, bM 4 5 (by decide) rfl, bM 5 6 (by decide) rfl, if_true, if_false]
  · refine ⟨nI j + w (38 + 3 * j) - 1000, (upd (upd (upd b 0 22) 1 21) 2 20), (upd (upd (upd z 0 22) 1 21) 2 20), 3, by decide, ?_, ?_, (up_eq (t := 2) (u := 3) (v := 20) rfl (up_eq (t := 1) (u := 2) (v := 21) rfl (up_eq (t := 0) (u := 1) (v := 22) rfl z0)))⟩
    · rw [e]
      simp (config := { decide := true }) only [fX1_sizeAsked, fX1_markAsked, fX1_sizeOfBuyers, fX1_sizeLent, fX1_markAskedOfBuyers, fX1_markOfBuyers, fX1_markLent, fX1_sizeOfGoats, fX1_sizeAskedOfGoats, fX1_markOfGoats, bd1_some, a_bd2, a_bd3, show fX4_isA 3 4 = some 0 from rfl, bX 0 1 (by decide) rfl, bX 1 2 (by decide) rfl, bX 2 3 (by decide) rfl, bX 3 4 (by decide) rfl, bX 4 5 (by decide) rfl, bX 5 6 (by decide) rfl, if_true, if_false]
    · simp (config := { decide := true }) only [fX9_sizeOf, fX9_sizeOf_J32, fX9_plainSize, fX9_markOf, fX9_markOf_J56, fX9_goatSize, fX9_goatSize_J29, fX9_goatSize_J18, e_of0 w j hj, e_of1 w j hj, e_of2 w j hj, e, bd1_some, a_bd2, a_bd3, bM 0 1 (by decide) rfl, bM 1 2 (by decide) rfl, bM 2 3 (by decide) rfl, bM 3 4 (by decide) rfl, bM 4 5 (by decide) rfl, bM 5 6 (by decide) rfl, if_true, if_false]
  · refine ⟨nI j - (w (37 + 3 * j) - 100), (upd (upd (upd (upd b 0 23) 1 20) 2 13) 3 10), (upd (upd (upd (upd z 0 23) 1 20) 2 13) 3 10), 4, by decide, ?_, ?_, (up_eq (t := 3) (u := 4) (v := 10) rfl (up_eq (t := 2) (u := 3) (v := 13) rfl (up_eq (t := 1) (u := 2) (v := 20) rfl (up_eq (t := 0) (u := 1) (v := 23) rfl z0))))⟩
    · rw [e]
      simp (config := { decide := true }) only [fX1_sizeAsked, fX1_markAsked, fX1_sizeOfBuyers, fX1_sizeLent, fX1_markAskedOfBuyers, fX1_markOfBuyers, fX1_markLent, fX1_sizeOfGoats, fX1_sizeAskedOfGoats, fX1_markOfGoats, bd1_some, a_bd2, a_bd3, show fX4_isA 4 4 = some 1 from rfl, bX 0 1 (by decide) rfl, bX 1 2 (by decide) rfl, bX 2 3 (by decide) rfl, bX 3 4 (by decide) rfl, bX 4 5 (by decide) rfl, bX 5 6 (by decide) rfl, if_true, if_false]
    · simp (config := { decide := true }) only [fX9_sizeOf, fX9_sizeOf_J32, fX9_plainSize, fX9_markOf, fX9_markOf_J56, fX9_goatSize, fX9_goatSize_J29, fX9_goatSize_J18, e_of0 w j hj, e_of1 w j hj, e_of2 w j hj, e, bd1_some, a_bd2, a_bd3, bM 0 1 (by decide) rfl, bM 1 2 (by decide) rfl, bM 2 3 (by decide) rfl, bM 3 4 (by decide) rfl, bM 4 5 (by decide) rfl, bM 5 6 (by decide) rfl, if_true, if_false]
  · refine ⟨nI j - 2 * (w (37 + 3 * j) - 100), (upd (upd (upd (upd (upd b 0 23) 1 20) 2 14) 3 13) 4 10), (upd (upd (upd (upd (upd z 0 23) 1 20) 2 14) 3 13) 4 10), 5, by decide, ?_, ?_, (up_eq (t := 4) (u := 5) (v := 10) rfl (up_eq (t := 3) (u := 4) (v := 13) rfl (up_eq (t := 2) (u := 3) (v := 14) rfl (up_eq (t := 1) (u := 2) (v := 20) rfl (up_eq (t := 0) (u := 1) (v := 23) rfl z0)))))⟩
    · rw [e]
      simp (config := { decide := true }) only [fX1_sizeAsked, fX1_markAsked, fX1_sizeOfBuyers, fX1_sizeLent, fX1_markAskedOfBuyers, fX1_markOfBuyers, fX1_markLent, fX1_sizeOfGoats, fX1_sizeAskedOfGoats, fX1_markOfGoats, bd1_some, a_bd2, a_bd3, show fX4_isA 5 4 = some 1 from rfl, bX 0 1 (by decide) rfl, bX 1 2 (by decide) rfl, bX 2 3 (by decide) rfl, bX 3 4 (by decide) rfl, bX 4 5 (by decide) rfl, bX 5 6 (by decide) rfl, if_true, if_false]
    · simp (config := { decide := true }) only [fX9_sizeOf, fX9_sizeOf_J32, fX9_plainSize, fX9_markOf, fX9_markOf_J56, fX9_goatSize, fX9_goatSize_J29, fX9_goatSize_J18, e_of0 w j hj, e_of1 w j hj, e_of2 w j hj, e, bd1_some, a_bd2, a_bd3, bM 0 1 (by decide) rfl, bM 1 2 (by decide) rfl, bM 2 3 (by decide) rfl, bM 3 4 (by decide) rfl, bM 4 5 (by decide) rfl, bM 5 6 (by decide) rfl, if_true, if_false]

