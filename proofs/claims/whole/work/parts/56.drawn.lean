/-! hours by draws -/
theorem dr1 {x : Nat} (hx : x < 2147483647) : lN x * 16807 - lN x * 16807 / 2147483647 * 2147483647 = lN (x * 16807 % 2147483647) := by
  rw [show (16807 : Int64) = lN 16807 from rfl, show (2147483647 : Int64) = lN 2147483647 from rfl, lN_mul, pk_lRem (by omega) (by decide) (by decide)]
theorem dr2 {y b : Nat} (hy : y < 2147483647) (hb : 0 < b) (hb5 : b ≤ 5) : (lN y - lN y / (nI b).toInt64 * (nI b).toInt64).toInt32 = nI (y % b) := by
  rw [nI_l (by omega), pk_lRem (by omega) hb (by omega), lN_i]
theorem dr3 {y : Nat} (hy : y < 2147483647) : (lN y - lN y / 15 * 15).toInt32 = nI (y % 15) := by
  rw [show (15 : Int64) = lN 15 from rfl, pk_lRem (by omega) (by decide) (by decide), lN_i]
theorem pass_both {told low high price hour bidders : Int32} {heights holders kinds purses homes w : Nat → Int32} {B : Nat} (hL : RIsle told low high price hour bidders heights holders kinds purses homes w) (hO : OkH B w) (hB : B < 2 ^ 29) :
    ∃ hr hd, fX3_passHour low high hour heights holders kinds = some (hr, hd) ∧ fX9_hour w = some (sHour w) ∧ RIsle told low high price hr bidders heights hd kinds purses homes (sHour w) ∧ OkH ((B + 1 : Nat) : Int) (sHour w) := by
  obtain ⟨e0, e1, e2, e3, e5, e4, hh, ho, hb⟩ := id hL
  obtain ⟨hd, p1, p2⟩ := passHour_X hO hh ho (fun b h => (hb b h).1)
  refine ⟨w 5 + 1, hd, by rw [e1, e2, e5]; exact p1, hour_M hO hB, ?_, okH_hour hO hB⟩
  refine ⟨?_, ?_, ?_, ?_, (sHour_5 w).symm, ?_, fun c hc => ?_, p2, fun b h => ?_⟩
  · rw [sHour_o w (by decide) (by decide)]; exact e0
  · rw [sHour_o w (by decide) (by decide)]; exact e1
  · rw [sHour_o w (by decide) (by decide)]; exact e2
  · rw [sHour_o w (by decide) (by decide)]; exact e3
  · rw [sHour_o w (by decide) (by decide)]; exact e4
  · rw [sHour_o w (by omega) (by omega)]; exact hh c hc
  · rw [sHour_o w (by decide) (by decide)] at h
    rw [sHour_o w (by omega) (by omega), sHour_o w (by omega) (by omega), sHour_o w (by omega) (by omega)]; exact hb b h
theorem drawn_both {told low high price : Int32} {heights kinds homes : Nat → Int32} {N b4 : Nat} (hN : N ≤ 60) (h1 : 0 < b4) (h5 : b4 ≤ 5) (k : (Nat → Int32) → Option (Int32 × Int32 × (Nat → Int32))) : ∀ (i q m m' x : Nat) (hour : Int32) (holders purses w : Nat → Int32) (B : Nat), q + i = N → i < m → i < m' → B + i ≤ 2000 → x < 2147483647 → RIsle told low high price hour (nI b4) heights holders kinds purses homes w → OkH B w →
    ∃ hr hd ps w', fX3_passDrawnHours_L6 low high price (nI b4) heights kinds (nI N) m (lN x) (nI q) hour holders purses = some (hr, hd, ps) ∧ fX9_drawn_L63 (nI N) k m' (lN x) (nI q) w = k w' ∧ RIsle told low high price hr (nI b4) heights hd kinds ps homes w' ∧ OkH (2000 : Nat) w' := by
  intro i
  induction i with
  | zero =>
    intro q m m' x hour holders purses w B hq hm hm' hB hx hL hO
    obtain ⟨m, rfl⟩ : ∃ z, m = z + 1 := ⟨m - 1, by omega⟩
    obtain ⟨m', rfl⟩ : ∃ z, m' = z + 1 := ⟨m' - 1, by omega⟩
    rw [fX3_passDrawnHours_L6.eq_2, fX9_drawn_L63.eq_2, if_pos (nI_le (show N ≤ q by omega) (by omega)), if_pos (nI_le (show N ≤ q by omega) (by omega))]
    exact ⟨_, _, _, _, rfl, rfl, hL, okH_mono (by omega) hO⟩
  | succ i ih =>
    intro q m m' x hour holders purses w B hq hm hm' hB hx hL hO
    obtain ⟨m, rfl⟩ : ∃ z, m = z + 1 := ⟨m - 1, by omega⟩
    obtain ⟨m', rfl⟩ : ∃ z, m' = z + 1 := ⟨m' - 1, by omega⟩
    obtain ⟨e0, e1, e2, e3, e5, e4, hh, ho, hb⟩ := id hL
    have hne : ¬ (nI b4).toInt64 = 0 := by
      rw [nI_l (by omega), show (0 : Int64) = lN 0 from rfl, lN_eq (by omega) (by decide)]
      omega
    have hw4 : (w 4).toInt = (b4 : Int) := by rw [← e4, nI_toInt (by omega)]
    rw [fX3_passDrawnHours_L6.eq_2, fX9_drawn_L63.eq_2, if_neg (nI_ge (show q < N by omega) (by omega)), if_neg (nI_ge (show q < N by omega) (by omega)), if_neg (nI_nle h1 (by omega)), dr1 hx, show (4 : Int32).toNatClampNeg = 4 from rfl, ← e4, chk_t hne, chk_t hne]
    have hy : x * 16807 % 2147483647 < 2147483647 := Nat.mod_lt _ (by decide)
    generalize x * 16807 % 2147483647 = y at hy ⊢
    have hjb : y % b4 < b4 := Nat.mod_lt _ h1
    have hc : y % 15 < 15 := Nat.mod_lt _ (by decide)
    rw [dr2 hy h1 h5, dr3 hy, nI_1]
    generalize y % b4 = j at hjb ⊢
    generalize y % 15 = c at hc ⊢
    have hj : j < 5 := by omega
    have hj4 : (j : Int) < (w 4).toInt := by omega
    have hk := (hO.2.2.2.2.2.2.2 j hj4).1
    have hp := (hO.2.2.2.2.2.2.2 j hj4).2.1
    have hcan : fX3_canHave low high hour heights kinds (nI j) (nI c) = some (bI (sHave w (w (36 + 3 * j)) (w 5) c = true)) := by
      rw [e1, e2, e5, have_X w heights kinds (w 5) hj hc (hh c hc), (hb j hj4).1, add0]
    have hcost : fX3_costTo price heights kinds (nI j) (nI c) = some (sCost w (w (36 + 3 * j)) c) := by
      rw [e3]; exact costTo_X w heights kinds hj hc (hh c hc) (hb j hj4).1 hk
    have heq : ¬ holders c = -1 ↔ ¬ w (21 + c) = 0 := by rw [ho c hc, sub1_eq]; exact Iff.rfl
    obtain ⟨hr, hd, p1, p2, p3, p4⟩ := pass_both hL hO (by omega)
    have go : ∃ hr' hd' ps' w', fX3_passDrawnHours_L6 low high price (nI b4) heights kinds (nI N) m (lN y) (nI (q + 1)) hr hd purses = some (hr', hd', ps') ∧ fX9_drawn_L63 (nI N) k m' (lN y) (nI (q + 1)) (sHour w) = k w' ∧ RIsle told low high price hr' (nI b4) heights hd' kinds ps' homes w' ∧ OkH (2000 : Nat) w' := ih (q + 1) m m' y hr hd purses (sHour w) (B + 1) (by omega) (by omega) (by omega) (by omega) hy p3 p4
    rw [held_id _ hc, mayBid_M w hj hc, hcan, hcost, e_of1 w j hj, e_of0 w j hj]
    simp only [bd1_some, if_bI, cost_M w _ hc, chk_nI hj (show 5 < 2 ^ 31 by decide), chk_nI2 hj (show 5 < 2 ^ 31 by decide), nI_clamp (show j < 2 ^ 31 by omega)]
    by_cases h0 : w (21 + c) = 0
    · rw [if_neg (fun z => heq.mp z h0)]
      by_cases hs : sHave w (w (36 + 3 * j)) (w 5) c = true
      · rw [if_pos hs, if_pos (show w (21 + c) = 0 ∧ sHave w (w (36 + 3 * j)) (w 5) c = true from ⟨h0, hs⟩), (hb j hj4).2.1]
        obtain ⟨p, hp99, ep⟩ := nat_of (n := 99) hp.1 (by omega) (by decide)
        obtain ⟨z, hz, ez⟩ := cost_nat hO (w (36 + 3 * j)) hc
        by_cases hle : w (37 + 3 * j) < sCost w (w (36 + 3 * j)) c
        · rw [if_pos hle, if_pos hle, p1, p2]
          exact go
        · have hzp : z ≤ p := by
            rw [ez, ep, nI_ltI (by omega) (by omega)] at hle
            omega
          obtain ⟨s1, s2⟩ := sold hL hO hj hj4 hc ep hp99 ez hzp
          have hsell : fX3_sell price heights holders kinds purses (nI j) (nI c) = some (upd holders c (nI j), upd purses j (purses j - sCost w (w (36 + 3 * j)) c)) := by rw [e3]; exact sell_X w heights holders kinds purses hj hc (hh c hc) (hb j hj4).1 hk
          obtain ⟨hr2, hd2, q1, q2, q3, q4⟩ := pass_both s1 s2 (by omega)
          rw [if_neg hle, if_neg hle, hsell, buys_M w hj hc, bd1_some, a_bd2, q1, q2]
          exact ih (q + 1) m m' y hr2 hd2 _ _ (B + 1) (by omega) (by omega) (by omega) (by omega) hy q3 q4
      · rw [if_neg hs, if_neg (fun z => hs z.2), p1, p2]
        exact go
    · rw [if_pos (heq.mpr h0), if_neg (fun z => h0 z.1), p1, p2]
      exact go
theorem sum_both {purses w : Nat → Int32} {b4 : Nat} (h5 : b4 ≤ 5) (e4 : w 4 = nI b4) (hp : ∀ b : Nat, b < b4 → purses b = w (37 + 3 * b)) (k : Int32 → Option (Int32 × Int32 × (Nat → Int32))) : ∀ (i q m m' : Nat) (s : Int32), q + i = b4 → i < m → i < m' →
    ∃ r, fX3_allPurses_L4 (nI b4) purses m s (nI q) = some r ∧ fX9_drawn_L179 w k m' s (nI q) = k r
  | i, q, m, m', s, hq, hm, hm' => by
    obtain ⟨m, rfl⟩ : ∃ z, m = z + 1 := ⟨m - 1, by omega⟩
    obtain ⟨m', rfl⟩ : ∃ z, m' = z + 1 := ⟨m' - 1, by omega⟩
    rw [fX3_allPurses_L4.eq_2, fX9_drawn_L179.eq_2, show (4 : Int32).toNatClampNeg = 4 from rfl, e4]
    match i, hq, hm, hm' with
    | 0, hq, hm, hm' =>
      rw [if_pos (nI_le (show b4 ≤ q by omega) (by omega)), if_pos (nI_le (show b4 ≤ q by omega) (by omega))]
      exact ⟨_, rfl, rfl⟩
    | i + 1, hq, hm, hm' =>
      rw [if_neg (nI_ge (show q < b4 by omega) (by omega)), if_neg (nI_ge (show q < b4 by omega) (by omega)), chk_t (nI_in (show q < 5 by omega) (by decide)), nI_clamp (by omega), e_of1 w q (by omega), bd1_some, hp q (by omega), nI_1]
      exact sum_both h5 e4 hp k i (q + 1) m m' _ (by omega) (by omega) (by omega)
theorem drw_chk {α : Type} (v1 v2 : Int32) (A B : α) : (if v1 < 0 then A else if 60 < v1 then A else if v2 < 1 then A else if 999999 < v2 then A else B) = if 0 ≤ v1.toInt ∧ v1.toInt ≤ 60 then (if 1 ≤ v2.toInt ∧ v2.toInt ≤ 999999 then B else A) else A := by
  have e2 : 60 < v1 ↔ 60 < v1.toInt := by rw [Int32.lt_iff_toInt_lt]; exact Iff.rfl
  have e3 : v2 < 1 ↔ v2.toInt < 1 := by rw [Int32.lt_iff_toInt_lt]; exact Iff.rfl
  have e4 : 999999 < v2 ↔ 999999 < v2.toInt := by rw [Int32.lt_iff_toInt_lt]; exact Iff.rfl
  by_cases h1 : v1 < 0
  · rw [if_pos h1, if_neg (fun q => by rw [lt0_iff] at h1; omega)]
  rw [if_neg h1]
  by_cases h2 : 60 < v1
  · rw [if_pos h2, if_neg (fun q => by rw [e2] at h2; omega)]
  rw [if_neg h2, if_pos (show 0 ≤ v1.toInt ∧ v1.toInt ≤ 60 by rw [lt0_iff] at h1; rw [e2] at h2; omega)]
  by_cases h3 : v2 < 1
  · rw [if_pos h3, if_neg (fun q => by rw [e3] at h3; omega)]
  rw [if_neg h3]
  by_cases h4 : 999999 < v2
  · rw [if_pos h4, if_neg (fun q => by rw [e4] at h4; omega)]
  · rw [if_neg h4, if_pos (show 1 ≤ v2.toInt ∧ v2.toInt ≤ 999999 by rw [e3] at h3; rw [e4] at h4; omega)]
theorem pu_drawn {s_finding : Int32} {rows_lanes : (Nat → Int32)} {rows_lengths : (Nat → Int32)} {rows_items : (Nat → Int32)} {tape_bytes : (Nat → Int32)} {tape_length : Int32} {tape_faultNumber : Int32} {land_told : Int32} {land_low : Int32} {land_high : Int32} {land_price : Int32} {land_hour : Int32} {land_bidders : Int32} {land_heights : (Nat → Int32)} {land_holders : (Nat → Int32)} {land_kinds : (Nat → Int32)} {land_purses : (Nat → Int32)} {land_homes : (Nat → Int32)} {spare_told : Int32} {spare_low : Int32} {spare_high : Int32} {spare_price : Int32} {spare_hour : Int32} {spare_bidders : Int32} {spare_heights : (Nat → Int32)} {spare_holders : (Nat → Int32)} {spare_kinds : (Nat → Int32)} {spare_purses : (Nat → Int32)} {spare_homes : (Nat → Int32)} {firstImage_told : Int32} {firstImage_low : Int32} {firstImage_high : Int32} {firstImage_price : Int32} {firstImage_hour : Int32} {firstImage_bidders : Int32} {firstImage_heights : (Nat → Int32)} {firstImage_holders : (Nat → Int32)} {firstImage_kinds : (Nat → Int32)} {firstImage_purses : (Nat → Int32)} {firstImage_homes : (Nat → Int32)} {secondImage_told : Int32} {secondImage_low : Int32} {secondImage_high : Int32} {secondImage_price : Int32} {secondImage_hour : Int32} {secondImage_bidders : Int32} {secondImage_heights : (Nat → Int32)} {secondImage_holders : (Nat → Int32)} {secondImage_kinds : (Nat → Int32)} {secondImage_purses : (Nat → Int32)} {secondImage_homes : (Nat → Int32)} {acts_saved : (Nat → Int32)} {acts_next : Int32} {acts_kept : Int32} {asks_bodies : (Nat → Int32)} {asks_traced : Int32} {m_status : Int32} {m_lane : (Nat → Int32)} {m_many : (Nat → Int32)} {m_item : (Nat → Int32)} {m_isle : (Nat → Int32)} {m_then : (Nat → Int32)} {m_was : (Nat → Int32)} {m_acts : Int32} {m_tape : (Nat → Int32)} {m_taped : Int32} {m_latest : Int32} {m_isKept : (Nat → Int32)} {m_kept : (Nat → Int32)} {m_trace : (Nat → Int32)} {m_traced : Int32} (hI : LInv s_finding rows_lanes rows_lengths rows_items tape_bytes tape_length tape_faultNumber land_told land_low land_high land_price land_hour land_bidders land_heights land_holders land_kinds land_purses land_homes firstImage_told firstImage_low firstImage_high firstImage_price firstImage_hour firstImage_bidders firstImage_heights firstImage_holders firstImage_kinds firstImage_purses firstImage_homes secondImage_told secondImage_low secondImage_high secondImage_price secondImage_hour secondImage_bidders secondImage_heights secondImage_holders secondImage_kinds secondImage_purses secondImage_homes acts_saved acts_next acts_kept asks_bodies asks_traced m_status m_lane m_many m_item m_isle m_was m_acts m_tape m_taped m_latest m_isKept m_kept m_trace m_traced) (v1 : Int32) (v2 : Int32) (v3 : Int32) : ∃ (r : Int32) (spare_told' : Int32) (spare_low' : Int32) (spare_high' : Int32) (spare_price' : Int32) (spare_hour' : Int32) (spare_bidders' : Int32) (spare_heights' : (Nat → Int32)) (spare_holders' : (Nat → Int32)) (spare_kinds' : (Nat → Int32)) (spare_purses' : (Nat → Int32)) (spare_homes' : (Nat → Int32)) (m_thrown' : Int32) (m_then' : (Nat → Int32)), fX8_drawn land_told land_low land_high land_price land_hour land_bidders land_heights land_holders land_kinds land_purses land_homes spare_told spare_low spare_high spare_price spare_hour spare_bidders spare_heights spare_holders spare_kinds spare_purses spare_homes v1 v2 v3 = some (r, spare_told', spare_low', spare_high', spare_price', spare_hour', spare_bidders', spare_heights', spare_holders', spare_kinds', spare_purses', spare_homes') ∧ fX9_drawn m_isle m_then v1 v2 v3 = some (r, m_thrown', m_then') ∧ LInv s_finding rows_lanes rows_lengths rows_items tape_bytes tape_length tape_faultNumber land_told land_low land_high land_price land_hour land_bidders land_heights land_holders land_kinds land_purses land_homes firstImage_told firstImage_low firstImage_high firstImage_price firstImage_hour firstImage_bidders firstImage_heights firstImage_holders firstImage_kinds firstImage_purses firstImage_homes secondImage_told secondImage_low secondImage_high secondImage_price secondImage_hour secondImage_bidders secondImage_heights secondImage_holders secondImage_kinds secondImage_purses secondImage_homes acts_saved acts_next acts_kept asks_bodies asks_traced m_status m_lane m_many m_item m_isle m_was m_acts m_tape m_taped m_latest m_isKept m_kept m_trace m_traced := by
  obtain ⟨hst, hR, hT, hL, hO, hrest⟩ := id hI
  suffices H : ∃ (r : Int32) (a0 a1 a2 a3 a4 a5 : Int32) (a6 a7 a8 a9 a10 : Nat → Int32) (th : Int32) (t : Nat → Int32), fX8_drawn land_told land_low land_high land_price land_hour land_bidders land_heights land_holders land_kinds land_purses land_homes spare_told spare_low spare_high spare_price spare_hour spare_bidders spare_heights spare_holders spare_kinds spare_purses spare_homes v1 v2 v3 = some (r, a0, a1, a2, a3, a4, a5, a6, a7, a8, a9, a10) ∧ fX9_drawn m_isle m_then v1 v2 v3 = some (r, th, t) by
    obtain ⟨r, a0, a1, a2, a3, a4, a5, a6, a7, a8, a9, a10, th, t, b1, b2⟩ := H
    exact ⟨r, a0, a1, a2, a3, a4, a5, a6, a7, a8, a9, a10, th, t, b1, b2, hI⟩
  unfold fX8_drawn fX9_drawn
  rw [show fX3_isTold land_told = some (bI (m_isle 0 = 1)) from by rw [hL.1]; exact told_X hO, there_M, bd1_some, bd1_some, if_bI, if_bI, drw_chk, in_lit (B := 0) (C := 60) v1 0 60 rfl rfl, bd1_some, if_bI, in_lit (B := 1) (C := 999999) v2 1 999999 rfl rfl, bd1_some, if_bI, e_choice, bd1_some, if_bI, in_n (C := 1) v3 1 (by decide) rfl, bd1_some, if_bI]
  by_cases hw : m_isle 0 = 1
  rotate_left 1
  · rw [if_neg hw, if_neg hw]
    exact ⟨_, _, _, _, _, _, _, _, _, _, _, _, _, _, rfl, rfl⟩
  rw [if_pos hw, if_pos hw]
  by_cases h2 : 0 ≤ v1.toInt ∧ v1.toInt ≤ 60
  rotate_left 1
  · rw [if_neg h2, if_neg (show ¬ ((0 : Int32).toInt ≤ v1.toInt ∧ v1.toInt ≤ (60 : Int32).toInt) from h2)]
    exact ⟨_, _, _, _, _, _, _, _, _, _, _, _, _, _, rfl, rfl⟩
  rw [if_pos h2, if_pos (show (0 : Int32).toInt ≤ v1.toInt ∧ v1.toInt ≤ (60 : Int32).toInt from h2)]
  by_cases h3 : 1 ≤ v2.toInt ∧ v2.toInt ≤ 999999
  rotate_left 1
  · rw [if_neg h3, if_neg (show ¬ ((1 : Int32).toInt ≤ v2.toInt ∧ v2.toInt ≤ (999999 : Int32).toInt) from h3)]
    exact ⟨_, _, _, _, _, _, _, _, _, _, _, _, _, _, rfl, rfl⟩
  rw [if_pos h3, if_pos (show (1 : Int32).toInt ≤ v2.toInt ∧ v2.toInt ≤ (999999 : Int32).toInt from h3)]
  by_cases h4 : rng ((1 : Nat) + 1) v3
  rotate_left 1
  · rw [if_neg h4, if_neg (show ¬ rng 2 v3 from h4)]
    exact ⟨_, _, _, _, _, _, _, _, _, _, _, _, _, _, rfl, rfl⟩
  rw [if_pos h4, if_pos (show rng 2 v3 from h4)]
  have hb0 : 0 < (m_isle 4).toInt := by
    rcases hO.1 with ⟨z, _⟩ | ⟨_, z⟩
    · rw [hw] at z; cases z
    · exact z
  obtain ⟨b4, hb5, eb⟩ := nat_of (x := m_isle 4) (n := 5) (by omega) hO.2.1.2 (by decide)
  have hb1 : 0 < b4 := by rw [eb, nI_toInt (by omega)] at hb0; omega
  obtain ⟨n, hn60, en⟩ := nat_of (x := v1) (n := 60) h2.1 h2.2 (by decide)
  obtain ⟨x, hx, ex⟩ := nat_of (x := v2) (n := 999999) (by omega) h3.2 (by decide)
  obtain ⟨H2, O2, K2, P2, M2, c1, c2, c3⟩ := become_X spare_heights spare_holders spare_kinds spare_purses spare_homes (told := land_told) (low := land_low) (high := land_high) (price := land_price) (hour := land_hour) (bidders := land_bidders) (heights := land_heights) (holders := land_holders) (kinds := land_kinds) (purses := land_purses) (homes := land_homes) (Or.inr (hL.1.trans hw))
  obtain ⟨t, t1, t2⟩ := layThen_M m_isle m_then
  have hL2 : RIsle land_told land_low land_high land_price land_hour land_bidders H2 O2 K2 P2 M2 t := risle_cg hO hL c2 c3 t2
  have ebid : land_bidders = nI b4 := hL.2.2.2.2.2.1.trans eb
  rw [c1, t1, bd1_some, en, ex, nI_l (by omega)]
  rw [ebid] at hL2
  obtain ⟨hr, hd, ps, w', d1, d2, d3, d4⟩ := drawn_both hn60 hb1 hb5 (fun s_then_e173 => (fX9_drawn_L179 s_then_e173 (fun v6_e211 => (if v3 = 0 then bd1 (fX9_heldOf s_then_e173) (fun r_25 => bd1 (fX9_bits r_25) (fun r_26 => some (r_26, 0, s_then_e173))) else some (v6_e211, 0, s_then_e173))) FU 0 0)) n 0 FU FU x land_hour O2 P2 t 999 (by omega) (fu_big (by omega)) (fu_big (by omega)) (by omega) (by omega) hL2 (okH_cg t2 hO)
  have e4' := d3.2.2.2.2.2.1
  obtain ⟨r, r1, r2⟩ := sum_both (purses := ps) (w := w') hb5 e4'.symm (fun b hb => (d3.2.2.2.2.2.2.2.2 b (by rw [← e4', nI_toInt (by omega)]; omega)).2.1) (fun v6_e211 => (if v3 = 0 then bd1 (fX9_heldOf w') (fun r_25 => bd1 (fX9_bits r_25) (fun r_26 => some (r_26, 0, w'))) else some (v6_e211, 0, w'))) b4 0 FU FU 0 (by omega) (fu_big (by omega)) (fu_big (by omega))
  have d1' : fX3_passDrawnHours land_low land_high land_price land_hour (nI b4) H2 O2 K2 P2 (nI n) (nI x) = some (hr, hd, ps) := by
    unfold fX3_passDrawnHours
    rw [nI_l (by omega)]
    exact d1
  have r1' : fX3_allPurses (nI b4) ps = some r := r1
  have hheld : orb (fun c => !decide (hd c = -1)) 15 = orb (fun c => !decide (w' (21 + c) ≤ 0)) 15 := held_eq d3.2.2.2.2.2.2.2.1 (fun c hc => (d4.2.2.2.2.2.2.1 c hc).1)
  have hM := d2.trans r2
  show ∃ (r : Int32) (a0 a1 a2 a3 a4 a5 : Int32) (a6 a7 a8 a9 a10 : Nat → Int32) (th : Int32) (t : Nat → Int32), bd3 (fX3_passDrawnHours land_low land_high land_price land_hour land_bidders H2 O2 K2 P2 (nI n) (nI x)) _ = _ ∧ _
  rw [ebid, d1', a_bd3]
  by_cases hz : v3 = 0
  · rw [if_pos hz] at hM
    rw [if_pos hz, held_X, hheld, bd1_some, count_X (s15_orb _), bd1_some]
    rw [heldOf_M, bd1_some, bits_M, bd1_some] at hM
    exact ⟨_, _, _, _, _, _, _, _, _, _, _, _, _, _, rfl, hM⟩
  · rw [if_neg hz] at hM
    rw [if_neg hz, r1', bd1_some]
    exact ⟨_, _, _, _, _, _, _, _, _, _, _, _, _, _, rfl, hM⟩

