/-! hours, bids, stones, gifts, undone; images -/
theorem okH_mono {B C : Int} {w : Nat → Int32} (h : B ≤ C) (hO : OkH B w) : OkH C w := by
  obtain ⟨a, b, c, d, e, f⟩ := hO
  exact ⟨a, b, c, d, ⟨e.1, Int.le_trans e.2 h⟩, f⟩
theorem okH_hold {B : Int} {w : Nat → Int32} (hO : OkH B w) {c x : Nat} (hc : c < 15) (hx : (x : Int) ≤ (w 4).toInt) : OkH B (upd w (21 + c) (nI x)) := by
  obtain ⟨a, b, c1, d, e, f, g, h⟩ := hO
  have b5 := b.2
  unfold OkH
  rw [pk_un (show 0 ≠ 21 + c by omega), pk_un (show 1 ≠ 21 + c by omega), pk_un (show 2 ≠ 21 + c by omega), pk_un (show 3 ≠ 21 + c by omega), pk_un (show 4 ≠ 21 + c by omega), pk_un (show 5 ≠ 21 + c by omega)]
  refine ⟨a, b, c1, d, e, fun q hq => ?_, fun q hq => ?_, fun q hq => ?_⟩
  · rw [pk_un (by omega)]; exact f q hq
  · by_cases z : q = c
    · rw [z, pk_us, nI_toInt (by omega)]; omega
    · rw [pk_un (by omega)]; exact g q hq
  · rw [pk_un (by omega), pk_un (by omega), pk_un (by omega)]; exact h q hq
theorem okH_height {B : Int} {w : Nat → Int32} (hO : OkH B w) {c x : Nat} (hc : c < 15) (hx : x ≤ 9) : OkH B (upd w (6 + c) (nI x)) := by
  obtain ⟨a, b, c1, d, e, f, g, h⟩ := hO
  unfold OkH
  rw [pk_un (show 0 ≠ 6 + c by omega), pk_un (show 1 ≠ 6 + c by omega), pk_un (show 2 ≠ 6 + c by omega), pk_un (show 3 ≠ 6 + c by omega), pk_un (show 4 ≠ 6 + c by omega), pk_un (show 5 ≠ 6 + c by omega)]
  refine ⟨a, b, c1, d, e, fun q hq => ?_, fun q hq => ?_, fun q hq => ?_⟩
  · by_cases z : q = c
    · rw [z, pk_us, nI_toInt (by omega)]; omega
    · rw [pk_un (by omega)]; exact f q hq
  · rw [pk_un (by omega)]; exact g q hq
  · rw [pk_un (by omega), pk_un (by omega), pk_un (by omega)]; exact h q hq
theorem okH_purse {B : Int} {w : Nat → Int32} (hO : OkH B w) {j x : Nat} (hx : x ≤ 99) : OkH B (upd w (37 + 3 * j) (nI x)) := by
  obtain ⟨a, b, c1, d, e, f, g, h⟩ := hO
  unfold OkH
  rw [pk_un (show 0 ≠ 37 + 3 * j by omega), pk_un (show 1 ≠ 37 + 3 * j by omega), pk_un (show 2 ≠ 37 + 3 * j by omega), pk_un (show 3 ≠ 37 + 3 * j by omega), pk_un (show 4 ≠ 37 + 3 * j by omega), pk_un (show 5 ≠ 37 + 3 * j by omega)]
  refine ⟨a, b, c1, d, e, fun q hq => ?_, fun q hq => ?_, fun q hq => ?_⟩
  · rw [pk_un (by omega)]; exact f q hq
  · rw [pk_un (by omega)]; exact g q hq
  · rw [pk_un (show 36 + 3 * q ≠ 37 + 3 * j by omega), pk_un (show 38 + 3 * q ≠ 37 + 3 * j by omega)]
    refine ⟨(h q hq).1, ?_, (h q hq).2.2⟩
    by_cases z : q = j
    · rw [z, pk_us, nI_toInt (by omega)]; omega
    · rw [pk_un (by omega)]; exact (h q hq).2.1
theorem cost_nat {B : Int} {w : Nat → Int32} (hO : OkH B w) (k : Int32) {c : Nat} (hc : c < 15) : ∃ x : Nat, x ≤ 82 ∧ sCost w k c = nI x := by
  obtain ⟨a, b, c1, ⟨d1, d2⟩, e, f, g⟩ := hO
  obtain ⟨p, hp, ep⟩ := nat_of (n := 9) d1 (by omega) (by decide)
  obtain ⟨f1, f2⟩ := f c hc
  obtain ⟨x, hx, ex⟩ := nat_of (n := 9) f1 (by omega) (by decide)
  have hm : p * x ≤ 9 * 9 := Nat.mul_le_mul hp hx
  unfold sCost
  rw [ep, ex, pk_mul, show (2 : Int32) = nI 2 from rfl, pk_div (by omega) (by decide) (by decide), nI_1]
  split
  · exact ⟨_, by omega, rfl⟩
  · split
    · exact ⟨_, by omega, rfl⟩
    · split
      · exact ⟨_, by omega, rfl⟩
      · split
        · exact ⟨_, by omega, rfl⟩
        · exact ⟨0, by omega, rfl⟩
theorem hours_both {told low high price bidders : Int32} {heights kinds purses homes : Nat → Int32} {N : Nat} (hN : N ≤ 24) : ∀ (j n k : Nat) (hour : Int32) (holders saved : Nat → Int32) (next kept : Int32) (w was : Nat → Int32) (acts : Int32) (B : Nat), k + j = N → j < n → B + j ≤ 999 → RIsle told low high price hour bidders heights holders kinds purses homes w → OkH B w → RActs saved next kept was acts w →
    ∃ r hr hd sv nx kp th w' was' ac, fX8_hours_L47 low high heights kinds purses (nI N) (fun a b c d e => bd1 (fX3_heldCells b) (fun r_10 => some (r_10, a, b, c, d, e))) n (nI k) hour holders saved next kept = some (r, hr, hd, sv, nx, kp) ∧ fX9_hours_L49 (nI N) (fun a b c => bd1 (fX9_heldOf a) (fun r_9 => some (r_9, 0, a, b, c))) n (nI k) w was acts = some (r, th, w', was', ac) ∧ RIsle told low high price hr bidders heights hd kinds purses homes w' ∧ OkI w' ∧ RActs sv nx kp was' ac w' := by
  intro j
  induction j with
  | zero =>
    intro n k hour holders saved next kept w was acts B hk hn hB hL hO hA
    obtain ⟨n, rfl⟩ : ∃ q, n = q + 1 := ⟨n - 1, by omega⟩
    have hkN : k = N := by omega
    subst hkN
    have hOI : OkI w := okH_mono (by omega) hO
    obtain ⟨e0, e1, e2, e3, e5, e4, hh, ho, hb⟩ := id hL
    rw [fX8_hours_L47.eq_2, fX9_hours_L49.eq_2, if_pos (nI_le (Nat.le_refl k) (by omega)), if_pos (nI_le (Nat.le_refl k) (by omega)), held_X, heldOf_M, held_eq ho (fun c hc => (hO.2.2.2.2.2.2.1 c hc).1), bd1_some, bd1_some]
    exact ⟨_, _, _, _, _, _, _, _, _, _, rfl, rfl, hL, hOI, hA⟩
  | succ j ih =>
    intro n k hour holders saved next kept w was acts B hk hn hB hL hO hA
    obtain ⟨n, rfl⟩ : ∃ q, n = q + 1 := ⟨n - 1, by omega⟩
    have hOI : OkI w := okH_mono (by omega) hO
    obtain ⟨e0, e1, e2, e3, e5, e4, hh, ho, hb⟩ := id hL
    obtain ⟨sv, nx, kp, ws, ac, q1, q2, q3⟩ := keep_both hA hOI e5 hh ho (fun b h => (hb b h).2.1)
    obtain ⟨hd, p1, p2⟩ := passHour_X hO hh ho (fun b h => (hb b h).1)
    rw [fX8_hours_L47.eq_2, fX9_hours_L49.eq_2, if_neg (nI_ge (show k < N by omega) (by omega)), if_neg (nI_ge (show k < N by omega) (by omega)), q1, q2]
    show ∃ r hr hd sv nx kp th w' was' ac, bd2 (fX3_passHour low high hour heights holders kinds) _ = _ ∧ bd1 (fX9_hour w) _ = _ ∧ _
    rw [e1, e2, e5, p1, hour_M hO (by omega), ← e1, ← e2, ← nI_succ]
    have hL2 : RIsle told low high price (w 5 + 1) bidders heights hd kinds purses homes (sHour w) := by
      refine ⟨?_, ?_, ?_, ?_, (sHour_5 w).symm, ?_, fun c hc => ?_, p2, fun b h => ?_⟩
      · rw [sHour_o w (by decide) (by decide)]; exact e0
      · rw [sHour_o w (by decide) (by decide)]; exact e1
      · rw [sHour_o w (by decide) (by decide)]; exact e2
      · rw [sHour_o w (by decide) (by decide)]; exact e3
      · rw [sHour_o w (by decide) (by decide)]; exact e4
      · rw [sHour_o w (by omega) (by omega)]; exact hh c hc
      · rw [sHour_o w (by decide) (by decide)] at h
        rw [sHour_o w (by omega) (by omega), sHour_o w (by omega) (by omega), sHour_o w (by omega) (by omega)]; exact hb b h
    exact ih n (k + 1) (w 5 + 1) hd sv nx kp (sHour w) ws ac (B + 1) (by omega) (by omega) (by omega) hL2 (okH_hour hO (by omega)) (q3 _ (rsame_hour w))
theorem pu_hours {s_finding : Int32} {rows_lanes : (Nat → Int32)} {rows_lengths : (Nat → Int32)} {rows_items : (Nat → Int32)} {tape_bytes : (Nat → Int32)} {tape_length : Int32} {tape_faultNumber : Int32} {land_told : Int32} {land_low : Int32} {land_high : Int32} {land_price : Int32} {land_hour : Int32} {land_bidders : Int32} {land_heights : (Nat → Int32)} {land_holders : (Nat → Int32)} {land_kinds : (Nat → Int32)} {land_purses : (Nat → Int32)} {land_homes : (Nat → Int32)} {firstImage_told : Int32} {firstImage_low : Int32} {firstImage_high : Int32} {firstImage_price : Int32} {firstImage_hour : Int32} {firstImage_bidders : Int32} {firstImage_heights : (Nat → Int32)} {firstImage_holders : (Nat → Int32)} {firstImage_kinds : (Nat → Int32)} {firstImage_purses : (Nat → Int32)} {firstImage_homes : (Nat → Int32)} {secondImage_told : Int32} {secondImage_low : Int32} {secondImage_high : Int32} {secondImage_price : Int32} {secondImage_hour : Int32} {secondImage_bidders : Int32} {secondImage_heights : (Nat → Int32)} {secondImage_holders : (Nat → Int32)} {secondImage_kinds : (Nat → Int32)} {secondImage_purses : (Nat → Int32)} {secondImage_homes : (Nat → Int32)} {acts_saved : (Nat → Int32)} {acts_next : Int32} {acts_kept : Int32} {asks_bodies : (Nat → Int32)} {asks_traced : Int32} {m_status : Int32} {m_lane : (Nat → Int32)} {m_many : (Nat → Int32)} {m_item : (Nat → Int32)} {m_isle : (Nat → Int32)} {m_was : (Nat → Int32)} {m_acts : Int32} {m_tape : (Nat → Int32)} {m_taped : Int32} {m_latest : Int32} {m_isKept : (Nat → Int32)} {m_kept : (Nat → Int32)} {m_trace : (Nat → Int32)} {m_traced : Int32} (hI : LInv s_finding rows_lanes rows_lengths rows_items tape_bytes tape_length tape_faultNumber land_told land_low land_high land_price land_hour land_bidders land_heights land_holders land_kinds land_purses land_homes firstImage_told firstImage_low firstImage_high firstImage_price firstImage_hour firstImage_bidders firstImage_heights firstImage_holders firstImage_kinds firstImage_purses firstImage_homes secondImage_told secondImage_low secondImage_high secondImage_price secondImage_hour secondImage_bidders secondImage_heights secondImage_holders secondImage_kinds secondImage_purses secondImage_homes acts_saved acts_next acts_kept asks_bodies asks_traced m_status m_lane m_many m_item m_isle m_was m_acts m_tape m_taped m_latest m_isKept m_kept m_trace m_traced) (v1 : Int32) : ∃ (r : Int32) (land_hour' : Int32) (land_holders' : (Nat → Int32)) (acts_saved' : (Nat → Int32)) (acts_next' : Int32) (acts_kept' : Int32) (m_thrown' : Int32) (m_isle' : (Nat → Int32)) (m_was' : (Nat → Int32)) (m_acts' : Int32), fX8_hours land_told land_low land_high land_hour land_heights land_holders land_kinds land_purses acts_saved acts_next acts_kept v1 = some (r, land_hour', land_holders', acts_saved', acts_next', acts_kept') ∧ fX9_hours m_isle m_was m_acts v1 = some (r, m_thrown', m_isle', m_was', m_acts') ∧ LInv s_finding rows_lanes rows_lengths rows_items tape_bytes tape_length tape_faultNumber land_told land_low land_high land_price land_hour' land_bidders land_heights land_holders' land_kinds land_purses land_homes firstImage_told firstImage_low firstImage_high firstImage_price firstImage_hour firstImage_bidders firstImage_heights firstImage_holders firstImage_kinds firstImage_purses firstImage_homes secondImage_told secondImage_low secondImage_high secondImage_price secondImage_hour secondImage_bidders secondImage_heights secondImage_holders secondImage_kinds secondImage_purses secondImage_homes acts_saved' acts_next' acts_kept' asks_bodies asks_traced m_status m_lane m_many m_item m_isle' m_was' m_acts' m_tape m_taped m_latest m_isKept m_kept m_trace m_traced := by
  obtain ⟨hst, hR, hT, hL, hO, hA, hrest⟩ := id hI
  suffices H : ∃ r hr hd sv nx kp th w' was' ac, fX8_hours land_told land_low land_high land_hour land_heights land_holders land_kinds land_purses acts_saved acts_next acts_kept v1 = some (r, hr, hd, sv, nx, kp) ∧ fX9_hours m_isle m_was m_acts v1 = some (r, th, w', was', ac) ∧ RIsle land_told land_low land_high land_price hr land_bidders land_heights hd land_kinds land_purses land_homes w' ∧ OkI w' ∧ RActs sv nx kp was' ac w' by
    obtain ⟨r, hr, hd, sv, nx, kp, th, w', was', ac, a, b, c, d, e⟩ := H
    exact ⟨r, hr, hd, sv, nx, kp, th, w', was', ac, a, b, hst, hR, hT, c, d, e, hrest⟩
  have stay : ∀ r : Int32, ∃ r' hr hd sv nx kp th w' was' ac, some (r, land_hour, land_holders, acts_saved, acts_next, acts_kept) = some (r', hr, hd, sv, nx, kp) ∧ some (r, (0 : Int32), m_isle, m_was, m_acts) = some (r', th, w', was', ac) ∧ RIsle land_told land_low land_high land_price hr land_bidders land_heights hd land_kinds land_purses land_homes w' ∧ OkI w' ∧ RActs sv nx kp was' ac w' := fun r => ⟨_, _, _, _, _, _, _, _, _, _, rfl, rfl, hL, hO, hA⟩
  have e0 := hL.1
  have e5 := hL.2.2.2.2.1
  unfold fX8_hours fX9_hours
  rw [show fX3_isTold land_told = some (bI (m_isle 0 = 1)) from by rw [e0]; exact told_X hO, there_M, in_lit (B := 1) (C := 24) v1 1 24 rfl rfl]
  simp only [bd1_some, if_bI]
  by_cases hw : m_isle 0 = 1
  · rw [if_pos hw, if_pos hw]
    by_cases hv : (1 : Int32).toInt ≤ v1.toInt ∧ v1.toInt ≤ (24 : Int32).toInt
    · have h1 : (1 : Int32).toInt = 1 := rfl
      have h24 : (24 : Int32).toInt = 24 := rfl
      rw [h1, h24] at hv
      obtain ⟨N, hN, eN⟩ := nat_of (n := 24) (x := v1) (by omega) (by omega) (by decide)
      have hN1 : 1 ≤ N := by have := hv.1; rw [eN, nI_toInt (by omega)] at this; omega
      obtain ⟨x, hx, ex⟩ := hour_nat (B := 999) hO (by decide)
      rw [h1, h24, if_pos hv, eN, if_neg (show ¬ nI N < 1 from nI_nlt hN1 (by omega)), if_pos (show nI N ≤ 24 from nI_le hN (by decide)), show fX3_hour land_hour = some (nI x) from by rw [e5, ex]; rfl, show (5 : Int32).toNatClampNeg = 5 from rfl, ex]
      simp only [bd1_some, nI_add]
      by_cases hf : x + N ≤ 999
      · rw [if_pos (show nI (x + N) ≤ 999 from nI_le hf (by decide)), if_pos (show nI (x + N) ≤ 999 from nI_le hf (by decide))]
        have hOx : OkH (x : Int) m_isle := by
          obtain ⟨a, b, c, d, e, f⟩ := id hO
          exact ⟨a, b, c, d, ⟨e.1, by rw [ex, nI_toInt (by omega)]; omega⟩, f⟩
        exact hours_both hN N FU 0 land_hour land_holders acts_saved acts_next acts_kept m_isle m_was m_acts x (by omega) (fu_big (by omega)) hf hL hOx hA
      · rw [if_neg (show ¬ nI (x + N) ≤ 999 from fun q => hf ((nI_leI (b := 999) (by omega) (by decide)).mp q)), if_neg (show ¬ nI (x + N) ≤ 999 from fun q => hf ((nI_leI (b := 999) (by omega) (by decide)).mp q))]
        exact stay _
    · rw [if_neg hv]
      have key : (if v1 < 1 then some (-1000001, land_hour, land_holders, acts_saved, acts_next, acts_kept) else if v1 ≤ 24 then (bd1 (fX3_hour land_hour) (fun r_5 => (if (r_5 + v1) ≤ 999 then (fX8_hours_L47 land_low land_high land_heights land_kinds land_purses v1 (fun land_hour_e76 land_holders_e76 acts_saved_e76 acts_next_e76 acts_kept_e76 => bd1 (fX3_heldCells land_holders_e76) (fun r_10 => some (r_10, land_hour_e76, land_holders_e76, acts_saved_e76, acts_next_e76, acts_kept_e76))) FU 0 land_hour land_holders acts_saved acts_next acts_kept) else some ((-1000003), land_hour, land_holders, acts_saved, acts_next, acts_kept)))) else some (-1000001, land_hour, land_holders, acts_saved, acts_next, acts_kept)) = some (-1000001, land_hour, land_holders, acts_saved, acts_next, acts_kept) := by
        by_cases q : v1 < 1
        · rw [if_pos q]
        · rw [if_neg q, if_neg]
          rw [Int32.lt_iff_toInt_lt] at q
          rw [Int32.le_iff_toInt_le]
          omega
      rw [key]
      exact stay _
  · rw [if_neg hw, if_neg hw]
    exact stay _
theorem held_id (z : Nat → Int32) {c : Nat} (hc : c < 15) : fX3_isHeld z (nI c) = some (bI (¬ z c = -1)) := by
  unfold fX3_isHeld
  rw [chk_t (nI_in hc (by decide)), nI_clamp (by omega)]
  by_cases h : z c = -1
  · rw [if_pos h, bI_f (fun q => q h)]
  · rw [if_neg h, bI_t h]
theorem mayBid_M (w : Nat → Int32) {j c : Nat} (hj : j < 5) (hc : c < 15) : fX9_mayBid w (nI j) (nI c) = some (bI (w (21 + c) = 0 ∧ sHave w (w (36 + 3 * j)) (w 5) c = true)) := by
  unfold fX9_mayBid
  rw [hold_c hc, chk_t (nI_in (show 21 + c < 51 by omega) (by decide)), nI_clamp (by omega), have_M w hj hc, bd1_some, if_bI]
  by_cases h : w (21 + c) = 0
  · rw [if_pos h]
    by_cases q : sHave w (w (36 + 3 * j)) (w 5) c = true
    · rw [if_pos q, bI_t ⟨h, q⟩]
    · rw [if_neg q, bI_f (fun z => q z.2)]
  · rw [if_neg h, bI_f (fun z => h z.1)]
theorem ix37 {j : Nat} : (36 + (3 * nI j)) + 1 = nI (37 + 3 * j) := by
  rw [show (36 : Int32) = nI 36 from rfl, show (3 : Int32) = nI 3 from rfl, show (1 : Int32) = nI 1 from rfl, pk_mul, nI_add, nI_add]
  exact congrArg nI (by omega)
theorem buys_M (w : Nat → Int32) {j c : Nat} (hj : j < 5) (hc : c < 15) : fX9_buys w (nI j) (nI c) = some (upd (upd w (37 + 3 * j) (w (37 + 3 * j) - sCost w (w (36 + 3 * j)) c)) (21 + c) (nI (j + 1))) := by
  unfold fX9_buys
  rw [ix37, hold_c hc, e_of0 w j hj, bd1_some, cost_M w _ hc, bd1_some]
  simp only [chk_nI2 (show 37 + 3 * j < 51 by omega) (show 51 < 2 ^ 31 by decide), chk_nI2 (show 21 + c < 51 by omega) (show 51 < 2 ^ 31 by decide), nI_clamp (show 37 + 3 * j < 2 ^ 31 by omega), nI_clamp (show 21 + c < 2 ^ 31 by omega), nI_1]
theorem sell_X (w heights holders kinds purses : Nat → Int32) {j c : Nat} (hj : j < 5) (hc : c < 15) (hh : heights c = w (6 + c)) (hk : kinds j = w (36 + 3 * j)) (hr : 1 ≤ (w (36 + 3 * j)).toInt ∧ (w (36 + 3 * j)).toInt ≤ 5) : fX3_sell (w 3) heights holders kinds purses (nI j) (nI c) = some (upd holders c (nI j), upd purses j (purses j - sCost w (w (36 + 3 * j)) c)) := by
  unfold fX3_sell
  rw [costTo_X w heights kinds hj hc hh hk hr, bd1_some]
  simp only [chk_nI2 hj (show 5 < 2 ^ 31 by decide), chk_nI2 hc (show 15 < 2 ^ 31 by decide), nI_clamp (show j < 2 ^ 31 by omega), nI_clamp (show c < 2 ^ 31 by omega)]
theorem sold {told low high price hour bidders : Int32} {heights holders kinds purses homes w : Nat → Int32} {B : Int} (hL : RIsle told low high price hour bidders heights holders kinds purses homes w) (hO : OkH B w) {j c : Nat} (hj : j < 5) (hj4 : (j : Int) < (w 4).toInt) (hc : c < 15) {p x : Nat} (hp : w (37 + 3 * j) = nI p) (hp99 : p ≤ 99) (hx : sCost w (w (36 + 3 * j)) c = nI x) (hxp : x ≤ p) :
    RIsle told low high price hour bidders heights (upd holders c (nI j)) kinds (upd purses j (purses j - sCost w (w (36 + 3 * j)) c)) homes (upd (upd w (37 + 3 * j) (w (37 + 3 * j) - sCost w (w (36 + 3 * j)) c)) (21 + c) (nI (j + 1))) ∧ OkH B (upd (upd w (37 + 3 * j) (w (37 + 3 * j) - sCost w (w (36 + 3 * j)) c)) (21 + c) (nI (j + 1))) := by
  obtain ⟨e0, e1, e2, e3, e5, e4, hh, ho, hb⟩ := hL
  have hpx : w (37 + 3 * j) - sCost w (w (36 + 3 * j)) c = nI (p - x) := by rw [hp, hx, pk_sub hxp]
  have hw4 : ∀ i : Nat, i < 6 → upd (upd w (37 + 3 * j) (nI (p - x))) (21 + c) (nI (j + 1)) i = w i := fun i hi => by rw [pk_un (by omega), pk_un (by omega)]
  constructor
  · rw [hpx]
    refine ⟨?_, ?_, ?_, ?_, ?_, ?_, fun q hq => ?_, fun q hq => ?_, fun b hb2 => ?_⟩
    · rw [hw4 0 (by decide)]; exact e0
    · rw [hw4 1 (by decide)]; exact e1
    · rw [hw4 2 (by decide)]; exact e2
    · rw [hw4 3 (by decide)]; exact e3
    · rw [hw4 5 (by decide)]; exact e5
    · rw [hw4 4 (by decide)]; exact e4
    · rw [pk_un (by omega), pk_un (by omega)]; exact hh q hq
    · by_cases z : q = c
      · rw [z, pk_us, pk_us, nI_pred]
      · rw [pk_un z, pk_un (by omega), pk_un (by omega)]; exact ho q hq
    · rw [hw4 4 (by decide)] at hb2
      obtain ⟨k1, k2, k3⟩ := hb b hb2
      have b5 := hO.2.1.2
      rw [pk_un (show 36 + 3 * b ≠ 21 + c by omega), pk_un (show 36 + 3 * b ≠ 37 + 3 * j by omega), pk_un (show 38 + 3 * b ≠ 21 + c by omega), pk_un (show 38 + 3 * b ≠ 37 + 3 * j by omega), pk_un (show 37 + 3 * b ≠ 21 + c by omega)]
      refine ⟨k1, ?_, k3⟩
      by_cases z : b = j
      · rw [z, pk_us, pk_us, (hb j hj4).2.1, hpx]
      · rw [pk_un z, pk_un (by omega)]; exact k2
  · rw [hpx]
    refine okH_hold (okH_purse hO (by omega)) hc ?_
    rw [pk_un (by omega)]
    omega
theorem rsame_un {w : Nat → Int32} {i : Nat} {x : Int32} (h : 5 ≤ i) (h2 : ∀ b : Nat, b < 5 → i ≠ 36 + 3 * b ∧ i ≠ 38 + 3 * b) : RSame w (upd w i x) := ⟨fun q hq => (pk_un (by omega)).symm, fun b hb => ⟨(pk_un (fun z => (h2 b hb).1 z.symm)).symm, (pk_un (fun z => (h2 b hb).2 z.symm)).symm⟩⟩
theorem pu_bid {s_finding : Int32} {rows_lanes : (Nat → Int32)} {rows_lengths : (Nat → Int32)} {rows_items : (Nat → Int32)} {tape_bytes : (Nat → Int32)} {tape_length : Int32} {tape_faultNumber : Int32} {land_told : Int32} {land_low : Int32} {land_high : Int32} {land_price : Int32} {land_hour : Int32} {land_bidders : Int32} {land_heights : (Nat → Int32)} {land_holders : (Nat → Int32)} {land_kinds : (Nat → Int32)} {land_purses : (Nat → Int32)} {land_homes : (Nat → Int32)} {firstImage_told : Int32} {firstImage_low : Int32} {firstImage_high : Int32} {firstImage_price : Int32} {firstImage_hour : Int32} {firstImage_bidders : Int32} {firstImage_heights : (Nat → Int32)} {firstImage_holders : (Nat → Int32)} {firstImage_kinds : (Nat → Int32)} {firstImage_purses : (Nat → Int32)} {firstImage_homes : (Nat → Int32)} {secondImage_told : Int32} {secondImage_low : Int32} {secondImage_high : Int32} {secondImage_price : Int32} {secondImage_hour : Int32} {secondImage_bidders : Int32} {secondImage_heights : (Nat → Int32)} {secondImage_holders : (Nat → Int32)} {secondImage_kinds : (Nat → Int32)} {secondImage_purses : (Nat → Int32)} {secondImage_homes : (Nat → Int32)} {acts_saved : (Nat → Int32)} {acts_next : Int32} {acts_kept : Int32} {asks_bodies : (Nat → Int32)} {asks_traced : Int32} {m_status : Int32} {m_lane : (Nat → Int32)} {m_many : (Nat → Int32)} {m_item : (Nat → Int32)} {m_isle : (Nat → Int32)} {m_was : (Nat → Int32)} {m_acts : Int32} {m_tape : (Nat → Int32)} {m_taped : Int32} {m_latest : Int32} {m_isKept : (Nat → Int32)} {m_kept : (Nat → Int32)} {m_trace : (Nat → Int32)} {m_traced : Int32} (hI : LInv s_finding rows_lanes rows_lengths rows_items tape_bytes tape_length tape_faultNumber land_told land_low land_high land_price land_hour land_bidders land_heights land_holders land_kinds land_purses land_homes firstImage_told firstImage_low firstImage_high firstImage_price firstImage_hour firstImage_bidders firstImage_heights firstImage_holders firstImage_kinds firstImage_purses firstImage_homes secondImage_told secondImage_low secondImage_high secondImage_price secondImage_hour secondImage_bidders secondImage_heights secondImage_holders secondImage_kinds secondImage_purses secondImage_homes acts_saved acts_next acts_kept asks_bodies asks_traced m_status m_lane m_many m_item m_isle m_was m_acts m_tape m_taped m_latest m_isKept m_kept m_trace m_traced) (v1 : Int32) (v2 : Int32) : ∃ (r : Int32) (land_holders' : (Nat → Int32)) (land_purses' : (Nat → Int32)) (acts_saved' : (Nat → Int32)) (acts_next' : Int32) (acts_kept' : Int32) (m_thrown' : Int32) (m_isle' : (Nat → Int32)) (m_was' : (Nat → Int32)) (m_acts' : Int32), fX8_bid land_low land_high land_price land_hour land_bidders land_heights land_holders land_kinds land_purses acts_saved acts_next acts_kept v1 v2 = some (r, land_holders', land_purses', acts_saved', acts_next', acts_kept') ∧ fX9_bid m_isle m_was m_acts v1 v2 = some (r, m_thrown', m_isle', m_was', m_acts') ∧ LInv s_finding rows_lanes rows_lengths rows_items tape_bytes tape_length tape_faultNumber land_told land_low land_high land_price land_hour land_bidders land_heights land_holders' land_kinds land_purses' land_homes firstImage_told firstImage_low firstImage_high firstImage_price firstImage_hour firstImage_bidders firstImage_heights firstImage_holders firstImage_kinds firstImage_purses firstImage_homes secondImage_told secondImage_low secondImage_high secondImage_price secondImage_hour secondImage_bidders secondImage_heights secondImage_holders secondImage_kinds secondImage_purses secondImage_homes acts_saved' acts_next' acts_kept' asks_bodies asks_traced m_status m_lane m_many m_item m_isle' m_was' m_acts' m_tape m_taped m_latest m_isKept m_kept m_trace m_traced := by
  obtain ⟨hst, hR, hT, hL, hO, hA, hrest⟩ := id hI
  suffices H : ∃ r hd ps sv nx kp th w' was' ac, fX8_bid land_low land_high land_price land_hour land_bidders land_heights land_holders land_kinds land_purses acts_saved acts_next acts_kept v1 v2 = some (r, hd, ps, sv, nx, kp) ∧ fX9_bid m_isle m_was m_acts v1 v2 = some (r, th, w', was', ac) ∧ RIsle land_told land_low land_high land_price land_hour land_bidders land_heights hd land_kinds ps land_homes w' ∧ OkI w' ∧ RActs sv nx kp was' ac w' by
    obtain ⟨r, hd, ps, sv, nx, kp, th, w', was', ac, a, b, c, d, e⟩ := H
    exact ⟨r, hd, ps, sv, nx, kp, th, w', was', ac, a, b, hst, hR, hT, c, d, e, hrest⟩
  have stay : ∀ r : Int32, ∃ r' hd ps sv nx kp th w' was' ac, some (r, land_holders, land_purses, acts_saved, acts_next, acts_kept) = some (r', hd, ps, sv, nx, kp) ∧ some (r, (0 : Int32), m_isle, m_was, m_acts) = some (r', th, w', was', ac) ∧ RIsle land_told land_low land_high land_price land_hour land_bidders land_heights hd land_kinds ps land_homes w' ∧ OkI w' ∧ RActs sv nx kp was' ac w' := fun r => ⟨_, _, _, _, _, _, _, _, _, _, rfl, rfl, hL, hO, hA⟩
  obtain ⟨e0, e1, e2, e3, e5, e4, hh, ho, hb⟩ := id hL
  have hz := hO.2.1.1
  unfold fX8_bid fX9_bid
  rw [show fX3_hasBidder land_bidders v1 = some (bI (rng (m_isle 4).toInt v1)) from by rw [e4]; exact e_hasB _ _ hz, e_isB _ _ hz, e_isCell8, e_isCell9]
  simp only [bd1_some, if_bI]
  by_cases hv : rng (m_isle 4).toInt v1
  · obtain ⟨j, hj, hj4, ev⟩ := bid_of hO hv
    rw [if_pos hv, if_pos hv]
    by_cases hc : rng 15 v2
    · obtain ⟨c, hc2, ec⟩ := rng_of (n := 15) hc (by decide)
      have hk := (hO.2.2.2.2.2.2.2 j hj4).1
      have hp := (hO.2.2.2.2.2.2.2 j hj4).2.1
      have hcan : fX3_canHave land_low land_high land_hour land_heights land_kinds (nI j) (nI c) = some (bI (sHave m_isle (m_isle (36 + 3 * j)) (m_isle 5) c = true)) := by
        rw [e1, e2, e5, have_X m_isle land_heights land_kinds (m_isle 5) hj hc2 (hh c hc2), (hb j hj4).1, add0]
      have hcost : fX3_costTo land_price land_heights land_kinds (nI j) (nI c) = some (sCost m_isle (m_isle (36 + 3 * j)) c) := by
        rw [e3]; exact costTo_X m_isle land_heights land_kinds hj hc2 (hh c hc2) (hb j hj4).1 hk
      have hpu : fX3_purse land_purses (nI j) = some (m_isle (37 + 3 * j)) := by
        unfold fX3_purse
        rw [chk_t (nI_in hj (by decide)), nI_clamp (by omega), (hb j hj4).2.1]
      rw [if_pos hc, if_pos hc, ev, ec, held_id _ hc2, mayBid_M m_isle hj hc2, hcan, hcost, hpu, e_of1 m_isle j hj, e_of0 m_isle j hj]
      simp only [bd1_some, if_bI, cost_M m_isle _ hc2]
      have heq : ¬ land_holders c = -1 ↔ ¬ m_isle (21 + c) = 0 := by rw [ho c hc2, sub1_eq]; exact Iff.rfl
      by_cases h0 : m_isle (21 + c) = 0
      · rw [if_neg (fun q => heq.mp q h0)]
        by_cases hs : sHave m_isle (m_isle (36 + 3 * j)) (m_isle 5) c = true
        · rw [if_pos hs, if_pos (show m_isle (21 + c) = 0 ∧ sHave m_isle (m_isle (36 + 3 * j)) (m_isle 5) c = true from ⟨h0, hs⟩)]
          obtain ⟨p, hp99, ep⟩ := nat_of (n := 99) hp.1 (by omega) (by decide)
          obtain ⟨x, hx, ex⟩ := cost_nat hO (m_isle (36 + 3 * j)) hc2
          by_cases hle : sCost m_isle (m_isle (36 + 3 * j)) c ≤ m_isle (37 + 3 * j)
          · have hxp : x ≤ p := by
              rw [ex, ep] at hle
              exact (nI_leI (by omega) (by omega)).mp hle
            obtain ⟨sv, nx, kp, ws, ac, q1, q2, q3⟩ := keep_both hA hO e5 hh ho (fun b h => (hb b h).2.1)
            obtain ⟨s1, s2⟩ := sold hL hO hj hj4 hc2 ep hp99 ex hxp
            rw [if_pos hle, if_pos hle, q1, q2]
            show ∃ r hd ps sv nx kp th w' was' ac, bd2 (fX3_sell land_price land_heights land_holders land_kinds land_purses (nI j) (nI c)) _ = _ ∧ bd1 (fX9_buys m_isle (nI j) (nI c)) _ = _ ∧ _
            have hsell : fX3_sell land_price land_heights land_holders land_kinds land_purses (nI j) (nI c) = some (upd land_holders c (nI j), upd land_purses j (land_purses j - sCost m_isle (m_isle (36 + 3 * j)) c)) := by rw [e3]; exact sell_X m_isle land_heights land_holders land_kinds land_purses hj hc2 (hh c hc2) (hb j hj4).1 hk
            rw [hsell, buys_M m_isle hj hc2]
            refine ⟨m_isle (37 + 3 * j) - sCost m_isle (m_isle (36 + 3 * j)) c, _, _, sv, nx, kp, 0, _, ws, ac, ?_, ?_, s1, s2, q3 _ (rsame_tr (rsame_un (by omega) (fun b hb => ⟨by omega, by omega⟩)) (rsame_un (by omega) (fun b hb => ⟨by omega, by omega⟩)))⟩
            · show bd1 (fX3_purse (upd land_purses j _) (nI j)) _ = _
              unfold fX3_purse
              rw [chk_t (nI_in hj (by decide)), nI_clamp (by omega), pk_us, (hb j hj4).2.1]
              rfl
            · rw [bd1_some, e_of1 _ j hj, pk_un (by omega), pk_us]
              rfl
          · rw [if_neg hle, if_neg hle]
            exact stay _
        · rw [if_neg hs, if_neg (fun q => hs q.2)]
          exact stay _
      · rw [if_pos (heq.mpr h0), if_neg (fun q => h0 q.1)]
        exact stay _
    · rw [if_neg hc, if_neg hc]
      exact stay _
  · rw [if_neg hv, if_neg hv]
    exact stay _

