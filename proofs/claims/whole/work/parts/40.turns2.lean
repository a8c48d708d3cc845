/-! stones, gifts, undone, images -/
theorem pu_raise {s_finding : Int32} {rows_lanes : (Nat → Int32)} {rows_lengths : (Nat → Int32)} {rows_items : (Nat → Int32)} {tape_bytes : (Nat → Int32)} {tape_length : Int32} {tape_faultNumber : Int32} {land_told : Int32} {land_low : Int32} {land_high : Int32} {land_price : Int32} {land_hour : Int32} {land_bidders : Int32} {land_heights : (Nat → Int32)} {land_holders : (Nat → Int32)} {land_kinds : (Nat → Int32)} {land_purses : (Nat → Int32)} {land_homes : (Nat → Int32)} {firstImage_told : Int32} {firstImage_low : Int32} {firstImage_high : Int32} {firstImage_price : Int32} {firstImage_hour : Int32} {firstImage_bidders : Int32} {firstImage_heights : (Nat → Int32)} {firstImage_holders : (Nat → Int32)} {firstImage_kinds : (Nat → Int32)} {firstImage_purses : (Nat → Int32)} {firstImage_homes : (Nat → Int32)} {secondImage_told : Int32} {secondImage_low : Int32} {secondImage_high : Int32} {secondImage_price : Int32} {secondImage_hour : Int32} {secondImage_bidders : Int32} {secondImage_heights : (Nat → Int32)} {secondImage_holders : (Nat → Int32)} {secondImage_kinds : (Nat → Int32)} {secondImage_purses : (Nat → Int32)} {secondImage_homes : (Nat → Int32)} {acts_saved : (Nat → Int32)} {acts_next : Int32} {acts_kept : Int32} {asks_bodies : (Nat → Int32)} {asks_traced : Int32} {m_status : Int32} {m_lane : (Nat → Int32)} {m_many : (Nat → Int32)} {m_item : (Nat → Int32)} {m_isle : (Nat → Int32)} {m_was : (Nat → Int32)} {m_acts : Int32} {m_tape : (Nat → Int32)} {m_taped : Int32} {m_latest : Int32} {m_isKept : (Nat → Int32)} {m_kept : (Nat → Int32)} {m_trace : (Nat → Int32)} {m_traced : Int32} (hI : LInv s_finding rows_lanes rows_lengths rows_items tape_bytes tape_length tape_faultNumber land_told land_low land_high land_price land_hour land_bidders land_heights land_holders land_kinds land_purses land_homes firstImage_told firstImage_low firstImage_high firstImage_price firstImage_hour firstImage_bidders firstImage_heights firstImage_holders firstImage_kinds firstImage_purses firstImage_homes secondImage_told secondImage_low secondImage_high secondImage_price secondImage_hour secondImage_bidders secondImage_heights secondImage_holders secondImage_kinds secondImage_purses secondImage_homes acts_saved acts_next acts_kept asks_bodies asks_traced m_status m_lane m_many m_item m_isle m_was m_acts m_tape m_taped m_latest m_isKept m_kept m_trace m_traced) (v1 : Int32) (v2 : Int32) : ∃ (r : Int32) (land_heights' : (Nat → Int32)) (acts_saved' : (Nat → Int32)) (acts_next' : Int32) (acts_kept' : Int32) (m_thrown' : Int32) (m_isle' : (Nat → Int32)) (m_was' : (Nat → Int32)) (m_acts' : Int32), fX8_raise land_hour land_bidders land_heights land_holders land_purses acts_saved acts_next acts_kept v1 v2 = some (r, land_heights', acts_saved', acts_next', acts_kept') ∧ fX9_raise m_isle m_was m_acts v1 v2 = some (r, m_thrown', m_isle', m_was', m_acts') ∧ LInv s_finding rows_lanes rows_lengths rows_items tape_bytes tape_length tape_faultNumber land_told land_low land_high land_price land_hour land_bidders land_heights' land_holders land_kinds land_purses land_homes firstImage_told firstImage_low firstImage_high firstImage_price firstImage_hour firstImage_bidders firstImage_heights firstImage_holders firstImage_kinds firstImage_purses firstImage_homes secondImage_told secondImage_low secondImage_high secondImage_price secondImage_hour secondImage_bidders secondImage_heights secondImage_holders secondImage_kinds secondImage_purses secondImage_homes acts_saved' acts_next' acts_kept' asks_bodies asks_traced m_status m_lane m_many m_item m_isle' m_was' m_acts' m_tape m_taped m_latest m_isKept m_kept m_trace m_traced := by
  obtain ⟨hst, hR, hT, hL, hO, hA, hrest⟩ := id hI
  suffices H : ∃ r hs sv nx kp th w' was' ac, fX8_raise land_hour land_bidders land_heights land_holders land_purses acts_saved acts_next acts_kept v1 v2 = some (r, hs, sv, nx, kp) ∧ fX9_raise m_isle m_was m_acts v1 v2 = some (r, th, w', was', ac) ∧ RIsle land_told land_low land_high land_price land_hour land_bidders hs land_holders land_kinds land_purses land_homes w' ∧ OkI w' ∧ RActs sv nx kp was' ac w' by
    obtain ⟨r, hs, sv, nx, kp, th, w', was', ac, a, b, c, d, e⟩ := H
    exact ⟨r, hs, sv, nx, kp, th, w', was', ac, a, b, hst, hR, hT, c, d, e, hrest⟩
  have stay : ∀ r : Int32, ∃ r' hs sv nx kp th w' was' ac, some (r, land_heights, acts_saved, acts_next, acts_kept) = some (r', hs, sv, nx, kp) ∧ some (r, (0 : Int32), m_isle, m_was, m_acts) = some (r', th, w', was', ac) ∧ RIsle land_told land_low land_high land_price land_hour land_bidders hs land_holders land_kinds land_purses land_homes w' ∧ OkI w' ∧ RActs sv nx kp was' ac w' := fun r => ⟨_, _, _, _, _, _, _, _, _, rfl, rfl, hL, hO, hA⟩
  obtain ⟨e0, e1, e2, e3, e5, e4, hh, ho, hb⟩ := id hL
  have hz := hO.2.1.1
  unfold fX8_raise fX9_raise
  rw [show fX3_hasBidder land_bidders v1 = some (bI (rng (m_isle 4).toInt v1)) from by rw [e4]; exact e_hasB _ _ hz, e_isB _ _ hz, e_isCell8, e_isCell9]
  simp only [bd1_some, if_bI]
  by_cases hv : rng (m_isle 4).toInt v1
  · obtain ⟨j, hj, hj4, ev⟩ := bid_of hO hv
    rw [if_pos hv, if_pos hv]
    by_cases hc : rng 15 v2
    · obtain ⟨c, hc2, ec⟩ := rng_of (n := 15) hc (by decide)
      have hho : fX3_holder land_holders (nI c) = some (land_holders c) := by
        unfold fX3_holder
        rw [chk_t (nI_in hc2 (by decide)), nI_clamp (by omega)]
      have hhe : ∀ z : Nat → Int32, fX3_height z (nI c) = some (z c) := fun z => by
        unfold fX3_height
        rw [chk_t (nI_in hc2 (by decide)), nI_clamp (by omega)]
      rw [if_pos hc, if_pos hc, ev, ec, hho, hhe, hold_c hc2, six_c hc2]
      simp only [bd1_some, chk_nI (show 21 + c < 51 by omega) (show 51 < 2 ^ 31 by decide), chk_nI (show 6 + c < 51 by omega) (show 51 < 2 ^ 31 by decide), chk_nI2 (show 21 + c < 51 by omega) (show 51 < 2 ^ 31 by decide), chk_nI2 (show 6 + c < 51 by omega) (show 51 < 2 ^ 31 by decide), nI_clamp (show 21 + c < 2 ^ 31 by omega), nI_clamp (show 6 + c < 2 ^ 31 by omega)]
      have heq : land_holders c = nI j ↔ m_isle (21 + c) = nI j + 1 := by rw [ho c hc2, sub1_eq]
      by_cases h0 : m_isle (21 + c) = nI j + 1
      · rw [if_pos (heq.mpr h0), if_pos h0]
        obtain ⟨q0, q1⟩ := hO.2.2.2.2.2.1 c hc2
        obtain ⟨x, hx, ex⟩ := nat_of (n := 9) q0 (by omega) (by decide)
        rw [hh c hc2]
        by_cases h9 : x = 9
        · rw [ex, h9, if_neg (by decide), if_pos (show nI 9 = 9 from rfl)]
          exact stay _
        · rw [ex, if_pos (show nI x < 9 from nI_lt (show x < 9 by omega) (by decide)), if_neg (show ¬ nI x = 9 from fun q => h9 ((nI_eq (by omega) (by decide)).mp q))]
          obtain ⟨sv, nx, kp, ws, ac, k1, k2, k3⟩ := keep_both hA hO e5 hh ho (fun b h => (hb b h).2.1)
          rw [k1, k2]
          refine ⟨nI (x + 1), upd land_heights c (nI (x + 1)), sv, nx, kp, 0, upd m_isle (6 + c) (nI (x + 1)), ws, ac, ?_, ?_, ?_, okH_height hO hc2 (by omega), k3 _ (rsame_un (by omega) (fun b hb => ⟨by omega, by omega⟩))⟩
          · show bd1 (fX3_putStones land_heights (nI c)) _ = _
            unfold fX3_putStones
            rw [chk_t (nI_in hc2 (by decide)), chk_t (nI_in hc2 (by decide)), nI_clamp (by omega), hh c hc2, ex, nI_1, bd1_some, hhe, bd1_some, pk_us]
          · rw [nI_1]
            show some (upd m_isle (6 + c) (nI (x + 1)) (6 + c), (0 : Int32), _, _, _) = _
            rw [pk_us]
          · have hw : ∀ i : Nat, i < 6 → upd m_isle (6 + c) (nI (x + 1)) i = m_isle i := fun i hi => pk_un (by omega)
            refine ⟨?_, ?_, ?_, ?_, ?_, ?_, fun q hq => ?_, fun q hq => ?_, fun b hb2 => ?_⟩
            · rw [hw 0 (by decide)]; exact e0
            · rw [hw 1 (by decide)]; exact e1
            · rw [hw 2 (by decide)]; exact e2
            · rw [hw 3 (by decide)]; exact e3
            · rw [hw 5 (by decide)]; exact e5
            · rw [hw 4 (by decide)]; exact e4
            · by_cases z : q = c
              · rw [z, pk_us, pk_us]
              · rw [pk_un z, pk_un (by omega)]; exact hh q hq
            · rw [pk_un (by omega)]; exact ho q hq
            · rw [hw 4 (by decide)] at hb2
              rw [pk_un (by omega), pk_un (by omega), pk_un (by omega)]; exact hb b hb2
      · rw [if_neg (fun q => h0 (heq.mp q)), if_neg h0]
        exact stay _
    · rw [if_neg hc, if_neg hc]
      exact stay _
  · rw [if_neg hv, if_neg hv]
    exact stay _
theorem pu_give {s_finding : Int32} {rows_lanes : (Nat → Int32)} {rows_lengths : (Nat → Int32)} {rows_items : (Nat → Int32)} {tape_bytes : (Nat → Int32)} {tape_length : Int32} {tape_faultNumber : Int32} {land_told : Int32} {land_low : Int32} {land_high : Int32} {land_price : Int32} {land_hour : Int32} {land_bidders : Int32} {land_heights : (Nat → Int32)} {land_holders : (Nat → Int32)} {land_kinds : (Nat → Int32)} {land_purses : (Nat → Int32)} {land_homes : (Nat → Int32)} {firstImage_told : Int32} {firstImage_low : Int32} {firstImage_high : Int32} {firstImage_price : Int32} {firstImage_hour : Int32} {firstImage_bidders : Int32} {firstImage_heights : (Nat → Int32)} {firstImage_holders : (Nat → Int32)} {firstImage_kinds : (Nat → Int32)} {firstImage_purses : (Nat → Int32)} {firstImage_homes : (Nat → Int32)} {secondImage_told : Int32} {secondImage_low : Int32} {secondImage_high : Int32} {secondImage_price : Int32} {secondImage_hour : Int32} {secondImage_bidders : Int32} {secondImage_heights : (Nat → Int32)} {secondImage_holders : (Nat → Int32)} {secondImage_kinds : (Nat → Int32)} {secondImage_purses : (Nat → Int32)} {secondImage_homes : (Nat → Int32)} {acts_saved : (Nat → Int32)} {acts_next : Int32} {acts_kept : Int32} {asks_bodies : (Nat → Int32)} {asks_traced : Int32} {m_status : Int32} {m_lane : (Nat → Int32)} {m_many : (Nat → Int32)} {m_item : (Nat → Int32)} {m_isle : (Nat → Int32)} {m_was : (Nat → Int32)} {m_acts : Int32} {m_tape : (Nat → Int32)} {m_taped : Int32} {m_latest : Int32} {m_isKept : (Nat → Int32)} {m_kept : (Nat → Int32)} {m_trace : (Nat → Int32)} {m_traced : Int32} (hI : LInv s_finding rows_lanes rows_lengths rows_items tape_bytes tape_length tape_faultNumber land_told land_low land_high land_price land_hour land_bidders land_heights land_holders land_kinds land_purses land_homes firstImage_told firstImage_low firstImage_high firstImage_price firstImage_hour firstImage_bidders firstImage_heights firstImage_holders firstImage_kinds firstImage_purses firstImage_homes secondImage_told secondImage_low secondImage_high secondImage_price secondImage_hour secondImage_bidders secondImage_heights secondImage_holders secondImage_kinds secondImage_purses secondImage_homes acts_saved acts_next acts_kept asks_bodies asks_traced m_status m_lane m_many m_item m_isle m_was m_acts m_tape m_taped m_latest m_isKept m_kept m_trace m_traced) (v1 : Int32) (v2 : Int32) (v3 : Int32) : ∃ (r : Int32) (land_holders' : (Nat → Int32)) (acts_saved' : (Nat → Int32)) (acts_next' : Int32) (acts_kept' : Int32) (m_thrown' : Int32) (m_isle' : (Nat → Int32)) (m_was' : (Nat → Int32)) (m_acts' : Int32), fX8_give land_hour land_bidders land_heights land_holders land_purses acts_saved acts_next acts_kept v1 v2 v3 = some (r, land_holders', acts_saved', acts_next', acts_kept') ∧ fX9_give m_isle m_was m_acts v1 v2 v3 = some (r, m_thrown', m_isle', m_was', m_acts') ∧ LInv s_finding rows_lanes rows_lengths rows_items tape_bytes tape_length tape_faultNumber land_told land_low land_high land_price land_hour land_bidders land_heights land_holders' land_kinds land_purses land_homes firstImage_told firstImage_low firstImage_high firstImage_price firstImage_hour firstImage_bidders firstImage_heights firstImage_holders firstImage_kinds firstImage_purses firstImage_homes secondImage_told secondImage_low secondImage_high secondImage_price secondImage_hour secondImage_bidders secondImage_heights secondImage_holders secondImage_kinds secondImage_purses secondImage_homes acts_saved' acts_next' acts_kept' asks_bodies asks_traced m_status m_lane m_many m_item m_isle' m_was' m_acts' m_tape m_taped m_latest m_isKept m_kept m_trace m_traced := by
  obtain ⟨hst, hR, hT, hL, hO, hA, hrest⟩ := id hI
  suffices H : ∃ r hd sv nx kp th w' was' ac, fX8_give land_hour land_bidders land_heights land_holders land_purses acts_saved acts_next acts_kept v1 v2 v3 = some (r, hd, sv, nx, kp) ∧ fX9_give m_isle m_was m_acts v1 v2 v3 = some (r, th, w', was', ac) ∧ RIsle land_told land_low land_high land_price land_hour land_bidders land_heights hd land_kinds land_purses land_homes w' ∧ OkI w' ∧ RActs sv nx kp was' ac w' by
    obtain ⟨r, hs, sv, nx, kp, th, w', was', ac, a, b, c, d, e⟩ := H
    exact ⟨r, hs, sv, nx, kp, th, w', was', ac, a, b, hst, hR, hT, c, d, e, hrest⟩
  have stay : ∀ r : Int32, ∃ r' hd sv nx kp th w' was' ac, some (r, land_holders, acts_saved, acts_next, acts_kept) = some (r', hd, sv, nx, kp) ∧ some (r, (0 : Int32), m_isle, m_was, m_acts) = some (r', th, w', was', ac) ∧ RIsle land_told land_low land_high land_price land_hour land_bidders land_heights hd land_kinds land_purses land_homes w' ∧ OkI w' ∧ RActs sv nx kp was' ac w' := fun r => ⟨_, _, _, _, _, _, _, _, _, rfl, rfl, hL, hO, hA⟩
  obtain ⟨e0, e1, e2, e3, e5, e4, hh, ho, hb⟩ := id hL
  have hz := hO.2.1.1
  unfold fX8_give fX9_give
  rw [show ∀ v, fX3_hasBidder land_bidders v = some (bI (rng (m_isle 4).toInt v)) from fun v => by rw [e4]; exact e_hasB _ _ hz, show ∀ v, fX3_hasBidder land_bidders v = some (bI (rng (m_isle 4).toInt v)) from fun v => by rw [e4]; exact e_hasB _ _ hz, e_isB _ _ hz, e_isB _ _ hz, e_isCell8, e_isCell9]
  simp only [bd1_some, if_bI]
  by_cases hv : rng (m_isle 4).toInt v1
  · obtain ⟨j, hj, hj4, ev⟩ := bid_of hO hv
    rw [if_pos hv, if_pos hv]
    by_cases hu : rng (m_isle 4).toInt v2
    · obtain ⟨i, hi, hi4, eu⟩ := bid_of hO hu
      rw [if_pos hu, if_pos hu]
      by_cases he : v1 = v2
      · rw [if_pos he, if_pos he]
        exact stay _
      · rw [if_neg he, if_neg he]
        by_cases hc : rng 15 v3
        · obtain ⟨c, hc2, ec⟩ := rng_of (n := 15) hc (by decide)
          have hho : fX3_holder land_holders (nI c) = some (land_holders c) := by
            unfold fX3_holder
            rw [chk_t (nI_in hc2 (by decide)), nI_clamp (by omega)]
          rw [if_pos hc, if_pos hc, ev, ec, eu, hho, hold_c hc2]
          simp only [bd1_some, chk_nI (show 21 + c < 51 by omega) (show 51 < 2 ^ 31 by decide), chk_nI2 (show 21 + c < 51 by omega) (show 51 < 2 ^ 31 by decide), nI_clamp (show 21 + c < 2 ^ 31 by omega)]
          have heq : land_holders c = nI j ↔ m_isle (21 + c) = nI j + 1 := by rw [ho c hc2, sub1_eq]
          by_cases h0 : m_isle (21 + c) = nI j + 1
          · rw [if_pos (heq.mpr h0), if_pos h0]
            obtain ⟨sv, nx, kp, ws, ac, k1, k2, k3⟩ := keep_both hA hO e5 hh ho (fun b h => (hb b h).2.1)
            have hL2 : ∀ q : Nat, q < 15 → upd land_holders c (nI i) q = upd m_isle (21 + c) (nI i + 1) (21 + q) - 1 := fun q hq => by
              by_cases z : q = c
              · rw [z, pk_us, pk_us, nI_1, nI_pred]
              · rw [pk_un z, pk_un (by omega)]; exact ho q hq
            rw [k1, k2]
            refine ⟨orb (fun q => decide (upd m_isle (21 + c) (nI i + 1) (21 + q) = nI i + 1)) 15, upd land_holders c (nI i), sv, nx, kp, 0, upd m_isle (21 + c) (nI i + 1), ws, ac, ?_, ?_, ?_, ?_, k3 _ (rsame_un (by omega) (fun b hb => ⟨by omega, by omega⟩))⟩
            · show bd1 (fX3_handOver land_holders (nI c) (nI i)) _ = _
              unfold fX3_handOver
              rw [chk_t (nI_in hc2 (by decide)), nI_clamp (by omega), bd1_some, cellsOf_X, by_eq hL2, bd1_some]
            · show bd1 (fX9_heldBy (upd m_isle (21 + c) (nI i + 1)) (nI i)) _ = _
              rw [heldBy_M, bd1_some]
            · have hw : ∀ q : Nat, q < 6 → upd m_isle (21 + c) (nI i + 1) q = m_isle q := fun q hq => pk_un (by omega)
              refine ⟨?_, ?_, ?_, ?_, ?_, ?_, fun q hq => ?_, hL2, fun b hb2 => ?_⟩
              · rw [hw 0 (by decide)]; exact e0
              · rw [hw 1 (by decide)]; exact e1
              · rw [hw 2 (by decide)]; exact e2
              · rw [hw 3 (by decide)]; exact e3
              · rw [hw 5 (by decide)]; exact e5
              · rw [hw 4 (by decide)]; exact e4
              · rw [pk_un (by omega)]; exact hh q hq
              · rw [hw 4 (by decide)] at hb2
                rw [pk_un (by omega), pk_un (by omega), pk_un (by omega)]; exact hb b hb2
            · rw [nI_1]
              exact okH_hold hO hc2 (by omega)
          · rw [if_neg (fun q => h0 (heq.mp q)), if_neg h0]
            exact stay _
        · rw [if_neg hc, if_neg hc]
          exact stay _
    · rw [if_neg hu, if_neg hu]
      exact stay _
  · rw [if_neg hv, if_neg hv]
    exact stay _
theorem takeFrom_X (heights holders purses saved : Nat → Int32) {q : Nat} (hq : q < 24) : ∃ hs hd ps, fX3_takeFrom heights holders purses saved (nI q * 36) = some (saved (36 * q), hs, hd, ps) ∧ (∀ c : Nat, c < 15 → hs c = saved (36 * q + 1 + c)) ∧ (∀ c : Nat, c < 15 → hd c = saved (36 * q + 16 + c)) ∧ (∀ b : Nat, b < 5 → ps b = saved (36 * q + 31 + b)) := by
  unfold fX3_takeFrom
  have e0 : nI q * 36 = nI (36 * q) := by rw [show (36 : Int32) = nI 36 from rfl, pk_mul, Nat.mul_comm]
  have e1 : nI (36 * q) + 1 = nI (36 * q + 1) := nI_1 _
  have e2 : nI (36 * q + 1) + 15 = nI (36 * q + 16) := nI_add _ 15
  have e3 : nI (36 * q + 1) + 30 = nI (36 * q + 31) := nI_add _ 30
  have z0 : (0 : Int32).toNatClampNeg = 0 := rfl
  have z5 : (5 : Int32).toNatClampNeg = 5 := rfl
  have z15 : (15 : Int32).toNatClampNeg = 15 := rfl
  have p0 : ¬ (0 : Int32) < 0 := by decide
  have p5 : ¬ (5 : Int32) < 0 := by decide
  have p15 : ¬ (15 : Int32) < 0 := by decide
  rw [e0, e1, e2, e3, z0, z5, z15, nI_clamp (show 36 * q < 2 ^ 31 by omega), nI_clamp (show 36 * q + 1 < 2 ^ 31 by omega), nI_clamp (show 36 * q + 16 < 2 ^ 31 by omega), nI_clamp (show 36 * q + 31 < 2 ^ 31 by omega),
    chk_t (nI_in2 (show 36 * q < 864 by omega) (by decide)), chk_t ⟨nI_pos (by omega), p0, p15, by omega, by omega⟩, chk_t ⟨nI_pos (by omega), p0, p15, by omega, by omega⟩, chk_t ⟨nI_pos (by omega), p0, p5, by omega, by omega⟩]
  refine ⟨_, _, _, rfl, fun c hc => ?_, fun c hc => ?_, fun b hb => ?_⟩
  · rw [pk_cpy_in (by omega) (by omega), Nat.sub_zero]
  · rw [pk_cpy_in (by omega) (by omega), Nat.sub_zero]
  · rw [pk_cpy_in (by omega) (by omega), Nat.sub_zero]
theorem undo_L (k : (Nat → Int32) → Option (Int32 × Int32 × (Nat → Int32) × Int32)) (was w : Nat → Int32) {a : Nat} (ha1 : 1 ≤ a) (ha : a ≤ 24) : ∃ t, fX9_undo_L27 was (nI a) k FU 0 w = k t ∧ ∀ i : Nat, i < 51 → t i = was (51 * (a - 1) + i) := by
  have key := for_loop (fun n z i => fX9_undo_L27 was (nI a) k n i z) 51 (fun i z => upd z (0 + i) ((fun q => was (51 * (a - 1) + q)) i)) k (fun _ _ => True) (fun n j z hj hz => ⟨?_, trivial⟩) (fun n z _ => ?_) w trivial FU (fu_big (by decide))
  · exact ⟨_, key.1, fun i hi => by rw [cfill, if_pos (by omega), Nat.sub_zero]⟩
  · show fX9_undo_L27 was (nI a) k (n + 1) (nI j) z = _
    have e : 51 * (nI a - 1) + nI j = nI (51 * (a - 1) + j) := by
      rw [show (1 : Int32) = nI 1 from rfl, pk_sub ha1, show (51 : Int32) = nI 51 from rfl, pk_mul, nI_add]
    rw [fX9_undo_L27.eq_2, if_neg (show ¬ (51 : Int32) ≤ nI j from nI_ge hj (by decide)), e, chk_t (nI_in (show 51 * (a - 1) + j < 1224 by omega) (by decide)), chk_t (nI_in hj (by decide)), nI_clamp (by omega), nI_clamp (by omega), nI_succ, Nat.zero_add]
  · show fX9_undo_L27 was (nI a) k (n + 1) (nI 51) z = _
    rw [fX9_undo_L27.eq_2, if_pos (by decide)]
theorem rsame_cg {u v w : Nat → Int32} (h : ∀ i : Nat, i < 51 → u i = v i) (h2 : RSame v w) : RSame u w := rsame_tr ⟨fun i hi => h i (by omega), fun b hb => ⟨h _ (by omega), h _ (by omega)⟩⟩ h2
theorem pu_undo {s_finding : Int32} {rows_lanes : (Nat → Int32)} {rows_lengths : (Nat → Int32)} {rows_items : (Nat → Int32)} {tape_bytes : (Nat → Int32)} {tape_length : Int32} {tape_faultNumber : Int32} {land_told : Int32} {land_low : Int32} {land_high : Int32} {land_price : Int32} {land_hour : Int32} {land_bidders : Int32} {land_heights : (Nat → Int32)} {land_holders : (Nat → Int32)} {land_kinds : (Nat → Int32)} {land_purses : (Nat → Int32)} {land_homes : (Nat → Int32)} {firstImage_told : Int32} {firstImage_low : Int32} {firstImage_high : Int32} {firstImage_price : Int32} {firstImage_hour : Int32} {firstImage_bidders : Int32} {firstImage_heights : (Nat → Int32)} {firstImage_holders : (Nat → Int32)} {firstImage_kinds : (Nat → Int32)} {firstImage_purses : (Nat → Int32)} {firstImage_homes : (Nat → Int32)} {secondImage_told : Int32} {secondImage_low : Int32} {secondImage_high : Int32} {secondImage_price : Int32} {secondImage_hour : Int32} {secondImage_bidders : Int32} {secondImage_heights : (Nat → Int32)} {secondImage_holders : (Nat → Int32)} {secondImage_kinds : (Nat → Int32)} {secondImage_purses : (Nat → Int32)} {secondImage_homes : (Nat → Int32)} {acts_saved : (Nat → Int32)} {acts_next : Int32} {acts_kept : Int32} {asks_bodies : (Nat → Int32)} {asks_traced : Int32} {m_status : Int32} {m_lane : (Nat → Int32)} {m_many : (Nat → Int32)} {m_item : (Nat → Int32)} {m_isle : (Nat → Int32)} {m_was : (Nat → Int32)} {m_acts : Int32} {m_tape : (Nat → Int32)} {m_taped : Int32} {m_latest : Int32} {m_isKept : (Nat → Int32)} {m_kept : (Nat → Int32)} {m_trace : (Nat → Int32)} {m_traced : Int32} (hI : LInv s_finding rows_lanes rows_lengths rows_items tape_bytes tape_length tape_faultNumber land_told land_low land_high land_price land_hour land_bidders land_heights land_holders land_kinds land_purses land_homes firstImage_told firstImage_low firstImage_high firstImage_price firstImage_hour firstImage_bidders firstImage_heights firstImage_holders firstImage_kinds firstImage_purses firstImage_homes secondImage_told secondImage_low secondImage_high secondImage_price secondImage_hour secondImage_bidders secondImage_heights secondImage_holders secondImage_kinds secondImage_purses secondImage_homes acts_saved acts_next acts_kept asks_bodies asks_traced m_status m_lane m_many m_item m_isle m_was m_acts m_tape m_taped m_latest m_isKept m_kept m_trace m_traced) : ∃ (r : Int32) (land_hour' : Int32) (land_heights' : (Nat → Int32)) (land_holders' : (Nat → Int32)) (land_purses' : (Nat → Int32)) (acts_next' : Int32) (acts_kept' : Int32) (m_thrown' : Int32) (m_isle' : (Nat → Int32)) (m_acts' : Int32), fX8_undo land_hour land_heights land_holders land_purses acts_saved acts_next acts_kept = some (r, land_hour', land_heights', land_holders', land_purses', acts_next', acts_kept') ∧ fX9_undo m_isle m_was m_acts = some (r, m_thrown', m_isle', m_acts') ∧ LInv s_finding rows_lanes rows_lengths rows_items tape_bytes tape_length tape_faultNumber land_told land_low land_high land_price land_hour' land_bidders land_heights' land_holders' land_kinds land_purses' land_homes firstImage_told firstImage_low firstImage_high firstImage_price firstImage_hour firstImage_bidders firstImage_heights firstImage_holders firstImage_kinds firstImage_purses firstImage_homes secondImage_told secondImage_low secondImage_high secondImage_price secondImage_hour secondImage_bidders secondImage_heights secondImage_holders secondImage_kinds secondImage_purses secondImage_homes acts_saved acts_next' acts_kept' asks_bodies asks_traced m_status m_lane m_many m_item m_isle' m_was m_acts' m_tape m_taped m_latest m_isKept m_kept m_trace m_traced := by
  obtain ⟨hst, hR, hT, hL, hO, hA, hrest⟩ := id hI
  suffices H : ∃ r hr hs hd ps nx kp th w' ac, fX8_undo land_hour land_heights land_holders land_purses acts_saved acts_next acts_kept = some (r, hr, hs, hd, ps, nx, kp) ∧ fX9_undo m_isle m_was m_acts = some (r, th, w', ac) ∧ RIsle land_told land_low land_high land_price hr land_bidders hs hd land_kinds ps land_homes w' ∧ OkI w' ∧ RActs acts_saved nx kp m_was ac w' by
    obtain ⟨r, hr, hs, hd, ps, nx, kp, th, w', ac, a, b, c, d, e⟩ := H
    exact ⟨r, hr, hs, hd, ps, nx, kp, th, w', ac, a, b, hst, hR, hT, c, d, e, hrest⟩
  obtain ⟨e0, e1, e2, e3, e5, e4, hh, ho, hb⟩ := id hL
  obtain ⟨a, nx, ha, hnx, k1, k2, k3, hj⟩ := id hA
  unfold fX8_undo fX9_undo
  rw [show fX0_kept acts_kept = some (nI a) from by rw [k1]; rfl, bd1_some]
  by_cases h0 : a = 0
  · rw [if_neg (by rw [h0]; decide), k2, if_pos (by rw [h0]; rfl), ← k2]
    exact ⟨_, _, _, _, _, _, _, _, _, _, rfl, rfl, hL, hO, hA⟩
  · obtain ⟨t, u1, u2⟩ := undo_L (fun s_isle_e59 => some ((nI a - 1), 0, s_isle_e59, (nI a - 1))) m_was m_isle (show 1 ≤ a by omega) ha
    obtain ⟨r1, r2, r3⟩ := hj 0 (by omega)
    have sl : (nx + 23 - 0) % 24 = (nx + 23) % 24 := rfl
    rw [sl] at r1
    have hq : (nx + 23) % 24 < 24 := by omega
    have hix : ((nI nx + 24) - 1) - ((nI nx + 24) - 1) / 24 * 24 = nI ((nx + 23) % 24) := by
      rw [show nI nx + 24 = nI (nx + 24) from nI_add nx 24, show (1 : Int32) = nI 1 from rfl, pk_sub (by omega), show (24 : Int32) = nI 24 from rfl, pk_rem (by omega) (by decide) (by decide)]
      exact congrArg nI (by omega)
    obtain ⟨hs, hd, ps, t1, t2, t3, t4⟩ := takeFrom_X land_heights land_holders land_purses acts_saved hq
    rw [if_pos (show (1 : Int32) ≤ nI a from nI_le (show 1 ≤ a by omega) (by omega)), k2, if_neg (nI_ne0 (by omega) (by omega)), u1]
    unfold fX0_takeBack
    rw [k1, k3, hix, t1]
    have hu : ∀ i : Nat, i < 51 → t i = (fun i => m_was (51 * (a - 1 - 0) + i)) i := u2
    have hm : nI a - 1 = nI (a - 1) := by rw [show (1 : Int32) = nI 1 from rfl, pk_sub (by omega)]
    rw [hm]
    obtain ⟨q0, q1, q2, q3⟩ := r1
    have b5 := r2.2.1.2
    refine ⟨nI (a - 1), acts_saved (36 * ((nx + 23) % 24)), hs, hd, ps, nI ((nx + 23) % 24), nI (a - 1), 0, t, nI (a - 1), rfl, rfl, ⟨?_, ?_, ?_, ?_, ?_, ?_, fun c hc => ?_, fun c hc => ?_, fun b hb2 => ?_⟩, okH_cg hu r2, ⟨a - 1, (nx + 23) % 24, by omega, by omega, rfl, rfl, rfl, fun j hj2 => ?_⟩⟩
    · rw [hu 0 (by decide), r3.1 0 (by decide)]; exact e0
    · rw [hu 1 (by decide), r3.1 1 (by decide)]; exact e1
    · rw [hu 2 (by decide), r3.1 2 (by decide)]; exact e2
    · rw [hu 3 (by decide), r3.1 3 (by decide)]; exact e3
    · rw [hu 5 (by decide)]; exact q0
    · rw [hu 4 (by decide), r3.1 4 (by decide)]; exact e4
    · rw [hu (6 + c) (by omega), t2 c hc]; exact q1 c hc
    · rw [hu (21 + c) (by omega), t3 c hc]; exact q2 c hc
    · rw [hu 4 (by decide)] at hb2
      have hb3 := hb2
      rw [r3.1 4 (by decide)] at hb3
      have hb5 : b < 5 := by omega
      rw [hu _ (by omega), hu _ (by omega), hu _ (by omega), (r3.2 b hb5).1, (r3.2 b hb5).2, t4 b hb5]
      exact ⟨(hb b hb3).1, q3 b hb2, (hb b hb3).2.2⟩
    · obtain ⟨s1, s2, s3⟩ := hj (j + 1) (by omega)
      have sl2 : ((nx + 23) % 24 + 23 - j) % 24 = (nx + 23 - (j + 1)) % 24 := by omega
      have sw : a - 1 - 1 - j = a - 1 - (j + 1) := by omega
      rw [sl2, sw]
      exact ⟨s1, s2, rsame_tr s3 (rsame_tr (rsame_sy r3) (rsame_sy (rsame_cg hu ⟨fun _ _ => rfl, fun _ _ => ⟨rfl, rfl⟩⟩)))⟩

