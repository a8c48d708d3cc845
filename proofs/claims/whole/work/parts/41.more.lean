/-! images, when, stays -/
theorem become_X (sh so sk sp sm : Nat → Int32) {told low high price hour bidders : Int32} {heights holders kinds purses homes : Nat → Int32} (ht : told = 0 ∨ told = 1) :
    ∃ h2 o2 k2 p2 m2, fX3_become sh so sk sp sm told low high price hour bidders heights holders kinds purses homes = some (told, low, high, price, hour, bidders, h2, o2, k2, p2, m2) ∧ (∀ c : Nat, c < 15 → h2 c = heights c ∧ o2 c = holders c) ∧ ∀ b : Nat, b < 5 → k2 b = kinds b ∧ p2 b = purses b ∧ m2 b = homes b := by
  unfold fX3_become
  have z0 : (0 : Int32).toNatClampNeg = 0 := rfl
  have z5 : (5 : Int32).toNatClampNeg = 5 := rfl
  have z15 : (15 : Int32).toNatClampNeg = 15 := rfl
  have c15 : ¬ (0 : Int32) < 0 ∧ ¬ (0 : Int32) < 0 ∧ ¬ (15 : Int32) < 0 ∧ 0 + 15 ≤ 15 ∧ 0 + 15 ≤ 15 := by decide
  have c5 : ¬ (0 : Int32) < 0 ∧ ¬ (0 : Int32) < 0 ∧ ¬ (5 : Int32) < 0 ∧ 0 + 5 ≤ 5 ∧ 0 + 5 ≤ 5 := by decide
  rw [z0, z5, z15, chk_t ht, chk_t c15, chk_t c15, chk_t c5, chk_t c5, chk_t c5]
  refine ⟨_, _, _, _, _, rfl, fun c hc => ⟨?_, ?_⟩, fun b hb => ⟨?_, ?_, ?_⟩⟩ <;> (rw [pk_cpy_in (by omega) (by omega), Nat.sub_zero, Nat.zero_add])
theorem risle_cg {told low high price hour bidders : Int32} {heights holders kinds purses homes h2 o2 k2 p2 m2 w u : Nat → Int32} {B : Int} (hO : OkH B w) (hL : RIsle told low high price hour bidders heights holders kinds purses homes w) (h1 : ∀ c : Nat, c < 15 → h2 c = heights c ∧ o2 c = holders c) (h3 : ∀ b : Nat, b < 5 → k2 b = kinds b ∧ p2 b = purses b ∧ m2 b = homes b) (hu : ∀ i : Nat, i < 51 → u i = w i) : RIsle told low high price hour bidders h2 o2 k2 p2 m2 u := by
  obtain ⟨e0, e1, e2, e3, e5, e4, hh, ho, hb⟩ := hL
  have b5 := hO.2.1.2
  refine ⟨?_, ?_, ?_, ?_, ?_, ?_, fun c hc => ?_, fun c hc => ?_, fun b h => ?_⟩
  · rw [hu 0 (by decide)]; exact e0
  · rw [hu 1 (by decide)]; exact e1
  · rw [hu 2 (by decide)]; exact e2
  · rw [hu 3 (by decide)]; exact e3
  · rw [hu 5 (by decide)]; exact e5
  · rw [hu 4 (by decide)]; exact e4
  · rw [hu _ (by omega), (h1 c hc).1]; exact hh c hc
  · rw [hu _ (by omega), (h1 c hc).2]; exact ho c hc
  · rw [hu 4 (by decide)] at h
    obtain ⟨x, y, z⟩ := h3 b (by omega)
    rw [hu _ (by omega), hu _ (by omega), hu _ (by omega), x, y, z]; exact hb b h
theorem image_L (k : (Nat → Int32) → Option (Int32 × Int32 × (Nat → Int32) × (Nat → Int32))) (w kept : Nat → Int32) {a : Nat} (ha : a < 2) : ∃ t, fX9_image_L30 w (nI a) k FU 0 kept = k t ∧ ∀ x : Nat, t x = if 51 * a ≤ x ∧ x < 51 * a + 51 then w (x - 51 * a) else kept x := by
  have key := for_loop (fun n z i => fX9_image_L30 w (nI a) k n i z) 51 (fun i z => upd z (51 * a + i) (w i)) k (fun _ _ => True) (fun n j z hj hz => ⟨?_, trivial⟩) (fun n z _ => ?_) kept trivial FU (fu_big (by decide))
  · exact ⟨_, key.1, fun x => cfill _ _ _ 51 x⟩
  · show fX9_image_L30 w (nI a) k (n + 1) (nI j) z = _
    have e : 51 * nI a + nI j = nI (51 * a + j) := by rw [show (51 : Int32) = nI 51 from rfl, pk_mul, nI_add]
    rw [fX9_image_L30.eq_2, if_neg (show ¬ (51 : Int32) ≤ nI j from nI_ge hj (by decide)), e, chk_t (nI_in hj (by decide)), chk_t (nI_in (show 51 * a + j < 102 by omega) (by decide)), nI_clamp (by omega), nI_clamp (by omega), nI_succ]
  · show fX9_image_L30 w (nI a) k (n + 1) (nI 51) z = _
    rw [fX9_image_L30.eq_2, if_pos (by decide)]
theorem restore_L (k : (Nat → Int32) → Option (Int32 × Int32 × (Nat → Int32) × Int32)) (w kept : Nat → Int32) {a : Nat} (ha : a < 2) : ∃ t, fX9_restore_L32 kept (nI a) k FU 0 w = k t ∧ ∀ i : Nat, i < 51 → t i = kept (51 * a + i) := by
  have key := for_loop (fun n z i => fX9_restore_L32 kept (nI a) k n i z) 51 (fun i z => upd z (0 + i) ((fun q => kept (51 * a + q)) i)) k (fun _ _ => True) (fun n j z hj hz => ⟨?_, trivial⟩) (fun n z _ => ?_) w trivial FU (fu_big (by decide))
  · exact ⟨_, key.1, fun i hi => by rw [cfill, if_pos (by omega), Nat.sub_zero]⟩
  · show fX9_restore_L32 kept (nI a) k (n + 1) (nI j) z = _
    have e : 51 * nI a + nI j = nI (51 * a + j) := by rw [show (51 : Int32) = nI 51 from rfl, pk_mul, nI_add]
    rw [fX9_restore_L32.eq_2, if_neg (show ¬ (51 : Int32) ≤ nI j from nI_ge hj (by decide)), e, chk_t (nI_in (show 51 * a + j < 102 by omega) (by decide)), chk_t (nI_in hj (by decide)), nI_clamp (by omega), nI_clamp (by omega), nI_succ, Nat.zero_add]
  · show fX9_restore_L32 kept (nI a) k (n + 1) (nI 51) z = _
    rw [fX9_restore_L32.eq_2, if_pos (by decide)]
theorem rimg_other {told low high price hour bidders : Int32} {heights holders kinds purses homes isKept kept i2 kept2 : Nat → Int32} {k a : Nat} (hk : k < 2) (ha : a < 2) (hka : k ≠ a) (hI : RImg told low high price hour bidders heights holders kinds purses homes isKept kept k) (h1 : i2 k = isKept k) (h2 : ∀ x : Nat, ¬ (51 * a ≤ x ∧ x < 51 * a + 51) → kept2 x = kept x) : RImg told low high price hour bidders heights holders kinds purses homes i2 kept2 k := by
  obtain ⟨a1, a2, a3⟩ := hI
  unfold RImg
  rw [h1]
  refine ⟨a1, a2, fun q => ?_⟩
  obtain ⟨c1, c2⟩ := a3 q
  have hu : ∀ i : Nat, i < 51 → (fun i => kept2 (51 * k + i)) i = (fun i => kept (51 * k + i)) i := fun i hi => h2 _ (by omega)
  exact ⟨risle_cg c2 c1 (fun _ _ => ⟨rfl, rfl⟩) (fun _ _ => ⟨rfl, rfl, rfl⟩) hu, okH_cg hu c2⟩
theorem two_of {v : Int32} (h : rng ((1 : Nat) + 1) v) : v = 0 ∨ v = 1 := by
  obtain ⟨j, hj, e⟩ := rng_of (n := 2) h (by decide)
  rcases (show j = 0 ∨ j = 1 by omega) with rfl | rfl
  · exact Or.inl e
  · exact Or.inr e
theorem pu_image {s_finding : Int32} {rows_lanes : (Nat → Int32)} {rows_lengths : (Nat → Int32)} {rows_items : (Nat → Int32)} {tape_bytes : (Nat → Int32)} {tape_length : Int32} {tape_faultNumber : Int32} {land_told : Int32} {land_low : Int32} {land_high : Int32} {land_price : Int32} {land_hour : Int32} {land_bidders : Int32} {land_heights : (Nat → Int32)} {land_holders : (Nat → Int32)} {land_kinds : (Nat → Int32)} {land_purses : (Nat → Int32)} {land_homes : (Nat → Int32)} {firstImage_told : Int32} {firstImage_low : Int32} {firstImage_high : Int32} {firstImage_price : Int32} {firstImage_hour : Int32} {firstImage_bidders : Int32} {firstImage_heights : (Nat → Int32)} {firstImage_holders : (Nat → Int32)} {firstImage_kinds : (Nat → Int32)} {firstImage_purses : (Nat → Int32)} {firstImage_homes : (Nat → Int32)} {secondImage_told : Int32} {secondImage_low : Int32} {secondImage_high : Int32} {secondImage_price : Int32} {secondImage_hour : Int32} {secondImage_bidders : Int32} {secondImage_heights : (Nat → Int32)} {secondImage_holders : (Nat → Int32)} {secondImage_kinds : (Nat → Int32)} {secondImage_purses : (Nat → Int32)} {secondImage_homes : (Nat → Int32)} {acts_saved : (Nat → Int32)} {acts_next : Int32} {acts_kept : Int32} {asks_bodies : (Nat → Int32)} {asks_traced : Int32} {m_status : Int32} {m_lane : (Nat → Int32)} {m_many : (Nat → Int32)} {m_item : (Nat → Int32)} {m_isle : (Nat → Int32)} {m_was : (Nat → Int32)} {m_acts : Int32} {m_tape : (Nat → Int32)} {m_taped : Int32} {m_latest : Int32} {m_isKept : (Nat → Int32)} {m_kept : (Nat → Int32)} {m_trace : (Nat → Int32)} {m_traced : Int32} (hI : LInv s_finding rows_lanes rows_lengths rows_items tape_bytes tape_length tape_faultNumber land_told land_low land_high land_price land_hour land_bidders land_heights land_holders land_kinds land_purses land_homes firstImage_told firstImage_low firstImage_high firstImage_price firstImage_hour firstImage_bidders firstImage_heights firstImage_holders firstImage_kinds firstImage_purses firstImage_homes secondImage_told secondImage_low secondImage_high secondImage_price secondImage_hour secondImage_bidders secondImage_heights secondImage_holders secondImage_kinds secondImage_purses secondImage_homes acts_saved acts_next acts_kept asks_bodies asks_traced m_status m_lane m_many m_item m_isle m_was m_acts m_tape m_taped m_latest m_isKept m_kept m_trace m_traced) (v1 : Int32) : ∃ (r : Int32) (firstImage_told' : Int32) (firstImage_low' : Int32) (firstImage_high' : Int32) (firstImage_price' : Int32) (firstImage_hour' : Int32) (firstImage_bidders' : Int32) (firstImage_heights' : (Nat → Int32)) (firstImage_holders' : (Nat → Int32)) (firstImage_kinds' : (Nat → Int32)) (firstImage_purses' : (Nat → Int32)) (firstImage_homes' : (Nat → Int32)) (secondImage_told' : Int32) (secondImage_low' : Int32) (secondImage_high' : Int32) (secondImage_price' : Int32) (secondImage_hour' : Int32) (secondImage_bidders' : Int32) (secondImage_heights' : (Nat → Int32)) (secondImage_holders' : (Nat → Int32)) (secondImage_kinds' : (Nat → Int32)) (secondImage_purses' : (Nat → Int32)) (secondImage_homes' : (Nat → Int32)) (m_thrown' : Int32) (m_isKept' : (Nat → Int32)) (m_kept' : (Nat → Int32)), fX8_image land_told land_low land_high land_price land_hour land_bidders land_heights land_holders land_kinds land_purses land_homes firstImage_told firstImage_low firstImage_high firstImage_price firstImage_hour firstImage_bidders firstImage_heights firstImage_holders firstImage_kinds firstImage_purses firstImage_homes secondImage_told secondImage_low secondImage_high secondImage_price secondImage_hour secondImage_bidders secondImage_heights secondImage_holders secondImage_kinds secondImage_purses secondImage_homes v1 = some (r, firstImage_told', firstImage_low', firstImage_high', firstImage_price', firstImage_hour', firstImage_bidders', firstImage_heights', firstImage_holders', firstImage_kinds', firstImage_purses', firstImage_homes', secondImage_told', secondImage_low', secondImage_high', secondImage_price', secondImage_hour', secondImage_bidders', secondImage_heights', secondImage_holders', secondImage_kinds', secondImage_purses', secondImage_homes') ∧ fX9_image m_isle m_isKept m_kept v1 = some (r, m_thrown', m_isKept', m_kept') ∧ LInv s_finding rows_lanes rows_lengths rows_items tape_bytes tape_length tape_faultNumber land_told land_low land_high land_price land_hour land_bidders land_heights land_holders land_kinds land_purses land_homes firstImage_told' firstImage_low' firstImage_high' firstImage_price' firstImage_hour' firstImage_bidders' firstImage_heights' firstImage_holders' firstImage_kinds' firstImage_purses' firstImage_homes' secondImage_told' secondImage_low' secondImage_high' secondImage_price' secondImage_hour' secondImage_bidders' secondImage_heights' secondImage_holders' secondImage_kinds' secondImage_purses' secondImage_homes' acts_saved acts_next acts_kept asks_bodies asks_traced m_status m_lane m_many m_item m_isle m_was m_acts m_tape m_taped m_latest m_isKept' m_kept' m_trace m_traced := by
  obtain ⟨hst, hR, hT, hL, hO, hA, hI0, hI1, hTr⟩ := id hI
  unfold fX8_image fX9_image
  rw [e_choice, in_n (C := 1) v1 1 (by decide) rfl, there_M, show fX3_isTold land_told = some (bI (m_isle 0 = 1)) from by rw [hL.1]; exact told_X hO]
  simp only [bd1_some, if_bI]
  by_cases hv : rng ((1 : Nat) + 1) v1
  · rw [if_pos (show rng 2 v1 from hv), if_pos hv]
    by_cases hw : m_isle 0 = 1
    · rw [if_pos hw, if_pos hw]
      have ht : land_told = 0 ∨ land_told = 1 := Or.inr (hL.1.trans hw)
      rcases two_of hv with rfl | rfl
      · obtain ⟨h2, o2, k2, p2, m2, b1, b2, b3⟩ := become_X firstImage_heights firstImage_holders firstImage_kinds firstImage_purses firstImage_homes (low := land_low) (high := land_high) (price := land_price) (hour := land_hour) (bidders := land_bidders) (heights := land_heights) (holders := land_holders) (kinds := land_kinds) (purses := land_purses) (homes := land_homes) ht
        obtain ⟨t, l1, l2⟩ := image_L (fun s_kept_e59 => chk (¬ ((0 : Int32) < 0 ∨ 2 ≤ (0 : Int32).toNatClampNeg)) (some (1, 0, (upd m_isKept (0 : Int32).toNatClampNeg (vp_nar .boolean 1)), s_kept_e59))) m_isle m_kept (a := 0) (by decide)
        rw [if_pos rfl, b1]
        refine ⟨1, _, _, _, _, _, _, _, _, _, _, _, _, _, _, _, _, _, _, _, _, _, _, 0, upd m_isKept 0 1, t, rfl, l1, hst, hR, hT, hL, hO, hA, ?_, ?_, hTr⟩
        · have hu : ∀ i : Nat, i < 51 → (fun i => t (51 * 0 + i)) i = m_isle i := fun i hi => by
            show t (51 * 0 + i) = _
            rw [l2, if_pos (by omega)]; exact congrArg m_isle (by omega)
          refine ⟨Or.inr pk_us, by rw [pk_us]; exact hL.1.trans hw, fun _ => ⟨risle_cg hO hL b2 b3 hu, okH_cg hu hO⟩⟩
        · exact rimg_other (a := 0) (by decide) (by decide) (by decide) hI1 (pk_un (by decide)) (fun x hx => by rw [l2, if_neg hx])
      · obtain ⟨h2, o2, k2, p2, m2, b1, b2, b3⟩ := become_X secondImage_heights secondImage_holders secondImage_kinds secondImage_purses secondImage_homes (low := land_low) (high := land_high) (price := land_price) (hour := land_hour) (bidders := land_bidders) (heights := land_heights) (holders := land_holders) (kinds := land_kinds) (purses := land_purses) (homes := land_homes) ht
        obtain ⟨t, l1, l2⟩ := image_L (fun s_kept_e59 => chk (¬ ((1 : Int32) < 0 ∨ 2 ≤ (1 : Int32).toNatClampNeg)) (some (1, 0, (upd m_isKept (1 : Int32).toNatClampNeg (vp_nar .boolean 1)), s_kept_e59))) m_isle m_kept (a := 1) (by decide)
        rw [if_neg (by decide), b1]
        refine ⟨1, _, _, _, _, _, _, _, _, _, _, _, _, _, _, _, _, _, _, _, _, _, _, 0, upd m_isKept 1 1, t, rfl, l1, hst, hR, hT, hL, hO, hA, ?_, ?_, hTr⟩
        · exact rimg_other (a := 1) (by decide) (by decide) (by decide) hI0 (pk_un (by decide)) (fun x hx => by rw [l2, if_neg hx])
        · have hu : ∀ i : Nat, i < 51 → (fun i => t (51 * 1 + i)) i = m_isle i := fun i hi => by
            show t (51 * 1 + i) = _
            rw [l2, if_pos (by omega)]; exact congrArg m_isle (by omega)
          refine ⟨Or.inr pk_us, by rw [pk_us]; exact hL.1.trans hw, fun _ => ⟨risle_cg hO hL b2 b3 hu, okH_cg hu hO⟩⟩
    · rw [if_neg hw, if_neg hw]
      exact ⟨-1000002, _, _, _, _, _, _, _, _, _, _, _, _, _, _, _, _, _, _, _, _, _, _, _, _, _, rfl, rfl, hI⟩
  · rw [if_neg (show ¬ rng 2 v1 from hv), if_neg hv]
    exact ⟨-1000001, _, _, _, _, _, _, _, _, _, _, _, _, _, _, _, _, _, _, _, _, _, _, _, _, _, rfl, rfl, hI⟩
theorem racts_0 (saved was w : Nat → Int32) {nx : Nat} (h : nx < 24) : RActs saved (nI nx) 0 was 0 w := ⟨0, nx, by omega, h, rfl, rfl, rfl, fun j hj => absurd hj (Nat.not_lt_zero j)⟩
theorem pu_restore {s_finding : Int32} {rows_lanes : (Nat → Int32)} {rows_lengths : (Nat → Int32)} {rows_items : (Nat → Int32)} {tape_bytes : (Nat → Int32)} {tape_length : Int32} {tape_faultNumber : Int32} {land_told : Int32} {land_low : Int32} {land_high : Int32} {land_price : Int32} {land_hour : Int32} {land_bidders : Int32} {land_heights : (Nat → Int32)} {land_holders : (Nat → Int32)} {land_kinds : (Nat → Int32)} {land_purses : (Nat → Int32)} {land_homes : (Nat → Int32)} {firstImage_told : Int32} {firstImage_low : Int32} {firstImage_high : Int32} {firstImage_price : Int32} {firstImage_hour : Int32} {firstImage_bidders : Int32} {firstImage_heights : (Nat → Int32)} {firstImage_holders : (Nat → Int32)} {firstImage_kinds : (Nat → Int32)} {firstImage_purses : (Nat → Int32)} {firstImage_homes : (Nat → Int32)} {secondImage_told : Int32} {secondImage_low : Int32} {secondImage_high : Int32} {secondImage_price : Int32} {secondImage_hour : Int32} {secondImage_bidders : Int32} {secondImage_heights : (Nat → Int32)} {secondImage_holders : (Nat → Int32)} {secondImage_kinds : (Nat → Int32)} {secondImage_purses : (Nat → Int32)} {secondImage_homes : (Nat → Int32)} {acts_saved : (Nat → Int32)} {acts_next : Int32} {acts_kept : Int32} {asks_bodies : (Nat → Int32)} {asks_traced : Int32} {m_status : Int32} {m_lane : (Nat → Int32)} {m_many : (Nat → Int32)} {m_item : (Nat → Int32)} {m_isle : (Nat → Int32)} {m_was : (Nat → Int32)} {m_acts : Int32} {m_tape : (Nat → Int32)} {m_taped : Int32} {m_latest : Int32} {m_isKept : (Nat → Int32)} {m_kept : (Nat → Int32)} {m_trace : (Nat → Int32)} {m_traced : Int32} (hI : LInv s_finding rows_lanes rows_lengths rows_items tape_bytes tape_length tape_faultNumber land_told land_low land_high land_price land_hour land_bidders land_heights land_holders land_kinds land_purses land_homes firstImage_told firstImage_low firstImage_high firstImage_price firstImage_hour firstImage_bidders firstImage_heights firstImage_holders firstImage_kinds firstImage_purses firstImage_homes secondImage_told secondImage_low secondImage_high secondImage_price secondImage_hour secondImage_bidders secondImage_heights secondImage_holders secondImage_kinds secondImage_purses secondImage_homes acts_saved acts_next acts_kept asks_bodies asks_traced m_status m_lane m_many m_item m_isle m_was m_acts m_tape m_taped m_latest m_isKept m_kept m_trace m_traced) (v1 : Int32) : ∃ (r : Int32) (land_told' : Int32) (land_low' : Int32) (land_high' : Int32) (land_price' : Int32) (land_hour' : Int32) (land_bidders' : Int32) (land_heights' : (Nat → Int32)) (land_holders' : (Nat → Int32)) (land_kinds' : (Nat → Int32)) (land_purses' : (Nat → Int32)) (land_homes' : (Nat → Int32)) (acts_kept' : Int32) (m_thrown' : Int32) (m_isle' : (Nat → Int32)) (m_acts' : Int32), fX8_restore land_told land_low land_high land_price land_hour land_bidders land_heights land_holders land_kinds land_purses land_homes firstImage_told firstImage_low firstImage_high firstImage_price firstImage_hour firstImage_bidders firstImage_heights firstImage_holders firstImage_kinds firstImage_purses firstImage_homes secondImage_told secondImage_low secondImage_high secondImage_price secondImage_hour secondImage_bidders secondImage_heights secondImage_holders secondImage_kinds secondImage_purses secondImage_homes acts_kept v1 = some (r, land_told', land_low', land_high', land_price', land_hour', land_bidders', land_heights', land_holders', land_kinds', land_purses', land_homes', acts_kept') ∧ fX9_restore m_isle m_acts m_isKept m_kept v1 = some (r, m_thrown', m_isle', m_acts') ∧ LInv s_finding rows_lanes rows_lengths rows_items tape_bytes tape_length tape_faultNumber land_told' land_low' land_high' land_price' land_hour' land_bidders' land_heights' land_holders' land_kinds' land_purses' land_homes' firstImage_told firstImage_low firstImage_high firstImage_price firstImage_hour firstImage_bidders firstImage_heights firstImage_holders firstImage_kinds firstImage_purses firstImage_homes secondImage_told secondImage_low secondImage_high secondImage_price secondImage_hour secondImage_bidders secondImage_heights secondImage_holders secondImage_kinds secondImage_purses secondImage_homes acts_saved acts_next acts_kept' asks_bodies asks_traced m_status m_lane m_many m_item m_isle' m_was m_acts' m_tape m_taped m_latest m_isKept m_kept m_trace m_traced := by
  obtain ⟨hst, hR, hT, hL, hO, hA, hI0, hI1, hTr⟩ := id hI
  suffices H : ∃ r told low high price hour bidders heights holders kinds purses homes kp th w' ac, fX8_restore land_told land_low land_high land_price land_hour land_bidders land_heights land_holders land_kinds land_purses land_homes firstImage_told firstImage_low firstImage_high firstImage_price firstImage_hour firstImage_bidders firstImage_heights firstImage_holders firstImage_kinds firstImage_purses firstImage_homes secondImage_told secondImage_low secondImage_high secondImage_price secondImage_hour secondImage_bidders secondImage_heights secondImage_holders secondImage_kinds secondImage_purses secondImage_homes acts_kept v1 = some (r, told, low, high, price, hour, bidders, heights, holders, kinds, purses, homes, kp) ∧ fX9_restore m_isle m_acts m_isKept m_kept v1 = some (r, th, w', ac) ∧ RIsle told low high price hour bidders heights holders kinds purses homes w' ∧ OkI w' ∧ RActs acts_saved acts_next kp m_was ac w' by
    obtain ⟨r, a1, a2, a3, a4, a5, a6, a7, a8, a9, a10, a11, a12, th, w', ac, a, b, c, d, e⟩ := H
    exact ⟨r, a1, a2, a3, a4, a5, a6, a7, a8, a9, a10, a11, a12, th, w', ac, a, b, hst, hR, hT, c, d, e, hI0, hI1, hTr⟩
  obtain ⟨a, nx, ha, hnx, k1, k2, k3, hj⟩ := id hA
  unfold fX8_restore fX9_restore
  rw [e_choice, in_n (C := 1) v1 1 (by decide) rfl]
  simp only [bd1_some, if_bI]
  by_cases hv : rng ((1 : Nat) + 1) v1
  · rw [if_pos (show rng 2 v1 from hv), if_pos hv]
    rcases two_of hv with rfl | rfl
    · obtain ⟨i1, i2, i3⟩ := hI0
      rw [if_pos rfl, show (0 : Int32).toNatClampNeg = 0 from rfl, chk_t (by decide)]
      unfold fX3_isTold
      rw [chk_t (by rw [i2]; exact i1), bd1_some, i2]
      by_cases q : m_isKept 0 = 0
      · rw [if_pos q, if_pos q]
        exact ⟨_, _, _, _, _, _, _, _, _, _, _, _, _, _, _, _, rfl, rfl, hL, hO, hA⟩
      · have q1 : m_isKept 0 = 1 := i1.resolve_left q
        obtain ⟨c1, c2⟩ := i3 q1
        obtain ⟨h2, o2, kk2, p2, m2, b1, b2, b3⟩ := become_X land_heights land_holders land_kinds land_purses land_homes (told := m_isKept 0) (low := firstImage_low) (high := firstImage_high) (price := firstImage_price) (hour := firstImage_hour) (bidders := firstImage_bidders) (heights := firstImage_heights) (holders := firstImage_holders) (kinds := firstImage_kinds) (purses := firstImage_purses) (homes := firstImage_homes) i1
        obtain ⟨t, l1, l2⟩ := restore_L (fun s_isle_e61 => some (1, 0, s_isle_e61, 0)) m_isle m_kept (a := 0) (by decide)
        rw [if_neg q, if_neg q, b1]
        have hL2 : RIsle (m_isKept 0) firstImage_low firstImage_high firstImage_price firstImage_hour firstImage_bidders firstImage_heights firstImage_holders firstImage_kinds firstImage_purses firstImage_homes (fun i => m_kept (51 * 0 + i)) := by rw [← i2]; exact c1
        refine ⟨1, _, _, _, _, _, _, _, _, _, _, _, 0, 0, t, 0, rfl, l1, risle_cg c2 hL2 b2 b3 l2, okH_cg l2 c2, by rw [k3]; exact racts_0 _ _ _ hnx⟩
    · obtain ⟨i1, i2, i3⟩ := hI1
      rw [if_neg (by decide), show (1 : Int32).toNatClampNeg = 1 from rfl, chk_t (by decide)]
      unfold fX3_isTold
      rw [chk_t (by rw [i2]; exact i1), bd1_some, i2]
      by_cases q : m_isKept 1 = 0
      · rw [if_pos q, if_pos q]
        exact ⟨_, _, _, _, _, _, _, _, _, _, _, _, _, _, _, _, rfl, rfl, hL, hO, hA⟩
      · have q1 : m_isKept 1 = 1 := i1.resolve_left q
        obtain ⟨c1, c2⟩ := i3 q1
        obtain ⟨h2, o2, kk2, p2, m2, b1, b2, b3⟩ := become_X land_heights land_holders land_kinds land_purses land_homes (told := m_isKept 1) (low := secondImage_low) (high := secondImage_high) (price := secondImage_price) (hour := secondImage_hour) (bidders := secondImage_bidders) (heights := secondImage_heights) (holders := secondImage_holders) (kinds := secondImage_kinds) (purses := secondImage_purses) (homes := secondImage_homes) i1
        obtain ⟨t, l1, l2⟩ := restore_L (fun s_isle_e61 => some (1, 0, s_isle_e61, 0)) m_isle m_kept (a := 1) (by decide)
        rw [if_neg q, if_neg q, b1]
        have hL2 : RIsle (m_isKept 1) secondImage_low secondImage_high secondImage_price secondImage_hour secondImage_bidders secondImage_heights secondImage_holders secondImage_kinds secondImage_purses secondImage_homes (fun i => m_kept (51 * 1 + i)) := by rw [← i2]; exact c1
        refine ⟨1, _, _, _, _, _, _, _, _, _, _, _, 0, 0, t, 0, rfl, l1, risle_cg c2 hL2 b2 b3 l2, okH_cg l2 c2, by rw [k3]; exact racts_0 _ _ _ hnx⟩
  · rw [if_neg (show ¬ rng 2 v1 from hv), if_neg hv]
    exact ⟨_, _, _, _, _, _, _, _, _, _, _, _, _, _, _, _, rfl, rfl, hL, hO, hA⟩

