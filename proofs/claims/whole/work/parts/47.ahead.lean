/-! the dry behind, cuts, the way home -/
theorem dryB_X {B : Int} {w heights : Nat → Int32} (hO : OkH B w) (hh : ∀ c : Nat, c < 15 → heights c = w (6 + c)) {v : Int32} {n : Nat} (hn : n < 2 ^ 31) (hv : w 5 + v = nI n) : fX3_dryBehind (w 1) (w 2) (w 5) heights v = some (orb (sDry w (w 5 + v)) 15) := by
  unfold fX3_dryBehind
  rw [lev_X, bd1_some, below_X, bd1_some, orb_not]
  refine congrArg some (orb_cg fun c hc => ?_)
  show (!(!decide (sLev w (w 5 + v) + 1 ≤ heights c))) = decide (sLev w (w 5 + v) < w (6 + c))
  obtain ⟨l, hl, el⟩ := lev_nat hO hn
  rw [hv, el, nI_1, Bool.not_not, hh c hc]
  refine decide_eq_decide.mpr ?_
  rw [Int32.le_iff_toInt_le, Int32.lt_iff_toInt_lt, nI_toInt (by omega), nI_toInt (by omega)]
  omega
theorem dryH_M {w t : Nat → Int32} {v : Int32} (h5 : t 5 = w 5 + v) (ht : ∀ i : Nat, i < 51 → i ≠ 5 → t i = w i) : fX9_dryOf t = some (orb (sDry w (w 5 + v)) 15) := by
  rw [dryOf_M, h5]
  exact congrArg some (orb_cg fun c hc => sDry_cg (ht 1 (by decide) (by decide)) (ht 2 (by decide) (by decide)) (ht _ (by omega) (by omega)) _)
theorem pu_ahead {s_finding : Int32} {rows_lanes : (Nat → Int32)} {rows_lengths : (Nat → Int32)} {rows_items : (Nat → Int32)} {tape_bytes : (Nat → Int32)} {tape_length : Int32} {tape_faultNumber : Int32} {land_told : Int32} {land_low : Int32} {land_high : Int32} {land_price : Int32} {land_hour : Int32} {land_bidders : Int32} {land_heights : (Nat → Int32)} {land_holders : (Nat → Int32)} {land_kinds : (Nat → Int32)} {land_purses : (Nat → Int32)} {land_homes : (Nat → Int32)} {firstImage_told : Int32} {firstImage_low : Int32} {firstImage_high : Int32} {firstImage_price : Int32} {firstImage_hour : Int32} {firstImage_bidders : Int32} {firstImage_heights : (Nat → Int32)} {firstImage_holders : (Nat → Int32)} {firstImage_kinds : (Nat → Int32)} {firstImage_purses : (Nat → Int32)} {firstImage_homes : (Nat → Int32)} {secondImage_told : Int32} {secondImage_low : Int32} {secondImage_high : Int32} {secondImage_price : Int32} {secondImage_hour : Int32} {secondImage_bidders : Int32} {secondImage_heights : (Nat → Int32)} {secondImage_holders : (Nat → Int32)} {secondImage_kinds : (Nat → Int32)} {secondImage_purses : (Nat → Int32)} {secondImage_homes : (Nat → Int32)} {acts_saved : (Nat → Int32)} {acts_next : Int32} {acts_kept : Int32} {asks_bodies : (Nat → Int32)} {asks_traced : Int32} {m_status : Int32} {m_lane : (Nat → Int32)} {m_many : (Nat → Int32)} {m_item : (Nat → Int32)} {m_isle : (Nat → Int32)} {m_then : (Nat → Int32)} {m_was : (Nat → Int32)} {m_acts : Int32} {m_tape : (Nat → Int32)} {m_taped : Int32} {m_latest : Int32} {m_isKept : (Nat → Int32)} {m_kept : (Nat → Int32)} {m_trace : (Nat → Int32)} {m_traced : Int32} (hI : LInv s_finding rows_lanes rows_lengths rows_items tape_bytes tape_length tape_faultNumber land_told land_low land_high land_price land_hour land_bidders land_heights land_holders land_kinds land_purses land_homes firstImage_told firstImage_low firstImage_high firstImage_price firstImage_hour firstImage_bidders firstImage_heights firstImage_holders firstImage_kinds firstImage_purses firstImage_homes secondImage_told secondImage_low secondImage_high secondImage_price secondImage_hour secondImage_bidders secondImage_heights secondImage_holders secondImage_kinds secondImage_purses secondImage_homes acts_saved acts_next acts_kept asks_bodies asks_traced m_status m_lane m_many m_item m_isle m_was m_acts m_tape m_taped m_latest m_isKept m_kept m_trace m_traced) (v1 : Int32) (v2 : Int32) : ∃ (r : Int32) (m_thrown' : Int32) (m_then' : (Nat → Int32)), fX8_ahead land_told land_low land_high land_hour land_heights v1 v2 = some (r) ∧ fX9_ahead m_isle m_then v1 v2 = some (r, m_thrown', m_then') ∧ LInv s_finding rows_lanes rows_lengths rows_items tape_bytes tape_length tape_faultNumber land_told land_low land_high land_price land_hour land_bidders land_heights land_holders land_kinds land_purses land_homes firstImage_told firstImage_low firstImage_high firstImage_price firstImage_hour firstImage_bidders firstImage_heights firstImage_holders firstImage_kinds firstImage_purses firstImage_homes secondImage_told secondImage_low secondImage_high secondImage_price secondImage_hour secondImage_bidders secondImage_heights secondImage_holders secondImage_kinds secondImage_purses secondImage_homes acts_saved acts_next acts_kept asks_bodies asks_traced m_status m_lane m_many m_item m_isle m_was m_acts m_tape m_taped m_latest m_isKept m_kept m_trace m_traced := by
  obtain ⟨hst, hR, hT, hL, hO, hrest⟩ := id hI
  refine ex_and3 ?_ hI
  obtain ⟨e0, e1, e2, e3, e5, e4, hh, ho, hb⟩ := hL
  unfold fX8_ahead fX9_ahead
  rw [e0, told_X hO, there_M, in_n (C := 60) v1 60 (by decide) rfl, in_n (C := 2) v2 2 (by decide) rfl]
  simp only [bd1_some, if_bI]
  by_cases hw : m_isle 0 = 1
  rotate_left 1
  · rw [if_neg hw, if_neg hw]
    exact ⟨_, _, _, rfl, rfl⟩
  rw [if_pos hw, if_pos hw]
  by_cases h1 : rng ((60 : Nat) + 1) v1
  rotate_left 1
  · rw [if_neg h1]
    refine ⟨-1000001, 0, m_then, ?_, rfl⟩
    by_cases q : v1 < 0
    · rw [if_pos q]
    · rw [if_neg q, if_neg]
      intro q2
      rw [lt0_iff] at q
      rw [Int32.le_iff_toInt_le, show (60 : Int32).toInt = 60 from rfl] at q2
      apply h1
      unfold rng
      omega
  obtain ⟨n, hn, en⟩ := rng_of (n := 61) h1 (by decide)
  obtain ⟨t, t1, t5, ti⟩ := layHour_M m_isle m_then v1
  obtain ⟨h, hh9, eh⟩ := hour_nat (B := 999) hO (by decide)
  have hv : m_isle 5 + v1 = nI (h + n) := by rw [eh, en, nI_add]
  have hd := dryB_X hO hh (v := v1) (n := h + n) (by omega) hv
  have hm := dryH_M t5 ti
  have hl : sLev t (m_isle 5 + v1) = sLev m_isle (m_isle 5 + v1) := sLev_cg (ti 1 (by decide) (by decide)) (ti 2 (by decide) (by decide)) _
  rw [if_neg (show ¬ v1 < 0 by rw [en]; exact nI_pos (by omega)), if_pos (show v1 ≤ 60 by rw [en]; exact nI_le (show n ≤ 60 by omega) (by decide)), if_pos h1, e1, e2, e5, t1, bd1_some, hm, bd1_some]
  by_cases h2 : rng ((2 : Nat) + 1) v2
  rotate_left 1
  · rw [if_neg h2, if_neg (fun e => h2 (by rw [e]; exact ⟨by decide, by decide⟩)), if_neg (fun e => h2 (by rw [e]; exact ⟨by decide, by decide⟩)), if_neg (fun e => h2 (by rw [e]; exact ⟨by decide, by decide⟩))]
    exact ⟨_, _, _, rfl, rfl⟩
  obtain ⟨q, hq, eq⟩ := rng_of (n := 3) h2 (by decide)
  rw [if_pos h2]
  rcases (show q = 0 ∨ q = 1 ∨ q = 2 by omega) with rfl | rfl | rfl
  · rw [eq, if_pos (show nI 0 = 0 from rfl), if_pos (show nI 0 = 0 from rfl), lev_X, bd1_some, show (5 : Int32).toNatClampNeg = 5 from rfl, t5, lev_M, bd1_some, hl]
    exact ⟨_, _, _, rfl, rfl⟩
  · rw [eq, if_neg (show ¬ nI 1 = 0 by decide), if_neg (show ¬ nI 1 = 0 by decide), if_pos (show nI 1 = 1 from rfl), if_pos (show nI 1 = 1 from rfl), hd, bd1_some]
    exact ⟨_, _, _, rfl, rfl⟩
  · obtain ⟨r, r1, r2⟩ := parts_both (s15_orb (sDry m_isle (m_isle 5 + v1)))
    rw [eq, if_neg (show ¬ nI 2 = 0 by decide), if_neg (show ¬ nI 2 = 0 by decide), if_neg (show ¬ nI 2 = 1 by decide), if_neg (show ¬ nI 2 = 1 by decide), if_pos (show nI 2 = 2 from rfl), hd, bd1_some, r1, r2, bd1_some, bd1_some]
    exact ⟨_, _, _, rfl, rfl⟩
def pt (v : Int32) : Int32 := (fX9_partsOf v).getD 0
theorem pt_e {v : Int32} (hv : Set15 v) : fX6_parts v = some (pt v) ∧ fX9_partsOf v = some (pt v) := by
  obtain ⟨r, a, b⟩ := parts_both hv
  unfold pt
  rw [b]
  exact ⟨a, rfl⟩
theorem cut_none {v : Int32} {c : Nat} (hc : c < 15) (h : bt v c = false) : v &&& ((1 <<< (nI c &&& 31)) ^^^ (-1)) = v := by
  apply b_ext
  intro i hi
  rw [b_and, bt_not hi, bt_one (by omega) hi]
  by_cases e : i = c
  · rw [e, h, Bool.false_and]
  · rw [decide_eq_false e]; simp
theorem cutting_X {v : Int32} (hv : Set15 v) : fX6_cutting v = some (orb (fun c => !decide (pt (v &&& ((1 <<< (nI c &&& 31)) ^^^ (-1))) ≤ pt v)) 15) := by
  unfold fX6_cutting
  rw [(pt_e hv).1, bd1_some]
  refine or_loop (fun m a i => fX6_cutting_L9 v (pt v) m a i) 15 (fun c => !decide (pt (v &&& ((1 <<< (nI c &&& 31)) ^^^ (-1))) ≤ pt v)) (fun a => some a) (fun n k a hk => ?_) (fun n a => ?_) FU (fu_big (by decide))
  · show fX6_cutting_L9 v (pt v) (n + 1) a (nI k) = fX6_cutting_L9 v (pt v) n (if (!decide (pt (v &&& ((1 <<< (nI k &&& 31)) ^^^ (-1))) ≤ pt v)) = true then a ||| (1 <<< (nI k &&& 31)) else a) (nI (k + 1))
    rw [fX6_cutting_L9.eq_2, if_neg (le15 hk), (pt_e (s15_and hv _)).1, bd1_some, nI_succ]
    by_cases h : pt (v &&& ((1 <<< (nI k &&& 31)) ^^^ (-1))) ≤ pt v
    · rw [if_pos h, if_neg (by rw [decide_eq_true h]; decide)]
    · rw [if_neg h, if_pos (by rw [decide_eq_false h]; decide)]
  · show fX6_cutting_L9 v (pt v) (n + 1) a (nI 15) = _
    rw [fX6_cutting_L9.eq_2, if_pos ge15]
theorem cutting_M {v : Int32} (hv : Set15 v) : fX9_cuts_L27 v FU 0 0 = some (orb (fun c => !decide (pt (v &&& ((1 <<< (nI c &&& 31)) ^^^ (-1))) ≤ pt v)) 15, 0) := by
  have e : orb (fun c => !decide (pt (v &&& ((1 <<< (nI c &&& 31)) ^^^ (-1))) ≤ pt v)) 15 = orb (fun c => bt v c && !decide (pt (v &&& ((1 <<< (nI c &&& 31)) ^^^ (-1))) ≤ pt v)) 15 := orb_cg fun c hc => by
    cases h : bt v c with
    | true => simp
    | false =>
      rw [cut_none hc h]
      have : pt v ≤ pt v := by rw [Int32.le_iff_toInt_le]; exact Int.le_refl _
      simp [this]
  rw [e]
  refine or_loop (fun m a i => fX9_cuts_L27 v m a i) 15 (fun c => bt v c && !decide (pt (v &&& ((1 <<< (nI c &&& 31)) ^^^ (-1))) ≤ pt v)) (fun a => some (a, 0)) (fun n k a hk => ?_) (fun n a => ?_) FU (fu_big (by decide))
  · show fX9_cuts_L27 v (n + 1) a (nI k) = fX9_cuts_L27 v n (if (bt v k && !decide (pt (v &&& ((1 <<< (nI k &&& 31)) ^^^ (-1))) ≤ pt v)) = true then a ||| (1 <<< (nI k &&& 31)) else a) (nI (k + 1))
    rw [fX9_cuts_L27.eq_2, if_neg (le15 hk), nI_succ]
    unfold fX9_cuts_J64
    rw [if_pos rfl, if_neg n10, or0]
    by_cases hb : bt v k = true
    · rw [if_pos ((shr_bit v (by omega)).mpr hb), (pt_e (s15_and hv _)).2, bd1_some, (pt_e hv).2, bd1_some, hb, Bool.true_and]
      by_cases h : pt (v &&& ((1 <<< (nI k &&& 31)) ^^^ (-1))) ≤ pt v
      · rw [if_pos h, if_neg (by rw [decide_eq_true h]; decide)]
      · rw [if_neg h, if_pos (by rw [decide_eq_false h]; decide)]
    · rw [if_neg (fun q => hb ((shr_bit v (by omega)).mp q)), Bool.eq_false_iff.mpr hb, Bool.false_and, if_neg (by decide)]
  · show fX9_cuts_L27 v (n + 1) a (nI 15) = _
    rw [fX9_cuts_L27.eq_2, if_pos ge15]
theorem pu_cuts {s_finding : Int32} {rows_lanes : (Nat → Int32)} {rows_lengths : (Nat → Int32)} {rows_items : (Nat → Int32)} {tape_bytes : (Nat → Int32)} {tape_length : Int32} {tape_faultNumber : Int32} {land_told : Int32} {land_low : Int32} {land_high : Int32} {land_price : Int32} {land_hour : Int32} {land_bidders : Int32} {land_heights : (Nat → Int32)} {land_holders : (Nat → Int32)} {land_kinds : (Nat → Int32)} {land_purses : (Nat → Int32)} {land_homes : (Nat → Int32)} {firstImage_told : Int32} {firstImage_low : Int32} {firstImage_high : Int32} {firstImage_price : Int32} {firstImage_hour : Int32} {firstImage_bidders : Int32} {firstImage_heights : (Nat → Int32)} {firstImage_holders : (Nat → Int32)} {firstImage_kinds : (Nat → Int32)} {firstImage_purses : (Nat → Int32)} {firstImage_homes : (Nat → Int32)} {secondImage_told : Int32} {secondImage_low : Int32} {secondImage_high : Int32} {secondImage_price : Int32} {secondImage_hour : Int32} {secondImage_bidders : Int32} {secondImage_heights : (Nat → Int32)} {secondImage_holders : (Nat → Int32)} {secondImage_kinds : (Nat → Int32)} {secondImage_purses : (Nat → Int32)} {secondImage_homes : (Nat → Int32)} {acts_saved : (Nat → Int32)} {acts_next : Int32} {acts_kept : Int32} {asks_bodies : (Nat → Int32)} {asks_traced : Int32} {m_status : Int32} {m_lane : (Nat → Int32)} {m_many : (Nat → Int32)} {m_item : (Nat → Int32)} {m_isle : (Nat → Int32)} {m_was : (Nat → Int32)} {m_acts : Int32} {m_tape : (Nat → Int32)} {m_taped : Int32} {m_latest : Int32} {m_isKept : (Nat → Int32)} {m_kept : (Nat → Int32)} {m_trace : (Nat → Int32)} {m_traced : Int32} (hI : LInv s_finding rows_lanes rows_lengths rows_items tape_bytes tape_length tape_faultNumber land_told land_low land_high land_price land_hour land_bidders land_heights land_holders land_kinds land_purses land_homes firstImage_told firstImage_low firstImage_high firstImage_price firstImage_hour firstImage_bidders firstImage_heights firstImage_holders firstImage_kinds firstImage_purses firstImage_homes secondImage_told secondImage_low secondImage_high secondImage_price secondImage_hour secondImage_bidders secondImage_heights secondImage_holders secondImage_kinds secondImage_purses secondImage_homes acts_saved acts_next acts_kept asks_bodies asks_traced m_status m_lane m_many m_item m_isle m_was m_acts m_tape m_taped m_latest m_isKept m_kept m_trace m_traced) : ∃ (r : Int32) (m_thrown' : Int32), fX8_cuts land_told land_low land_high land_hour land_heights = some (r) ∧ fX9_cuts m_isle = some (r, m_thrown') ∧ LInv s_finding rows_lanes rows_lengths rows_items tape_bytes tape_length tape_faultNumber land_told land_low land_high land_price land_hour land_bidders land_heights land_holders land_kinds land_purses land_homes firstImage_told firstImage_low firstImage_high firstImage_price firstImage_hour firstImage_bidders firstImage_heights firstImage_holders firstImage_kinds firstImage_purses firstImage_homes secondImage_told secondImage_low secondImage_high secondImage_price secondImage_hour secondImage_bidders secondImage_heights secondImage_holders secondImage_kinds secondImage_purses secondImage_homes acts_saved acts_next acts_kept asks_bodies asks_traced m_status m_lane m_many m_item m_isle m_was m_acts m_tape m_taped m_latest m_isKept m_kept m_trace m_traced := by
  obtain ⟨hst, hR, hT, hL, hO, hrest⟩ := id hI
  refine ex_and2 ?_ hI
  obtain ⟨e0, e1, e2, e3, e5, e4, hh, ho, hb⟩ := hL
  unfold fX8_cuts fX9_cuts
  rw [e0, told_X hO, there_M]
  simp only [bd1_some, if_bI]
  by_cases hw : m_isle 0 = 1
  · obtain ⟨h, hh9, eh⟩ := hour_nat (B := 999) hO (by decide)
    rw [if_pos hw, if_pos hw, e1, e2, e5, dryB_X hO hh (v := 0) (n := h) (by omega) (by rw [add0, eh]), bd1_some, dryOf_M, bd1_some, add0, cutting_X (s15_orb _), bd1_some, cutting_M (s15_orb _)]
    exact ⟨_, _, rfl, rfl⟩
  · rw [if_neg hw, if_neg hw]
    exact ⟨_, _, rfl, rfl⟩
theorem way_eq (a d h o : Int32) (hd : Set15 d) : (a &&& ((32767 &&& (h ^^^ (-1))) ||| o)) &&& d = (a &&& d) &&& ((h &&& (o ^^^ (-1))) ^^^ (-1)) := by
  apply b_ext
  intro i hi
  rw [b_and, b_and, b_or, b_and, bt_all i hi, bt_not hi, b_and, b_and, bt_not hi, b_and, bt_not hi]
  by_cases h5 : i < 15
  · rw [decide_eq_true h5]
    cases bt a i <;> cases bt d i <;> cases bt h i <;> cases bt o i <;> rfl
  · rw [hd i hi (by omega)]
    simp
theorem home_both {w heights homes : Nat → Int32} {j p : Nat} (hO : OkI w) (hj : j < 5) (hh : ∀ c : Nat, c < 15 → heights c = w (6 + c)) (hp : p < 15) (ep : w (38 + 3 * j) = nI p) (eh : homes j = nI p) (r5 r6 : Int32) : ∀ (i k : Nat) (S : Int32) (n n' : Nat) (th : Nat → Int32), k + i = 25 → Set15 S → i < n → i < n' →
    (∃ q t, q ≤ 24 ∧ fX3_hoursToHome_L35 (w 1) (w 2) (w 5) heights homes (nI j) r5 r6 n S (nI k) = some (nI q) ∧ fX9_home_L50 w (nI j) r5 r6 n' S (nI k) th = some (nI q, 0, t)) ∨ (∃ t, fX3_hoursToHome_L35 (w 1) (w 2) (w 5) heights homes (nI j) r5 r6 n S (nI k) = some (-1) ∧ fX9_home_L50 w (nI j) r5 r6 n' S (nI k) th = some (-1000000, 0, t))
  | i, k, S, n, n', th, hk, hS, hn, hn' => by
    obtain ⟨m, rfl⟩ : ∃ m, n = m + 1 := ⟨n - 1, by omega⟩
    obtain ⟨m', rfl⟩ : ∃ m, n' = m + 1 := ⟨n' - 1, by omega⟩
    rw [fX3_hoursToHome_L35.eq_2, fX9_home_L50.eq_2]
    match i, hk, hn, hn' with
    | 0, hk, hn, hn' =>
      refine Or.inr ⟨th, ?_, ?_⟩
      · rw [if_pos (show (24 : Int32) < nI k from nI_lt (show 24 < k by omega) (by omega))]
      · rw [if_pos (show (25 : Int32) ≤ nI k from nI_le (show 25 ≤ k by omega) (by omega))]
    | i + 1, hk, hn, hn' =>
      rw [if_neg (show ¬ (24 : Int32) < nI k from nI_nlt (show k ≤ 24 by omega) (by decide)), if_neg (show ¬ (25 : Int32) ≤ nI k from nI_ge (show k < 25 by omega) (by decide)), e_of2 w j hj, bd1_some, ep, nI_clamp (by omega), eh]
      by_cases hb : bt S p = true
      · refine Or.inl ⟨k, th, by omega, ?_, ?_⟩
        · rw [if_neg (fun q => by rw [and_bit S (by omega), hb] at q; cases q)]
        · rw [if_pos ((shr_bit S (by omega)).mpr hb)]
      · obtain ⟨h, hh9, e5⟩ := hour_nat (B := 999) hO (by decide)
        obtain ⟨t, t1, t5, ti⟩ := layHour_M w th (nI k + 1)
        have hv : w 5 + (nI k + 1) = nI (h + (k + 1)) := by rw [e5, nI_1, nI_add]
        rw [if_pos ((and_bit S (by omega)).mpr (Bool.eq_false_iff.mpr hb)), if_neg (fun q => hb ((shr_bit S (by omega)).mp q)), beside_X hS, bd1_some, dryB_X hO hh (n := h + (k + 1)) (by omega) hv, bd1_some, t1, bd1_some, beside_M, bd1_some, dryH_M t5 ti, bd1_some, way_eq _ _ _ _ (s15_orb _), ← nI_succ]
        exact home_both hO hj hh hp ep eh r5 r6 i (k + 1) _ m m' t (by omega) (s15_and (s15_and (s15_or hS (nbS_15 S)) _) _) (by omega) (by omega)
theorem s15_one {c : Nat} (hc : c < 15) : Set15 (1 <<< (nI c &&& 31)) := fun i hi h5 => by rw [bt_one (by omega) hi, decide_eq_false (by omega)]
theorem pu_home {s_finding : Int32} {rows_lanes : (Nat → Int32)} {rows_lengths : (Nat → Int32)} {rows_items : (Nat → Int32)} {tape_bytes : (Nat → Int32)} {tape_length : Int32} {tape_faultNumber : Int32} {land_told : Int32} {land_low : Int32} {land_high : Int32} {land_price : Int32} {land_hour : Int32} {land_bidders : Int32} {land_heights : (Nat → Int32)} {land_holders : (Nat → Int32)} {land_kinds : (Nat → Int32)} {land_purses : (Nat → Int32)} {land_homes : (Nat → Int32)} {firstImage_told : Int32} {firstImage_low : Int32} {firstImage_high : Int32} {firstImage_price : Int32} {firstImage_hour : Int32} {firstImage_bidders : Int32} {firstImage_heights : (Nat → Int32)} {firstImage_holders : (Nat → Int32)} {firstImage_kinds : (Nat → Int32)} {firstImage_purses : (Nat → Int32)} {firstImage_homes : (Nat → Int32)} {secondImage_told : Int32} {secondImage_low : Int32} {secondImage_high : Int32} {secondImage_price : Int32} {secondImage_hour : Int32} {secondImage_bidders : Int32} {secondImage_heights : (Nat → Int32)} {secondImage_holders : (Nat → Int32)} {secondImage_kinds : (Nat → Int32)} {secondImage_purses : (Nat → Int32)} {secondImage_homes : (Nat → Int32)} {acts_saved : (Nat → Int32)} {acts_next : Int32} {acts_kept : Int32} {asks_bodies : (Nat → Int32)} {asks_traced : Int32} {m_status : Int32} {m_lane : (Nat → Int32)} {m_many : (Nat → Int32)} {m_item : (Nat → Int32)} {m_isle : (Nat → Int32)} {m_then : (Nat → Int32)} {m_was : (Nat → Int32)} {m_acts : Int32} {m_tape : (Nat → Int32)} {m_taped : Int32} {m_latest : Int32} {m_isKept : (Nat → Int32)} {m_kept : (Nat → Int32)} {m_trace : (Nat → Int32)} {m_traced : Int32} (hI : LInv s_finding rows_lanes rows_lengths rows_items tape_bytes tape_length tape_faultNumber land_told land_low land_high land_price land_hour land_bidders land_heights land_holders land_kinds land_purses land_homes firstImage_told firstImage_low firstImage_high firstImage_price firstImage_hour firstImage_bidders firstImage_heights firstImage_holders firstImage_kinds firstImage_purses firstImage_homes secondImage_told secondImage_low secondImage_high secondImage_price secondImage_hour secondImage_bidders secondImage_heights secondImage_holders secondImage_kinds secondImage_purses secondImage_homes acts_saved acts_next acts_kept asks_bodies asks_traced m_status m_lane m_many m_item m_isle m_was m_acts m_tape m_taped m_latest m_isKept m_kept m_trace m_traced) (v1 : Int32) (v2 : Int32) : ∃ (r : Int32) (m_thrown' : Int32) (m_then' : (Nat → Int32)), fX8_home land_low land_high land_hour land_bidders land_heights land_holders land_homes v1 v2 = some (r) ∧ fX9_home m_isle m_then v1 v2 = some (r, m_thrown', m_then') ∧ LInv s_finding rows_lanes rows_lengths rows_items tape_bytes tape_length tape_faultNumber land_told land_low land_high land_price land_hour land_bidders land_heights land_holders land_kinds land_purses land_homes firstImage_told firstImage_low firstImage_high firstImage_price firstImage_hour firstImage_bidders firstImage_heights firstImage_holders firstImage_kinds firstImage_purses firstImage_homes secondImage_told secondImage_low secondImage_high secondImage_price secondImage_hour secondImage_bidders secondImage_heights secondImage_holders secondImage_kinds secondImage_purses secondImage_homes acts_saved acts_next acts_kept asks_bodies asks_traced m_status m_lane m_many m_item m_isle m_was m_acts m_tape m_taped m_latest m_isKept m_kept m_trace m_traced := by
  obtain ⟨hst, hR, hT, hL, hO, hrest⟩ := id hI
  refine ex_and3 ?_ hI
  obtain ⟨e0, e1, e2, e3, e5, e4, hh, ho, hb⟩ := hL
  have hz := hO.2.1.1
  unfold fX8_home fX9_home
  rw [e4, e_hasB _ _ hz, e_isB _ _ hz, e_isCell8, e_isCell9]
  simp only [bd1_some, if_bI]
  by_cases hv : rng (m_isle 4).toInt v1
  rotate_left 1
  · rw [if_neg hv, if_neg hv]
    exact ⟨_, _, _, rfl, rfl⟩
  rw [if_pos hv, if_pos hv]
  by_cases hc : rng 15 v2
  rotate_left 1
  · rw [if_neg hc, if_neg hc]
    exact ⟨_, _, _, rfl, rfl⟩
  obtain ⟨j, hj, hj4, ev⟩ := bid_of hO hv
  obtain ⟨c, hc2, ec⟩ := rng_of (n := 15) hc (by decide)
  obtain ⟨b1, b2, b3⟩ := hb j hj4
  obtain ⟨k1, k2, k3⟩ := hO.2.2.2.2.2.2.2 j hj4
  obtain ⟨p, hp, ep⟩ := nat_of (n := 14) k3.1 k3.2 (by decide)
  rw [if_pos hc, if_pos hc, ev, ec, heldOf_M, bd1_some, heldBy_M, bd1_some]
  unfold fX3_hoursToHome
  rw [chk_t (nI_in hj (by decide)), held_X, bd1_some, cellsOf_X, bd1_some, held_eq ho (fun c hc => (hO.2.2.2.2.2.2.1 c hc).1), by_eq ho, e1, e2, e5]
  rcases home_both (heights := land_heights) (homes := land_homes) hO hj hh (show p < 15 by omega) ep (b3.trans ep) (orb (fun c => !decide (m_isle (21 + c) ≤ 0)) 15) (orb (fun c => decide (m_isle (21 + c) = nI j + 1)) 15) 25 0 (1 <<< (nI c &&& 31)) FU FU m_then (by omega) (s15_one hc2) (fu_big (by decide)) (fu_big (by decide)) with ⟨q, t, hq, x, y⟩ | ⟨t, x, y⟩
  · refine ⟨nI q, 0, t, ?_, y⟩
    rw [show fX3_hoursToHome_L35 (m_isle 1) (m_isle 2) (m_isle 5) land_heights land_homes (nI j) (orb (fun c => !decide (m_isle (21 + c) ≤ 0)) 15) (orb (fun c => decide (m_isle (21 + c) = nI j + 1)) 15) FU (1 <<< (nI c &&& 31)) 0 = _ from x, bd1_some, if_pos (show (0 : Int32) ≤ nI q from nI_pos' (by omega))]
  · refine ⟨-1000000, 0, t, ?_, y⟩
    rw [show fX3_hoursToHome_L35 (m_isle 1) (m_isle 2) (m_isle 5) land_heights land_homes (nI j) (orb (fun c => !decide (m_isle (21 + c) ≤ 0)) 15) (orb (fun c => decide (m_isle (21 + c) = nI j + 1)) 15) FU (1 <<< (nI c &&& 31)) 0 = _ from x, bd1_some, if_neg (by decide)]

