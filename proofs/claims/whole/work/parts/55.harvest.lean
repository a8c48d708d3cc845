/-! the least pence for a harvest -/
theorem nI_none {b : Nat} (h : b < 2 ^ 31) : ¬ nI b = -1000000 := fun e => by
  have := nI_pos h
  rw [e] at this
  exact this (by decide)
def chJ (v : Int32) (q : Nat) (best ch : Int32) : Prop := (best = -1000000 ∧ ch = nI 0 ∧ ∀ x : Nat, x < q → bt v x = false) ∨ ∃ b : Nat, b < 15 ∧ bt v b = true ∧ best = nI b ∧ ch = nI b
theorem cheap {w heights kinds : Nat → Int32} {j : Nat} (hj : j < 5) (hh : ∀ c : Nat, c < 15 → heights c = w (6 + c)) (hk : kinds j = w (36 + 3 * j)) (hr : 1 ≤ (w (36 + 3 * j)).toInt ∧ (w (36 + 3 * j)).toInt ≤ 5) {v : Int32} (hv : ∃ x : Nat, x < 15 ∧ bt v x = true) (kk : Int32 → Option (Int32 × Int32 × (Nat → Int32))) : ∀ (i q m m' : Nat) (best ch : Int32), q + i = 15 → i < m → i < m' → chJ v q best ch →
    ∃ b : Nat, b < 15 ∧ bt v b = true ∧ fX3_cheapestOf_L5 (w 3) heights kinds (nI j) v m ch (nI q) = some (nI b) ∧ fX9_harvest_L155 w (w (36 + 3 * j)) v kk m' best (nI q) = kk (nI b)
  | i, q, m, m', best, ch, hq, hm, hm', hJ => by
    obtain ⟨m, rfl⟩ : ∃ z, m = z + 1 := ⟨m - 1, by omega⟩
    obtain ⟨m', rfl⟩ : ∃ z, m' = z + 1 := ⟨m' - 1, by omega⟩
    rw [fX3_cheapestOf_L5.eq_2, fX9_harvest_L155.eq_2]
    match i, hq, hm, hm' with
    | 0, hq, hm, hm' =>
      have e : q = 15 := by omega
      subst e
      rw [if_pos ge15, if_pos ge15]
      rcases hJ with ⟨_, _, h⟩ | ⟨b, b1, b2, b3, b4⟩
      · obtain ⟨x, x1, x2⟩ := hv
        rw [h x x1] at x2
        cases x2
      · exact ⟨b, b1, b2, by rw [b4], by rw [b3]⟩
    | i + 1, hq, hm, hm' =>
      have hq5 : q < 15 := by omega
      rw [if_neg (le15 hq5), if_neg (le15 hq5)]
      by_cases hb : bt v q = true
      · have hne : ¬ v &&& (1 <<< (nI q &&& 31)) = 0 := fun z => by
          rw [and_bit v (by omega), hb] at z; cases z
        rw [if_pos ((shr_bit v (by omega)).mpr hb)]
        unfold fX9_harvest_J178 fX3_cheapestOf_J25
        rw [if_neg n10, if_neg hne, if_neg hne, if_neg n10, if_pos rfl, nI_1]
        rcases hJ with ⟨j1, j2, j3⟩ | ⟨b, b1, b2, b3, b4⟩
        · rw [if_pos j1, j2]
          by_cases h0 : q = 0
          · subst h0
            rw [if_neg hne, costTo_X w heights kinds hj hq5 (hh _ hq5) hk hr, bd1_some, bd1_some, if_pos (Int32.le_refl _)]
            exact cheap hj hh hk hr hv kk i (0 + 1) m m' _ _ (by omega) (by omega) (by omega) (Or.inr ⟨0, hq5, hb, rfl, rfl⟩)
          · rw [if_pos ((and_bit v (by omega)).mpr (j3 0 (by omega)))]
            exact cheap hj hh hk hr hv kk i (q + 1) m m' _ _ (by omega) (by omega) (by omega) (Or.inr ⟨q, hq5, hb, rfl, rfl⟩)
        · have hnb : ¬ v &&& (1 <<< (nI b &&& 31)) = 0 := fun z => by
            rw [and_bit v (by omega), b2] at z; cases z
          rw [b3, b4, if_neg (nI_none (by omega)), if_neg hnb, cost_M w _ hq5, cost_M w _ b1, costTo_X w heights kinds hj hq5 (hh _ hq5) hk hr, costTo_X w heights kinds hj b1 (hh _ b1) hk hr, bd1_some, bd1_some, bd1_some, bd1_some]
          by_cases hle : sCost w (w (36 + 3 * j)) b ≤ sCost w (w (36 + 3 * j)) q
          · rw [if_pos hle, if_pos hle]
            exact cheap hj hh hk hr hv kk i (q + 1) m m' _ _ (by omega) (by omega) (by omega) (Or.inr ⟨b, b1, b2, rfl, rfl⟩)
          · rw [if_neg hle, if_neg hle]
            exact cheap hj hh hk hr hv kk i (q + 1) m m' _ _ (by omega) (by omega) (by omega) (Or.inr ⟨q, hq5, hb, rfl, rfl⟩)
      · have hbf : bt v q = false := Bool.eq_false_iff.mpr hb
        rw [if_neg (fun z => hb ((shr_bit v (by omega)).mp z))]
        unfold fX9_harvest_J178 fX3_cheapestOf_J25
        have h0 : v &&& (1 <<< (nI q &&& 31)) = 0 := (and_bit v (by omega)).mpr hbf
        rw [if_pos rfl, if_pos h0, if_pos h0, ite_self, nI_1]
        refine cheap hj hh hk hr hv kk i (q + 1) m m' _ _ (by omega) (by omega) (by omega) ?_
        rcases hJ with ⟨j1, j2, j3⟩ | hJ
        · refine Or.inl ⟨j1, j2, fun x hx => ?_⟩
          by_cases e : x = q
          · rw [e]; exact hbf
          · exact j3 x (by omega)
        · exact Or.inr hJ
theorem cnt_clear (v : Int32) (b : Nat) (hb : b < 15) : ∀ n, n ≤ 15 → cnt v n ≤ cnt (v &&& ((1 <<< (nI b &&& 31)) ^^^ (-1))) n + (if b < n then 1 else 0)
  | 0, _ => Nat.zero_le _
  | n + 1, hn => by
    have ih := cnt_clear v b hb n (by omega)
    show cnt v n + (if bt v n = true then 1 else 0) ≤ cnt (v &&& ((1 <<< (nI b &&& 31)) ^^^ (-1))) n + (if bt (v &&& ((1 <<< (nI b &&& 31)) ^^^ (-1))) n = true then 1 else 0) + (if b < n + 1 then 1 else 0)
    rw [b_and, bt_not (by omega), bt_one (by omega) (by omega)]
    by_cases e : n = b
    · subst e
      rw [if_neg (Nat.lt_irrefl n)] at ih
      rw [if_pos (Nat.lt_succ_self n)]
      by_cases h : bt v n = true
      · rw [if_pos h]; omega
      · rw [if_neg h]; omega
    · rw [decide_eq_false e, Bool.not_false, Bool.and_true]
      by_cases h2 : b < n
      · rw [if_pos h2] at ih
        rw [if_pos (show b < n + 1 by omega)]; omega
      · rw [if_neg h2] at ih
        rw [if_neg (show ¬ b < n + 1 by omega)]; omega
theorem cnt_00 : cnt 0 15 = 0 := by decide +kernel
theorem s15_bit {v : Int32} (hv : Set15 v) (h : v ≠ 0) : ∃ x : Nat, x < 15 ∧ bt v x = true := by
  obtain ⟨x, hx, hb⟩ := ne0_bit h
  refine ⟨x, Nat.lt_of_not_le (fun q => ?_), hb⟩
  rw [hv x hx q] at hb
  cases hb
theorem least_b {w heights kinds : Nat → Int32} {j k : Nat} (hj : j < 5) (hh : ∀ c : Nat, c < 15 → heights c = w (6 + c)) (hk : kinds j = w (36 + 3 * j)) (hr : 1 ≤ (w (36 + 3 * j)).toInt ∧ (w (36 + 3 * j)).toInt ≤ 5) (h15 : k ≤ 15) (th : Nat → Int32) : ∀ (i q m m' : Nat) (v sum : Int32), q + i = k → i < m → i < m' → Set15 v → i ≤ cnt v 15 →
    ∃ r, fX3_leastPrices_L9 (w 3) heights kinds (nI j) (nI k) m v sum (nI q) = some r ∧ fX9_harvest_L142 w (nI k) (w (36 + 3 * j)) th m' v sum (nI q) = some (r, 0, th)
  | i, q, m, m', v, sum, hq, hm, hm', h5, hc => by
    obtain ⟨m, rfl⟩ : ∃ z, m = z + 1 := ⟨m - 1, by omega⟩
    obtain ⟨m', rfl⟩ : ∃ z, m' = z + 1 := ⟨m' - 1, by omega⟩
    rw [fX3_leastPrices_L9.eq_2, fX9_harvest_L142.eq_2]
    match i, hq, hm, hm', hc with
    | 0, hq, hm, hm', hc =>
      rw [if_pos (nI_le (show k ≤ q by omega) (by omega)), if_pos (nI_le (show k ≤ q by omega) (by omega))]
      exact ⟨_, rfl, rfl⟩
    | i + 1, hq, hm, hm', hc =>
      have hne : ¬ v = 0 := fun e => by
        rw [e, cnt_00] at hc
        omega
      rw [if_neg (nI_ge (show q < k by omega) (by omega)), if_neg (nI_ge (show q < k by omega) (by omega)), if_neg hne]
      obtain ⟨b, b1, b2, b3, b4⟩ := cheap hj hh hk hr (s15_bit h5 hne) (fun v8_e232 => bd1 (fX9_priceBy w (w (36 + 3 * j)) v8_e232) (fun r_24 => ((fX9_harvest_L142 w (nI k) (w (36 + 3 * j)) th m') (v &&& ((1 <<< (v8_e232 &&& 31)) ^^^ (-1))) (sum + r_24) (nI q + 1)))) 15 0 FU FU (-1000000) (nI 0) (by omega) (fu_big (by decide)) (fu_big (by decide)) (Or.inl ⟨rfl, rfl, fun x hx => absurd hx (Nat.not_lt_zero x)⟩)
      have e1 : fX3_cheapestOf (w 3) heights kinds (nI j) v = some (nI b) := b3
      have hcl := cnt_clear v b b1 15 (Nat.le_refl _)
      rw [if_pos b1] at hcl
      obtain ⟨r, r1, r2⟩ := least_b hj hh hk hr h15 th i (q + 1) m m' (v &&& ((1 <<< (nI b &&& 31)) ^^^ (-1))) (sum + sCost w (w (36 + 3 * j)) b) (by omega) (by omega) (by omega) (s15_and h5 _) (by omega)
      refine ⟨r, ?_, ?_⟩
      · rw [e1, bd1_some, costTo_X w heights kinds hj b1 (hh _ b1) hk hr, bd1_some, nI_1]
        exact r1
      · refine Eq.trans b4 ?_
        rw [cost_M w _ b1, bd1_some, nI_1]
        exact r2
theorem har_chk {α : Type} (v2 v3 : Int32) (A B : α) : (if v2 < 1 then A else if 15 < v2 then A else if v3 < 1 then A else if v3 ≤ 12 then B else A) = if 1 ≤ v2.toInt ∧ v2.toInt ≤ 15 then (if 1 ≤ v3.toInt ∧ v3.toInt ≤ 12 then B else A) else A := by
  have e1 : ∀ v : Int32, v < 1 ↔ v.toInt < 1 := fun v => by rw [Int32.lt_iff_toInt_lt]; exact Iff.rfl
  have e2 : 15 < v2 ↔ 15 < v2.toInt := by rw [Int32.lt_iff_toInt_lt]; exact Iff.rfl
  have e3 : v3 ≤ 12 ↔ v3.toInt ≤ 12 := by rw [Int32.le_iff_toInt_le]; exact Iff.rfl
  by_cases h1 : v2 < 1
  · rw [if_pos h1, if_neg (fun q => by rw [e1] at h1; omega)]
  rw [if_neg h1]
  by_cases h2 : 15 < v2
  · rw [if_pos h2, if_neg (fun q => by rw [e2] at h2; omega)]
  rw [if_neg h2, if_pos (show 1 ≤ v2.toInt ∧ v2.toInt ≤ 15 by rw [e1] at h1; rw [e2] at h2; omega)]
  by_cases h3 : v3 < 1
  · rw [if_pos h3, if_neg (fun q => by rw [e1] at h3; omega)]
  rw [if_neg h3]
  by_cases h4 : v3 ≤ 12
  · rw [if_pos h4, if_pos (by rw [e1] at h3; rw [e3] at h4; omega)]
  · rw [if_neg h4, if_neg (fun q => h4 (e3.mpr q.2))]
theorem pu_harvest {s_finding : Int32} {rows_lanes : (Nat → Int32)} {rows_lengths : (Nat → Int32)} {rows_items : (Nat → Int32)} {tape_bytes : (Nat → Int32)} {tape_length : Int32} {tape_faultNumber : Int32} {land_told : Int32} {land_low : Int32} {land_high : Int32} {land_price : Int32} {land_hour : Int32} {land_bidders : Int32} {land_heights : (Nat → Int32)} {land_holders : (Nat → Int32)} {land_kinds : (Nat → Int32)} {land_purses : (Nat → Int32)} {land_homes : (Nat → Int32)} {firstImage_told : Int32} {firstImage_low : Int32} {firstImage_high : Int32} {firstImage_price : Int32} {firstImage_hour : Int32} {firstImage_bidders : Int32} {firstImage_heights : (Nat → Int32)} {firstImage_holders : (Nat → Int32)} {firstImage_kinds : (Nat → Int32)} {firstImage_purses : (Nat → Int32)} {firstImage_homes : (Nat → Int32)} {secondImage_told : Int32} {secondImage_low : Int32} {secondImage_high : Int32} {secondImage_price : Int32} {secondImage_hour : Int32} {secondImage_bidders : Int32} {secondImage_heights : (Nat → Int32)} {secondImage_holders : (Nat → Int32)} {secondImage_kinds : (Nat → Int32)} {secondImage_purses : (Nat → Int32)} {secondImage_homes : (Nat → Int32)} {acts_saved : (Nat → Int32)} {acts_next : Int32} {acts_kept : Int32} {asks_bodies : (Nat → Int32)} {asks_traced : Int32} {m_status : Int32} {m_lane : (Nat → Int32)} {m_many : (Nat → Int32)} {m_item : (Nat → Int32)} {m_isle : (Nat → Int32)} {m_then : (Nat → Int32)} {m_was : (Nat → Int32)} {m_acts : Int32} {m_tape : (Nat → Int32)} {m_taped : Int32} {m_latest : Int32} {m_isKept : (Nat → Int32)} {m_kept : (Nat → Int32)} {m_trace : (Nat → Int32)} {m_traced : Int32} (hI : LInv s_finding rows_lanes rows_lengths rows_items tape_bytes tape_length tape_faultNumber land_told land_low land_high land_price land_hour land_bidders land_heights land_holders land_kinds land_purses land_homes firstImage_told firstImage_low firstImage_high firstImage_price firstImage_hour firstImage_bidders firstImage_heights firstImage_holders firstImage_kinds firstImage_purses firstImage_homes secondImage_told secondImage_low secondImage_high secondImage_price secondImage_hour secondImage_bidders secondImage_heights secondImage_holders secondImage_kinds secondImage_purses secondImage_homes acts_saved acts_next acts_kept asks_bodies asks_traced m_status m_lane m_many m_item m_isle m_was m_acts m_tape m_taped m_latest m_isKept m_kept m_trace m_traced) (v1 : Int32) (v2 : Int32) (v3 : Int32) : ∃ (r : Int32) (m_thrown' : Int32) (m_then' : (Nat → Int32)), fX8_harvest land_low land_high land_price land_hour land_bidders land_heights land_holders land_kinds v1 v2 v3 = some (r) ∧ fX9_harvest m_isle m_then v1 v2 v3 = some (r, m_thrown', m_then') ∧ LInv s_finding rows_lanes rows_lengths rows_items tape_bytes tape_length tape_faultNumber land_told land_low land_high land_price land_hour land_bidders land_heights land_holders land_kinds land_purses land_homes firstImage_told firstImage_low firstImage_high firstImage_price firstImage_hour firstImage_bidders firstImage_heights firstImage_holders firstImage_kinds firstImage_purses firstImage_homes secondImage_told secondImage_low secondImage_high secondImage_price secondImage_hour secondImage_bidders secondImage_heights secondImage_holders secondImage_kinds secondImage_purses secondImage_homes acts_saved acts_next acts_kept asks_bodies asks_traced m_status m_lane m_many m_item m_isle m_was m_acts m_tape m_taped m_latest m_isKept m_kept m_trace m_traced := by
  obtain ⟨hst, hR, hT, hL, hO, hrest⟩ := id hI
  refine ex_and3 ?_ hI
  obtain ⟨e0, e1, e2, e3, e5, e4, hh, ho, hb⟩ := hL
  have hz := hO.2.1.1
  unfold fX8_harvest fX9_harvest
  rw [e4, e_hasB _ _ hz, e_isB _ _ hz, bd1_some, bd1_some, if_bI, if_bI, har_chk, in_lit (B := 1) (C := 15) v2 1 15 rfl rfl, bd1_some, if_bI, in_lit (B := 1) (C := 12) v3 1 12 rfl rfl, bd1_some, if_bI]
  by_cases hv : rng (m_isle 4).toInt v1
  rotate_left 1
  · rw [if_neg hv, if_neg hv]
    exact ⟨_, _, _, rfl, rfl⟩
  rw [if_pos hv, if_pos hv]
  by_cases h2 : 1 ≤ v2.toInt ∧ v2.toInt ≤ 15
  rotate_left 1
  · rw [if_neg h2, if_neg (show ¬ ((1 : Int32).toInt ≤ v2.toInt ∧ v2.toInt ≤ (15 : Int32).toInt) from h2)]
    exact ⟨_, _, _, rfl, rfl⟩
  rw [if_pos h2, if_pos (show (1 : Int32).toInt ≤ v2.toInt ∧ v2.toInt ≤ (15 : Int32).toInt from h2)]
  by_cases h3 : 1 ≤ v3.toInt ∧ v3.toInt ≤ 12
  rotate_left 1
  · rw [if_neg h3, if_neg (show ¬ ((1 : Int32).toInt ≤ v3.toInt ∧ v3.toInt ≤ (12 : Int32).toInt) from h3)]
    exact ⟨_, _, _, rfl, rfl⟩
  rw [if_pos h3, if_pos (show (1 : Int32).toInt ≤ v3.toInt ∧ v3.toInt ≤ (12 : Int32).toInt from h3)]
  obtain ⟨j, hj, hj4, ev⟩ := bid_of hO hv
  obtain ⟨k, hk15, ek⟩ := nat_of (x := v2) (n := 15) (by omega) (by omega) (by decide)
  obtain ⟨n, hn12, en⟩ := nat_of (x := v3) (n := 12) (by omega) (by omega) (by decide)
  obtain ⟨h, hh9, eh⟩ := hour_nat (B := 999) hO (by decide)
  have hkd := (hb j hj4).1
  have hr := (hO.2.2.2.2.2.2.2 j hj4).1
  rw [ev, ek, en, e1, e2, e3, e5, kept_X hj hh ho hkd (show n ≤ 60 by omega), bd1_some, count_X (s15_orb _), bd1_some, e_of0 m_isle j hj, bd1_some, open_M m_isle hj, bd1_some]
  obtain ⟨t, ht⟩ := kept_M (j := j) hO eh hh9 hn12 (m_isle (36 + 3 * j)) (fun v5_e124 s_then_e124 => bd1 (fX9_bits v5_e124) (fun r_14 => (if nI k ≤ r_14 then (fX9_harvest_L142 m_isle (nI k) (m_isle (36 + 3 * j)) s_then_e124 FU v5_e124 0 0) else some ((-1000000), 0, s_then_e124)))) n 0 FU m_then (by omega) (fu_big (by omega))
  have e6 : orb (fun c => frB m_isle j c && !lsB m_isle (m_isle (36 + 3 * j)) c 0) 15 = orb (frB m_isle j) 15 := orb_cg (fun c hc => by
    show (frB m_isle j c && !false) = frB m_isle j c
    simp)
  rw [e6] at ht
  by_cases hc : k ≤ cnt (orb (fun c => frB m_isle j c && !lsB m_isle (m_isle (36 + 3 * j)) c n) 15) 15
  · have hcl := cnt_le (orb (fun c => frB m_isle j c && !lsB m_isle (m_isle (36 + 3 * j)) c n) 15) 15
    obtain ⟨r, r1, r2⟩ := least_b (heights := land_heights) hj hh hkd hr hk15 t k 0 FU FU (orb (fun c => frB m_isle j c && !lsB m_isle (m_isle (36 + 3 * j)) c n) 15) 0 (by omega) (fu_big (by omega)) (fu_big (by omega)) (s15_orb _) hc
    refine ⟨r, 0, t, ?_, ht.trans ?_⟩
    · rw [if_pos (nI_le hc (by omega))]
      unfold fX3_leastPrices
      rw [show fX3_leastPrices_L9 (m_isle 3) land_heights land_kinds (nI j) (nI k) FU _ 0 0 = some r from r1, bd1_some]
    · rw [bits_M, bd1_some, if_pos (nI_le hc (by omega))]
      exact r2
  · have hcl := cnt_le (orb (fun c => frB m_isle j c && !lsB m_isle (m_isle (36 + 3 * j)) c n) 15) 15
    have hng : ¬ nI k ≤ nI (cnt (orb (fun c => frB m_isle j c && !lsB m_isle (m_isle (36 + 3 * j)) c n) 15) 15) := fun z => hc ((nI_leI (by omega) (by omega)).mp z)
    refine ⟨_, 0, t, by rw [if_neg hng], ht.trans ?_⟩
    rw [bits_M, bd1_some, if_neg hng]

