/-! raised -/
def rsD (w : Nat → Int32) (h : Int32) (c : Nat) : Int32 := orb (fun x => if x = c then decide (sLev w h < w (6 + c) + 1) else sDry w h x) 15
def rsP (w it : Nat → Int32) (c : Nat) : Nat → Bool
  | 0 => !decide (9 ≤ w (6 + c))
  | k + 1 => rsP w it c k && decide (rsD w (w 5 + nI (k + 1)) c = it k)
theorem rsD_M {w t : Nat → Int32} {v : Int32} {c : Nat} (hc : c < 15) (h5 : t 5 = w 5 + v) (ht : ∀ i : Nat, i < 51 → i ≠ 5 → i ≠ 6 + c → t i = w i) (h6 : t (6 + c) = w (6 + c) + 1) : fX9_dryOf t = some (rsD w (w 5 + v) c) := by
  rw [dryOf_M, h5]
  refine congrArg some (orb_cg fun x hx => ?_)
  by_cases e : x = c
  · rw [if_pos e, e]
    unfold sDry
    rw [h6, sLev_cg (ht 1 (by decide) (by decide) (by omega)) (ht 2 (by decide) (by decide) (by omega))]
  · rw [if_neg e]
    exact sDry_cg (ht 1 (by decide) (by decide) (by omega)) (ht 2 (by decide) (by decide) (by omega)) (ht _ (by omega) (by omega) (by omega)) _
theorem rs_M {item w : Nat → Int32} {a p n c : Nat} (ha : a < 8) (hn : p + n ≤ 40) (hc : c < 15) (k : Int32 → (Nat → Int32) → Option (Int32 × Int32 × Int32 × (Nat → Int32))) : ∀ (i q m : Nat) (th : Nat → Int32), q + i = n → i < m → ∃ t, fX9_raised_L121 item w (nI a) (nI p) (nI n) (nI c) k m (bI (rsP w (fun x => item (40 * a + p + x)) c q = true)) (nI q) th = k (bI (rsP w (fun x => item (40 * a + p + x)) c n = true)) t
  | i, q, m, th, hq, hm => by
    obtain ⟨m, rfl⟩ : ∃ z, m = z + 1 := ⟨m - 1, by omega⟩
    rw [fX9_raised_L121.eq_2]
    match i, hq, hm with
    | 0, hq, hm =>
      refine ⟨th, ?_⟩
      rw [if_pos (nI_le (by omega) (by omega)), show q = n by omega]
    | i + 1, hq, hm =>
      obtain ⟨t, t1, t5, ti⟩ := layHour_M w th (nI q + 1)
      have e : 40 * nI a + nI p + nI q = nI (40 * a + p + q) := by rw [r40', nI_add]
      rw [if_neg (nI_ge (show q < n by omega) (by omega)), t1, bd1_some, six_c hc, chk_t (nI_in (show 6 + c < 51 by omega) (by decide)), chk_t (nI_in (show 6 + c < 51 by omega) (by decide)), nI_clamp (n := 6 + c) (by omega)]
      by_cases hb : rsP w (fun x => item (40 * a + p + x)) c q = true
      · rw [bI_t hb, if_neg n10, rsD_M (v := nI q + 1) hc (by rw [pk_un (by omega)]; exact t5) (fun i h1 h2 h3 => by rw [pk_un h3]; exact ti i h1 h2) (by rw [pk_us, ti _ (by omega) (by omega)]), bd1_some, e, chk_t (nI_in (show 40 * a + p + q < 320 by omega) (by decide)), nI_clamp (n := 40 * a + p + q) (by omega), nI_1]
        obtain ⟨t', h'⟩ := rs_M ha hn hc k i (q + 1) m (upd t (6 + c) (t (6 + c) + 1)) (by omega) (by omega)
        refine ⟨t', ?_⟩
        by_cases hd : rsD w (w 5 + nI (q + 1)) c = item (40 * a + p + q)
        · rw [if_pos hd]
          rw [bI_t (show rsP w (fun x => item (40 * a + p + x)) c (q + 1) = true by show (_ && decide _) = true; rw [hb, decide_eq_true hd]; rfl)] at h'
          exact h'
        · rw [if_neg hd]
          rw [bI_f (show ¬ rsP w (fun x => item (40 * a + p + x)) c (q + 1) = true by show ¬ (_ && decide _) = true; rw [hb, decide_eq_false hd]; decide)] at h'
          exact h'
      · rw [bI_f hb, if_pos rfl, nI_1]
        obtain ⟨t', h'⟩ := rs_M ha hn hc k i (q + 1) m (upd t (6 + c) (t (6 + c) + 1)) (by omega) (by omega)
        refine ⟨t', ?_⟩
        rw [bI_f (show ¬ rsP w (fun x => item (40 * a + p + x)) c (q + 1) = true by show ¬ (_ && decide _) = true; rw [Bool.eq_false_iff.mpr hb, Bool.false_and]; decide)] at h'
        exact h'
theorem rs_LM {item w : Nat → Int32} {a p n : Nat} (ha : a < 8) (hn : p + n ≤ 40) : ∀ (i c m : Nat) (th : Nat → Int32), c + i = 15 → i < m → ∃ t, fX9_raised_L89 item w (nI a) (nI p) (nI n) m (orb (fun c => rsP w (fun x => item (40 * a + p + x)) c n) c) (nI c) th = some (orb (fun c => rsP w (fun x => item (40 * a + p + x)) c n) 15, 0, 0, t)
  | i, c, m, th, hq, hm => by
    obtain ⟨m, rfl⟩ : ∃ z, m = z + 1 := ⟨m - 1, by omega⟩
    rw [fX9_raised_L89.eq_2]
    match i, hq, hm with
    | 0, hq, hm =>
      refine ⟨th, ?_⟩
      rw [show c = 15 by omega, if_pos ge15]
    | i + 1, hq, hm =>
      have hc : c < 15 := by omega
      unfold fX9_raised_J116
      rw [if_neg (le15 hc), six_c hc, chk_t (nI_in (show 6 + c < 51 by omega) (by decide)), nI_clamp (n := 6 + c) (by omega), or0, nI_1]
      obtain ⟨t, ht⟩ := rs_M (w := w) ha hn hc (fun v6_e191 s_then_e191 => (if v6_e191 = 0 then (fX9_raised_L89 item w (nI a) (nI p) (nI n) m (orb (fun c => rsP w (fun x => item (40 * a + p + x)) c n) c) (nI (c + 1)) s_then_e191) else (fX9_raised_L89 item w (nI a) (nI p) (nI n) m ((orb (fun c => rsP w (fun x => item (40 * a + p + x)) c n) c) ||| (1 <<< (nI c &&& 31))) (nI (c + 1)) s_then_e191))) n 0 FU th (by omega) (fu_big (by omega))
      obtain ⟨t', ht'⟩ := rs_LM (w := w) ha hn i (c + 1) m t (by omega) (by omega)
      refine ⟨t', ?_⟩
      have ee : (if 9 ≤ w (6 + c) then fX9_raised_L121 item w (nI a) (nI p) (nI n) (nI c) (fun v6_e191 s_then_e191 => (if v6_e191 = 0 then (fX9_raised_L89 item w (nI a) (nI p) (nI n) m (orb (fun c => rsP w (fun x => item (40 * a + p + x)) c n) c) (nI (c + 1)) s_then_e191) else (fX9_raised_L89 item w (nI a) (nI p) (nI n) m ((orb (fun c => rsP w (fun x => item (40 * a + p + x)) c n) c) ||| (1 <<< (nI c &&& 31))) (nI (c + 1)) s_then_e191))) FU 0 0 th else fX9_raised_L121 item w (nI a) (nI p) (nI n) (nI c) (fun v6_e191 s_then_e191 => (if v6_e191 = 0 then (fX9_raised_L89 item w (nI a) (nI p) (nI n) m (orb (fun c => rsP w (fun x => item (40 * a + p + x)) c n) c) (nI (c + 1)) s_then_e191) else (fX9_raised_L89 item w (nI a) (nI p) (nI n) m ((orb (fun c => rsP w (fun x => item (40 * a + p + x)) c n) c) ||| (1 <<< (nI c &&& 31))) (nI (c + 1)) s_then_e191))) FU 1 0 th) = fX9_raised_L121 item w (nI a) (nI p) (nI n) (nI c) (fun v6_e191 s_then_e191 => (if v6_e191 = 0 then (fX9_raised_L89 item w (nI a) (nI p) (nI n) m (orb (fun c => rsP w (fun x => item (40 * a + p + x)) c n) c) (nI (c + 1)) s_then_e191) else (fX9_raised_L89 item w (nI a) (nI p) (nI n) m ((orb (fun c => rsP w (fun x => item (40 * a + p + x)) c n) c) ||| (1 <<< (nI c &&& 31))) (nI (c + 1)) s_then_e191))) FU (bI (rsP w (fun x => item (40 * a + p + x)) c 0 = true)) (nI 0) th := by
        by_cases h9 : 9 ≤ w (6 + c)
        · rw [if_pos h9, bI_f (show ¬ rsP w (fun x => item (40 * a + p + x)) c 0 = true by show ¬ (!decide (9 ≤ w (6 + c))) = true; rw [decide_eq_true h9]; decide)]; rfl
        · rw [if_neg h9, bI_t (show rsP w (fun x => item (40 * a + p + x)) c 0 = true by show (!decide (9 ≤ w (6 + c))) = true; rw [decide_eq_false h9]; decide)]; rfl
      rw [ee, ht]
      by_cases hr : rsP w (fun x => item (40 * a + p + x)) c n = true
      · rw [bI_t hr, if_neg n10, ← ht']
        show _ = fX9_raised_L89 item w (nI a) (nI p) (nI n) m (if rsP w (fun x => item (40 * a + p + x)) c n = true then _ else _) _ _
        rw [if_pos hr]
      · rw [bI_f hr, if_pos rfl, ← ht']
        show _ = fX9_raised_L89 item w (nI a) (nI p) (nI n) m (if rsP w (fun x => item (40 * a + p + x)) c n = true then _ else _) _ _
        rw [if_neg hr]

