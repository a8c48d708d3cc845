/-! cells that one can have that nobody holds; those it would not lose -/
def frB (w : Nat → Int32) (j c : Nat) : Bool := decide (w (21 + c) = 0) && sHave w (w (36 + 3 * j)) (w 5) c
theorem free_X {w heights holders kinds : Nat → Int32} {j : Nat} (hj : j < 5) (hh : ∀ c : Nat, c < 15 → heights c = w (6 + c)) (ho : ∀ c : Nat, c < 15 → holders c = w (21 + c) - 1) (hk : kinds j = w (36 + 3 * j)) : fX3_freeFor (w 1) (w 2) (w 5) heights holders kinds (nI j) = some (orb (frB w j) 15) := by
  refine or_loop (fun n a i => fX3_freeFor_L4 (w 1) (w 2) (w 5) heights holders kinds (nI j) n a i) 15 (frB w j) some (fun n c a hc => ?_) (fun n a => ?_) FU (fu_big (by decide))
  · show fX3_freeFor_L4 (w 1) (w 2) (w 5) heights holders kinds (nI j) (n + 1) a (nI c) = fX3_freeFor_L4 (w 1) (w 2) (w 5) heights holders kinds (nI j) n (if frB w j c = true then a ||| (1 <<< (nI c &&& 31)) else a) (nI (c + 1))
    rw [fX3_freeFor_L4.eq_2, if_neg (le15 hc), held_id holders hc, bd1_some, if_bI, ho c hc, have_X w heights kinds (w 5) hj hc (hh c hc), bd1_some, if_bI, hk, add0, nI_succ]
    unfold frB
    by_cases h0 : w (21 + c) = 0
    · rw [if_neg (fun q => q (by rw [h0]; rfl)), decide_eq_true h0, Bool.true_and]
      exact ite_arg (fun z => fX3_freeFor_L4 (w 1) (w 2) (w 5) heights holders kinds (nI j) n z (nI c + 1))
    · rw [if_pos (fun q => h0 (sub1_eq.mp q)), decide_eq_false h0, Bool.false_and, if_neg (by decide)]
  · show fX3_freeFor_L4 (w 1) (w 2) (w 5) heights holders kinds (nI j) (n + 1) a (nI 15) = _
    rw [fX3_freeFor_L4.eq_2, if_pos ge15]
theorem open_M (w : Nat → Int32) {j : Nat} (hj : j < 5) : fX9_open w (nI j) = some (orb (frB w j) 15) := by
  refine or_loop (fun n a i => fX9_open_L4 w (nI j) n a i) 15 (frB w j) some (fun n c a hc => ?_) (fun n a => ?_) FU (fu_big (by decide))
  · show fX9_open_L4 w (nI j) (n + 1) a (nI c) = fX9_open_L4 w (nI j) n (if frB w j c = true then a ||| (1 <<< (nI c &&& 31)) else a) (nI (c + 1))
    rw [fX9_open_L4.eq_2, if_neg (le15 hc), mayBid_M w hj hc, bd1_some, if_bI, nI_succ, or0]
    have e : (w (21 + c) = 0 ∧ sHave w (w (36 + 3 * j)) (w 5) c = true) ↔ frB w j c = true := by
      unfold frB
      rw [Bool.and_eq_true, decide_eq_true_iff]
    by_cases h : frB w j c = true
    · rw [if_pos (e.mpr h), if_pos h]
    · rw [if_neg (fun q => h (e.mp q)), if_neg h]
  · show fX9_open_L4 w (nI j) (n + 1) a (nI 15) = _
    rw [fX9_open_L4.eq_2, if_pos ge15]
theorem and_itr (p q : Nat → Bool) : ∀ n, n ≤ 15 → itr (fun k a => if q k = true then a &&& ((1 <<< (nI k &&& 31)) ^^^ (-1)) else a) n (orb p 15) = orb (fun c => p c && !(decide (c < n) && q c)) 15
  | 0, _ => orb_cg (fun c hc => by simp)
  | n + 1, hn => by
    show (if q n = true then itr (fun k a => if q k = true then a &&& ((1 <<< (nI k &&& 31)) ^^^ (-1)) else a) n (orb p 15) &&& ((1 <<< (nI n &&& 31)) ^^^ (-1)) else itr (fun k a => if q k = true then a &&& ((1 <<< (nI k &&& 31)) ^^^ (-1)) else a) n (orb p 15)) = _
    rw [and_itr p q n (by omega)]
    apply b_ext
    intro i hi
    by_cases h : q n = true
    · rw [if_pos h, b_and, bt_not hi, bt_one (by omega) hi, bt_orb _ (by decide) hi, bt_orb _ (by decide) hi]
      by_cases e : i = n
      · subst e
        simp [h]
      · rw [decide_eq_false e, show decide (i < n + 1) = decide (i < n) from decide_eq_decide.mpr (by omega)]
        simp
    · rw [if_neg h, bt_orb _ (by decide) hi, bt_orb _ (by decide) hi]
      by_cases e : i = n
      · subst e
        rw [Bool.eq_false_iff.mpr h]
        simp
      · rw [show decide (i < n + 1) = decide (i < n) from decide_eq_decide.mpr (by omega)]
theorem and_loop {β : Type} (L : Nat → Int32 → Int32 → Option β) (p q : Nat → Bool) (ex : Int32 → Option β)
    (hs : ∀ n k a, k < 15 → L (n + 1) a (nI k) = L n (if q k = true then a &&& ((1 <<< (nI k &&& 31)) ^^^ (-1)) else a) (nI (k + 1))) (hx : ∀ n a, L (n + 1) a (nI 15) = ex a) (m : Nat) (hm : 15 < m) : L m (orb p 15) 0 = ex (orb (fun c => p c && !q c) 15) := by
  have h := (for_loop L 15 (fun k a => if q k = true then a &&& ((1 <<< (nI k &&& 31)) ^^^ (-1)) else a) ex (fun _ _ => True) (fun n k a hk _ => ⟨hs n k a hk, trivial⟩) (fun n a _ => hx n a) (orb p 15) trivial m hm).1
  rw [and_itr p q 15 (Nat.le_refl _)] at h
  refine h.trans (congrArg ex (orb_cg (fun c hc => ?_)))
  rw [decide_eq_true hc, Bool.true_and]
/-- lost within n hours -/
def lsB (w : Nat → Int32) (k : Int32) (c : Nat) : Nat → Bool
  | 0 => false
  | n + 1 => lsB w k c n || sLost w k (w 5 + nI (n + 1)) c
theorem ls_mono {w : Nat → Int32} {k : Int32} {c q : Nat} (h : lsB w k c q = true) : ∀ d, lsB w k c (q + d) = true
  | 0 => h
  | d + 1 => by
    show (lsB w k c (q + d) || sLost w k (w 5 + nI (q + d + 1)) c) = true
    rw [ls_mono h d, Bool.true_or]
theorem till_X {w heights kinds : Nat → Int32} {j c n : Nat} (hj : j < 5) (hc : c < 15) (hh : heights c = w (6 + c)) (hk : kinds j = w (36 + 3 * j)) (hn : n ≤ 60) : ∀ i q m : Nat, q + i = n → i < m → lsB w (w (36 + 3 * j)) c q = false →
    ∃ r : Nat, r ≤ n + 1 ∧ fX3_hoursTillLost_L3 (w 1) (w 2) (w 5) heights kinds (nI j) (nI c) (nI n) (some (nI n + 1)) m (nI (q + 1)) = some (nI r) ∧ (n < r ↔ ¬ lsB w (w (36 + 3 * j)) c n = true)
  | i, q, m, hq, hm, hl => by
    obtain ⟨m, rfl⟩ : ∃ z, m = z + 1 := ⟨m - 1, by omega⟩
    rw [fX3_hoursTillLost_L3.eq_2]
    match i, hq, hm with
    | 0, hq, hm =>
      have e : q = n := by omega
      subst e
      rw [if_pos (nI_lt (show q < q + 1 by omega) (by omega)), nI_1]
      exact ⟨q + 1, Nat.le_refl _, rfl, ⟨fun _ => by rw [hl]; decide, fun _ => by omega⟩⟩
    | i + 1, hq, hm =>
      rw [if_neg (nI_nlt (show q + 1 ≤ n by omega) (by omega)), chk_t (nI_in hj (by decide)), lev_X, bd1_some, chk_t (nI_in hc (by decide)), nI_clamp (n := j) (by omega), nI_clamp (n := c) (by omega), hk, hh, loses_e, bd1_some, if_bI]
      by_cases h : sLost w (w (36 + 3 * j)) (w 5 + nI (q + 1)) c = true
      · rw [if_pos h]
        refine ⟨q + 1, by omega, rfl, ⟨fun z => by omega, fun z => ?_⟩⟩
        have h1 : lsB w (w (36 + 3 * j)) c (q + 1) = true := by
          show (lsB w (w (36 + 3 * j)) c q || sLost w (w (36 + 3 * j)) (w 5 + nI (q + 1)) c) = true
          rw [h, Bool.or_true]
        have h2 := ls_mono h1 (n - (q + 1))
        rw [show q + 1 + (n - (q + 1)) = n by omega] at h2
        exact absurd h2 z
      · rw [if_neg h, nI_1 (q + 1)]
        exact till_X hj hc hh hk hn i (q + 1) m (by omega) (by omega) (by
          show (lsB w (w (36 + 3 * j)) c q || sLost w (w (36 + 3 * j)) (w 5 + nI (q + 1)) c) = false
          rw [hl, Bool.eq_false_iff.mpr h]; rfl)
theorem kept_X {w heights holders kinds : Nat → Int32} {j n : Nat} (hj : j < 5) (hh : ∀ c : Nat, c < 15 → heights c = w (6 + c)) (ho : ∀ c : Nat, c < 15 → holders c = w (21 + c) - 1) (hk : kinds j = w (36 + 3 * j)) (hn : n ≤ 60) : fX3_keptFor (w 1) (w 2) (w 5) heights holders kinds (nI j) (nI n) = some (orb (fun c => frB w j c && !lsB w (w (36 + 3 * j)) c n) 15) := by
  unfold fX3_keptFor
  rw [free_X hj hh ho hk, bd1_some]
  refine and_loop (fun m a i => fX3_keptFor_L9 (w 1) (w 2) (w 5) heights kinds (nI j) (nI n) m a i) (frB w j) (fun c => lsB w (w (36 + 3 * j)) c n) some (fun m c a hc => ?_) (fun m a => ?_) FU (fu_big (by decide))
  · show fX3_keptFor_L9 (w 1) (w 2) (w 5) heights kinds (nI j) (nI n) (m + 1) a (nI c) = fX3_keptFor_L9 (w 1) (w 2) (w 5) heights kinds (nI j) (nI n) m (if lsB w (w (36 + 3 * j)) c n = true then a &&& ((1 <<< (nI c &&& 31)) ^^^ (-1)) else a) (nI (c + 1))
    obtain ⟨r, r1, r2, r3⟩ := till_X hj hc (hh c hc) hk hn n 0 FU (by omega) (fu_big (by omega)) rfl
    have e : fX3_hoursTillLost (w 1) (w 2) (w 5) heights kinds (nI j) (nI c) (nI n) = some (nI r) := r2
    rw [fX3_keptFor_L9.eq_2, if_neg (le15 hc), e, bd1_some, nI_succ]
    by_cases h : lsB w (w (36 + 3 * j)) c n = true
    · rw [if_pos h, if_neg (nI_nlt (show r ≤ n from Nat.le_of_not_lt (fun z => r3.mp z h)) (by omega))]
    · rw [if_neg h, if_pos (nI_lt (r3.mpr h) (by omega))]
  · show fX3_keptFor_L9 (w 1) (w 2) (w 5) heights kinds (nI j) (nI n) (m + 1) a (nI 15) = _
    rw [fX3_keptFor_L9.eq_2, if_pos ge15]
theorem and_m1 (a : Int32) : a &&& (-1) = a := by
  apply b_ext
  intro i hi
  rw [b_and, b_m1 i hi, Bool.and_true]
theorem lose_M {w th : Nat → Int32} {B : Nat} {v : Int32} (hO : OkH B th) (hB : B < 2 ^ 30) (h5 : th 5 = w 5 + v) (ht : ∀ i : Nat, i < 51 → i ≠ 5 → th i = w i) (kd : Int32) (p : Nat → Bool) (k : Int32 → Option (Int32 × Int32 × (Nat → Int32))) : fX9_harvest_L76 kd th k FU (orb p 15) 0 = k (orb (fun c => p c && !sLost w kd (w 5 + v) c) 15) := by
  refine and_loop (fun m a i => fX9_harvest_L76 kd th k m a i) p (fun c => sLost w kd (w 5 + v) c) k (fun m c a hc => ?_) (fun m a => ?_) FU (fu_big (by decide))
  · show fX9_harvest_L76 kd th k (m + 1) a (nI c) = fX9_harvest_L76 kd th k m (if sLost w kd (w 5 + v) c = true then a &&& ((1 <<< (nI c &&& 31)) ^^^ (-1)) else a) (nI (c + 1))
    have e : sLost th kd (th 5) c = sLost w kd (w 5 + v) c := by
      rw [h5]
      exact sLost_cg (ht 1 (by decide) (by decide)) (ht 2 (by decide) (by decide)) (ht (6 + c) (by omega) (by omega)) _ _
    rw [fX9_harvest_L76.eq_2, if_neg (le15 hc), lost_M hO hB kd hc, bd1_some, if_bI, e, and_m1, nI_succ]
    exact ite_arg (fun z => fX9_harvest_L76 kd th k m z (nI c + 1))
  · show fX9_harvest_L76 kd th k (m + 1) a (nI 15) = _
    rw [fX9_harvest_L76.eq_2, if_pos ge15]
theorem kept_M {w : Nat → Int32} {j n h : Nat} (hO : OkI w) (e5 : w 5 = nI h) (h9 : h ≤ 999) (hn : n ≤ 12) (kd : Int32) (k : Int32 → (Nat → Int32) → Option (Int32 × Int32 × (Nat → Int32))) : ∀ (i q m : Nat) (th : Nat → Int32), q + i = n → i < m →
    ∃ t, fX9_harvest_L61 w (nI n) kd k m (orb (fun c => frB w j c && !lsB w kd c q) 15) (nI (q + 1)) th = k (orb (fun c => frB w j c && !lsB w kd c n) 15) t
  | i, q, m, th, hq, hm => by
    obtain ⟨m, rfl⟩ : ∃ z, m = z + 1 := ⟨m - 1, by omega⟩
    rw [fX9_harvest_L61.eq_2]
    match i, hq, hm with
    | 0, hq, hm =>
      have e : q = n := by omega
      subst e
      rw [if_pos (nI_lt (show q < q + 1 by omega) (by omega))]
      exact ⟨th, rfl⟩
    | i + 1, hq, hm =>
      obtain ⟨t, t1, t2, t3⟩ := layHour_M w th (nI (q + 1))
      have hOt : OkH (2000 : Nat) t := okH_5 hO (B2 := ((2000 : Nat) : Int)) (by rw [t2, e5, nI_add, nI_toInt (by omega)]; omega) t3
      rw [if_neg (nI_nlt (show q + 1 ≤ n by omega) (by omega)), t1, bd1_some, lose_M hOt (by decide) t2 t3, nI_1]
      obtain ⟨t', h'⟩ := kept_M (j := j) hO e5 h9 hn kd k i (q + 1) m t (by omega) (by omega)
      refine ⟨t', Eq.trans ?_ h'⟩
      congr 1
      refine orb_cg (fun c hc => ?_)
      show (frB w j c && !lsB w kd c q && !sLost w kd (w 5 + nI (q + 1)) c) = (frB w j c && !(lsB w kd c q || sLost w kd (w 5 + nI (q + 1)) c))
      rw [Bool.not_or, Bool.and_assoc]

