/-! purses -/
def csN (w : Nat → Int32) (kd x : Int32) : Nat := (sCost w kd x.toNatClampNeg).toInt.toNat
theorem csN_e {B : Int} {w : Nat → Int32} (hO : OkH B w) (kd : Int32) {c : Nat} (hc : c < 15) : sCost w kd c = nI (csN w kd (nI c)) ∧ csN w kd (nI c) ≤ 82 := by
  obtain ⟨x, hx, e⟩ := cost_nat hO kd hc
  unfold csN
  rw [nI_clamp (by omega), e, nI_toInt (by omega)]
  exact ⟨rfl, by omega⟩
def sumN (f : Nat → Nat) : Nat → Nat
  | 0 => 0
  | n + 1 => sumN f n + f n
theorem sumN_le {f : Nat → Nat} : ∀ n, (∀ x, x < n → f x ≤ 82) → sumN f n ≤ 82 * n
  | 0, _ => Nat.le_refl 0
  | n + 1, h => by
    have := sumN_le n (fun x hx => h x (by omega))
    have := h n (by omega)
    show sumN f n + f n ≤ _
    omega
theorem pur_X {items item heights kinds w : Nat → Int32} {B : Int} {a p n k j : Nat} (hO : OkH B w) (ha : a < 8) (hn : p + n ≤ k) (hk : k ≤ 40) (hj : j < 5) (hi : ∀ i : Nat, i < k → items (40 * a + i) = item (40 * a + i)) (hh : ∀ c : Nat, c < 15 → heights c = w (6 + c)) (hkd : kinds j = w (36 + 3 * j)) (hr : 1 ≤ (w (36 + 3 * j)).toInt ∧ (w (36 + 3 * j)).toInt ≤ 5) (hc : ∀ x : Nat, x < n → rng 15 (item (40 * a + p + x))) (h1 : 1 ≤ n) (kx : Int32 → Option (Int32 × Int32)) : ∀ i q m : Nat, q + i = n - 1 → i < m → fX8_purses_L95 items (w 3) heights kinds (nI j) (nI a) (nI p) (nI n) kx m (nI (sumN (fun x => csN w (w (36 + 3 * j)) (item (40 * a + p + x))) q)) (nI q) = kx (nI (sumN (fun x => csN w (w (36 + 3 * j)) (item (40 * a + p + x))) (n - 1)))
  | i, q, m, hq, hm => by
    obtain ⟨m, rfl⟩ : ∃ z, m = z + 1 := ⟨m - 1, by omega⟩
    have e0 : nI n - 1 = nI (n - 1) := by rw [show (1 : Int32) = nI 1 from rfl, pk_sub h1]
    rw [fX8_purses_L95.eq_2, e0]
    match i, hq, hm with
    | 0, hq, hm => rw [if_pos (nI_le (by omega) (by omega)), show q = n - 1 by omega]
    | i + 1, hq, hm =>
      obtain ⟨c, hc2, ec⟩ := rng_of (n := 15) (hc q (by omega)) (by decide)
      have i1 := hi (p + q) (by omega)
      rw [← Nat.add_assoc] at i1
      rw [if_neg (nI_ge (show q < n - 1 by omega) (by omega)), nI_add, item_X items ha (by omega), bd1_some, ← Nat.add_assoc, i1, ec, costTo_X w heights kinds hj hc2 (hh c hc2) hkd hr, bd1_some, (csN_e hO (w (36 + 3 * j)) hc2).1, nI_add, nI_1, ← ec]
      exact pur_X hO ha hn hk hj hi hh hkd hr hc h1 kx i (q + 1) m (by omega) (by omega)
theorem pur_M {item w : Nat → Int32} {B : Int} {a p n j : Nat} (hO : OkH B w) (ha : a < 8) (hn : p + n ≤ 40) (hj : j < 5) (st : Int32) (kk : Int32 → Int32 → Option (Int32 × Int32 × Int32)) : ∀ i q m : Nat, ∀ v6 : Int32, q + i = n → i < m → fX9_purses_L98 st item w (nI j) (nI a) (nI p) (nI n) kk m v6 (nI (sumN (fun x => csN w (w (36 + 3 * j)) (item (40 * a + p + x))) q)) (nI q) = if (∀ x : Nat, x < n → q ≤ x → rng 15 (item (40 * a + p + x))) then kk (if i = 0 then v6 else nI (sumN (fun x => csN w (w (36 + 3 * j)) (item (40 * a + p + x))) (n - 1))) (nI (sumN (fun x => csN w (w (36 + 3 * j)) (item (40 * a + p + x))) n)) else some (-1000001, 0, st)
  | i, q, m, v6, hq, hm => by
    obtain ⟨m, rfl⟩ : ∃ z, m = z + 1 := ⟨m - 1, by omega⟩
    rw [fX9_purses_L98.eq_2]
    match i, hq, hm with
    | 0, hq, hm => rw [if_pos (nI_le (by omega) (by omega)), if_pos (fun x h1 h2 => by omega), if_pos rfl, show q = n by omega]
    | i + 1, hq, hm =>
      have e : 40 * nI a + nI p + nI q = nI (40 * a + p + q) := by rw [r40', nI_add]
      rw [if_neg (nI_ge (show q < n by omega) (by omega)), e, chk_t (nI_in (show 40 * a + p + q < 320 by omega) (by decide)), nI_clamp (n := 40 * a + p + q) (by omega), e_isCell9, bd1_some, if_bI]
      by_cases hr : rng 15 (item (40 * a + p + q))
      · obtain ⟨c, hc2, ec⟩ := rng_of (n := 15) hr (by decide)
        rw [if_pos hr, e_of0 w j hj, bd1_some, ec, cost_M w _ hc2, bd1_some, (csN_e hO (w (36 + 3 * j)) hc2).1, nI_add, nI_1, ← ec]
        rw [show sumN (fun x => csN w (w (36 + 3 * j)) (item (40 * a + p + x))) q + csN w (w (36 + 3 * j)) (item (40 * a + p + q)) = sumN (fun x => csN w (w (36 + 3 * j)) (item (40 * a + p + x))) (q + 1) from rfl, pur_M hO ha hn hj st kk i (q + 1) m _ (by omega) (by omega), if_neg (show ¬ i + 1 = 0 by omega)]
        have e6 : (if i = 0 then nI (sumN (fun x => csN w (w (36 + 3 * j)) (item (40 * a + p + x))) q) else nI (sumN (fun x => csN w (w (36 + 3 * j)) (item (40 * a + p + x))) (n - 1))) = nI (sumN (fun x => csN w (w (36 + 3 * j)) (item (40 * a + p + x))) (n - 1)) := by
          by_cases z : i = 0
          · rw [if_pos z, show n - 1 = q by omega]
          · rw [if_neg z]
        rw [e6]
        by_cases h : ∀ x : Nat, x < n → q + 1 ≤ x → rng 15 (item (40 * a + p + x))
        · rw [if_pos h, if_pos]
          intro x h1 h2
          rcases Nat.lt_or_ge q x with g | g
          · exact h x h1 (by omega)
          · rw [show x = q by omega]; exact hr
        · rw [if_neg h, if_neg (fun h' => h (fun x h1 h2 => h' x h1 (by omega)))]
      · rw [if_neg hr, if_neg (fun h => hr (h q (by omega) (Nat.le_refl _)))]
def cN (lo hi t : Nat) : Nat := min 100 hi - max lo t
def cL (lo hi t : Nat) : Int32 := if cN lo hi t = 0 then -1000000 else nI (max lo t)
theorem fits_M {lo hi : Nat} (hlo : lo < 2 ^ 30) (hhi : hi < 2 ^ 30) (kk : Int32 → Int32 → Option (Int32 × Int32 × Int32)) : ∀ t m : Nat, t ≤ 100 → t < m → fX9_purses_L181 (nI lo) (nI hi) kk m (nI (cN lo hi t)) (cL lo hi t) (nI t + (-1)) = kk (nI (cN lo hi 0)) (cL lo hi 0)
  | t, m, ht, hm => by
    obtain ⟨m, rfl⟩ : ∃ z, m = z + 1 := ⟨m - 1, by omega⟩
    rw [fX9_purses_L181.eq_2]
    match t, ht, hm with
    | 0, ht, hm => rw [if_pos (show nI 0 + (-1) < 0 by decide)]
    | t + 1, ht, hm =>
      have ih := fits_M hlo hhi kk t m (by omega) (by omega)
      rw [pk_m1, if_neg (nI_pos (by omega))]
      unfold fX9_purses_J205 fX9_purses_J219
      rw [if_pos rfl, if_neg n10, if_pos rfl, if_neg n10, add0, nI_1]
      by_cases h1 : t < lo
      · rw [if_pos (nI_lt h1 (by omega)), ← ih, show cL lo hi (t + 1) = cL lo hi t by unfold cL cN; rw [show max lo (t + 1) = max lo t by omega], show cN lo hi (t + 1) = cN lo hi t by unfold cN; omega]
      · rw [if_neg (nI_nlt (by omega) (by omega))]
        by_cases h2 : hi ≤ t
        · rw [if_pos (nI_le h2 (by omega)), ← ih, show cN lo hi (t + 1) = cN lo hi t by unfold cN; omega, show cL lo hi (t + 1) = cL lo hi t by unfold cL cN; rw [if_pos (by omega), if_pos (by omega)]]
        · rw [if_neg (nI_ge (by omega) (by omega)), ← ih, show cN lo hi (t + 1) + 1 = cN lo hi t by unfold cN; omega, show cL lo hi t = nI t by unfold cL cN; rw [if_neg (by omega), show max lo t = t by omega]]
theorem fits_X {a l : Nat} (ha : a < 2 ^ 28) (hl : l < 2 ^ 28) : imax 0 (((imin 99 ((nI a + nI l) - 1)) - nI a) + 1) = nI (cN a (a + l) 0) := by
  rw [nI_add]
  by_cases h0 : a + l = 0
  · obtain ⟨rfl, rfl⟩ : a = 0 ∧ l = 0 := ⟨by omega, by omega⟩
    decide
  · obtain ⟨b, hb⟩ : ∃ b, a + l = b + 1 := ⟨a + l - 1, by omega⟩
    rw [hb, nI_pred]
    have em : imin 99 (nI b) = nI (min 99 b) := by
      unfold imin
      rcases Nat.lt_trichotomy 99 b with q | q | q
      · rw [show min 99 b = 99 by omega]
        first
        | rw [if_pos (show (99 : Int32) < nI b from nI_lt (a := 99) q (by omega))]; rfl
        | rw [if_neg (show ¬ nI b < (99 : Int32) from nI_nlt (b := 99) (by omega) (by omega))]; rfl
        | rw [if_pos (show (99 : Int32) ≤ nI b from nI_le (a := 99) (by omega) (by omega))]; rfl
      · subst q; decide
      · rw [show min 99 b = b by omega]
        first
        | rw [if_neg (show ¬ (99 : Int32) < nI b from nI_nlt (a := 99) (by omega) (by decide))]
        | rw [if_pos (show nI b < (99 : Int32) from nI_lt (b := 99) q (by decide))]
        | rw [if_neg (show ¬ (99 : Int32) ≤ nI b from nI_ge (b := 99) q (by decide))]
    rw [em]
    unfold imax
    by_cases hm : a ≤ min 99 b
    · rw [pk_sub hm, nI_1, if_pos (show (0 : Int32) < nI (min 99 b - a + 1) from nI_lt (a := 0) (by omega) (by omega))]
      congr 1
      unfold cN
      omega
    · have e1 : (nI (min 99 b) - nI a + 1).toInt = ((min 99 b : Nat) : Int) - a + 1 := by
        rw [Int32.toInt_add, pk_sub_toInt (by omega) (by omega), show (1 : Int32).toInt = 1 from rfl, Int.bmod_eq_of_le (by omega) (by omega)]
      rw [if_neg (by rw [Int32.lt_iff_toInt_lt, e1, Int32.toInt_zero]; omega), show cN a (b + 1) 0 = 0 by unfold cN; omega]
      rfl

