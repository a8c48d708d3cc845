/-! parts -/
def cnt (v : Int32) : Nat → Nat
  | 0 => 0
  | n + 1 => cnt v n + (if bt v n = true then 1 else 0)
theorem cnt_le (v : Int32) : ∀ n, cnt v n ≤ n
  | 0 => Nat.le_refl 0
  | n + 1 => by
    have := cnt_le v n
    show cnt v n + (if bt v n = true then 1 else 0) ≤ n + 1
    by_cases h : bt v n = true
    · rw [if_pos h]; omega
    · rw [if_neg h]; omega
theorem cnt_mono {v u : Int32} : ∀ {n : Nat}, (∀ i, i < n → bt v i = true → bt u i = true) → cnt v n ≤ cnt u n
  | 0, _ => Nat.le_refl 0
  | n + 1, h => by
    have ih := cnt_mono (n := n) (fun i hi => h i (by omega))
    show cnt v n + (if bt v n = true then 1 else 0) ≤ cnt u n + (if bt u n = true then 1 else 0)
    by_cases h1 : bt v n = true
    · rw [if_pos h1, if_pos (h n (by omega) h1)]; omega
    · rw [if_neg h1]; omega
theorem cnt_lt {v u : Int32} : ∀ {n : Nat}, (∀ i, i < n → bt v i = true → bt u i = true) → ∀ {j : Nat}, j < n → bt v j = false → bt u j = true → cnt v n < cnt u n
  | 0, _, j, hj, _, _ => absurd hj (Nat.not_lt_zero j)
  | n + 1, h, j, hj, h1, h2 => by
    show cnt v n + (if bt v n = true then 1 else 0) < cnt u n + (if bt u n = true then 1 else 0)
    by_cases e : j = n
    · rw [e] at h1 h2
      have := cnt_mono (n := n) (fun i hi => h i (by omega))
      rw [h1, if_neg (by decide), if_pos h2]; omega
    · have ih := cnt_lt (n := n) (fun i hi => h i (by omega)) (show j < n by omega) h1 h2
      by_cases h3 : bt v n = true
      · rw [if_pos h3, if_pos (h n (by omega) h3)]; omega
      · rw [if_neg h3]; omega
theorem cnt_0 {v : Int32} (hv : Set15 v) (h : cnt v 15 = 0) : v = 0 := by
  apply b_ext
  intro i hi
  rw [b_0]
  by_cases h5 : i < 15
  · cases e : bt v i with
    | false => rfl
    | true =>
      have := cnt_lt (v := 0) (u := v) (n := 15) (fun j _ q => by rw [b_0] at q; cases q) h5 (b_0 i) e
      omega
  · exact hv i hi (by omega)
theorem ne0_bit {v : Int32} (h : v ≠ 0) : ∃ i, i < 32 ∧ bt v i = true := by
  apply Classical.byContradiction
  intro q
  apply h
  apply b_ext
  intro i hi
  rw [b_0]
  cases e : bt v i with
  | false => rfl
  | true => exact absurd ⟨i, hi, e⟩ q
theorem low_ne {v : Int32} (h : v ≠ 0) : v &&& (-v) ≠ 0 := by
  intro q
  apply h
  have q1 : v.toBitVec &&& (-v.toBitVec) = 0#32 := by
    have := congrArg Int32.toBitVec q
    rw [Int32.toBitVec_and, Int32.toBitVec_neg] at this
    exact this
  have q2 := BitVec.add_eq_or_of_and_eq_zero _ _ q1
  rw [BitVec.add_right_neg] at q2
  apply Int32.toBitVec_inj.mp
  apply BitVec.eq_of_getLsbD_eq
  intro i hi
  have e := congrArg (fun x => BitVec.getLsbD x i) q2
  simp only [BitVec.getLsbD_or, BitVec.getLsbD_zero] at e
  have e2 : v.toBitVec.getLsbD i = false := by
    cases z : v.toBitVec.getLsbD i with
    | false => rfl
    | true => rw [z, Bool.true_or] at e; cases e
  rw [e2]
  exact (b_0 i).symm
theorem s15_and {a : Int32} (h : Set15 a) (b : Int32) : Set15 (a &&& b) := fun i hi h5 => by rw [b_and, h i hi h5, Bool.false_and]
theorem s15_or {a b : Int32} (h : Set15 a) (h2 : Set15 b) : Set15 (a ||| b) := fun i hi h5 => by rw [b_or, h i hi h5, h2 i hi h5, Bool.false_or]
theorem s15_orb (p : Nat → Bool) : Set15 (orb p 15) := fun i hi h5 => by rw [bt_orb p (by decide) hi, decide_eq_false (by omega), Bool.false_and]
theorem s15_all {a : Int32} (h : Set15 a) : a &&& 32767 = a := by
  apply b_ext
  intro i hi
  rw [b_and, bt_all i hi]
  by_cases h5 : i < 15
  · rw [decide_eq_true h5, Bool.and_true]
  · rw [h i hi (by omega), Bool.false_and]
theorem grow_eq (S D : Int32) : S ||| ((nbS S &&& D) &&& (S ^^^ (-1))) = S ||| (nbS S &&& D) := by
  apply b_ext
  intro i hi
  rw [b_or, b_or, b_and, bt_not hi]
  cases bt S i <;> simp
theorem flood {β : Type} {D : Int32} (hD : Set15 D) (k : Int32 → Option β) : ∀ (j t : Nat) (S : Int32) (n n' : Nat), t + j = 15 → Set15 S → t + 1 ≤ cnt S 15 → j < n → j < n' →
    ∃ P, fX6_partFrom_L4 D n S (nI t) = some P ∧ (∀ (k : Int32 → Option Int32), fX9_partsOf_L25 D k n' S ((nbS S &&& D) &&& (S ^^^ (-1))) = k P) ∧ (∀ i, bt S i = true → bt P i = true)
  | 0, t, S, n, n', ht, hS, hc, hn, hn' => by
    have := cnt_le S 15
    omega
  | j + 1, t, S, n, n', ht, hS, hc, hn, hn' => by
    obtain ⟨m, rfl⟩ : ∃ m, n = m + 1 := ⟨n - 1, by omega⟩
    obtain ⟨m', rfl⟩ : ∃ m, n' = m + 1 := ⟨n' - 1, by omega⟩
    have h15 : ¬ (15 : Int32) ≤ nI t := le15 (by omega)
    by_cases hF : (nbS S &&& D) &&& (S ^^^ (-1)) = 0
    · have e : S ||| (nbS S &&& D) = S := by rw [← grow_eq, hF, or0]
      refine ⟨S, ?_, fun k => ?_, fun i h => h⟩
      · rw [fX6_partFrom_L4.eq_2, if_neg h15, beside_X hS, bd1_some, if_pos e]
      · rw [fX9_partsOf_L25.eq_2, if_pos hF]
    · obtain ⟨i, hi, hb⟩ := ne0_bit hF
      rw [b_and, b_and, bt_not hi, Bool.and_eq_true, Bool.and_eq_true] at hb
      obtain ⟨⟨b1, b2⟩, b3⟩ := hb
      have b4 : bt S i = false := by simpa using b3
      have i15 : i < 15 := by
        apply Classical.byContradiction
        intro q
        rw [nbS_15 S i hi (by omega)] at b1
        cases b1
      have b5 : bt (S ||| (nbS S &&& D)) i = true := by rw [b_or, b_and, b1, b2, b4]; rfl
      have hne : ¬ S ||| (nbS S &&& D) = S := fun q => by rw [q, b4] at b5; cases b5
      have hS2 : Set15 (S ||| (nbS S &&& D)) := s15_or hS (s15_and (nbS_15 S) D)
      have hlt : cnt S 15 < cnt (S ||| (nbS S &&& D)) 15 := cnt_lt (fun q _ h => by rw [b_or, h, Bool.true_or]) i15 b4 b5
      obtain ⟨P, p1, p2, p3⟩ := flood hD k j (t + 1) (S ||| (nbS S &&& D)) m m' (by omega) hS2 (by omega) (by omega) (by omega)
      refine ⟨P, ?_, fun k => ?_, fun q h => p3 q (by rw [b_or, h, Bool.true_or])⟩
      · rw [fX6_partFrom_L4.eq_2, if_neg h15, beside_X hS, bd1_some, if_neg hne, ← nI_succ, p1]
      · rw [fX9_partsOf_L25.eq_2, if_neg hF, grow_eq, beside_M, bd1_some, p2]
theorem parts_L : ∀ (j t : Nat) (D c : Int32) (n n' : Nat), t + j = 15 → Set15 D → cnt D 15 ≤ j → j < n → j < n' → ∃ r, fX6_parts_L10 n D c (nI t) = some r ∧ fX9_partsOf_L4 n' D c = some r
  | j, t, D, c, n, n', ht, hD, hc, hn, hn' => by
    obtain ⟨m, rfl⟩ : ∃ m, n = m + 1 := ⟨n - 1, by omega⟩
    obtain ⟨m', rfl⟩ : ∃ m, n' = m + 1 := ⟨n' - 1, by omega⟩
    by_cases h0 : D = 0
    · refine ⟨c, ?_, ?_⟩
      · rw [fX6_parts_L10.eq_2]
        by_cases h5 : (15 : Int32) ≤ nI t
        · rw [if_pos h5]
        · rw [if_neg h5, if_pos h0]
      · rw [fX9_partsOf_L4.eq_2, if_pos h0]
    · match j, ht, hc, hn, hn' with
      | 0, ht, hc, hn, hn' => exact absurd (cnt_0 hD (by omega)) h0
      | j + 1, ht, hc, hn, hn' =>
        have hl := low_ne h0
        have hl15 : Set15 (D &&& (-D)) := s15_and hD _
        obtain ⟨i, hi, hb⟩ := ne0_bit hl
        have i15 : i < 15 := by
          apply Classical.byContradiction
          intro q
          rw [hl15 i hi (by omega)] at hb
          cases hb
        have hc1 : 0 + 1 ≤ cnt (D &&& (-D)) 15 := by
          have := cnt_lt (v := 0) (u := D &&& (-D)) (n := 15) (fun q _ h => by rw [b_0] at h; cases h) i15 (b_0 i) hb
          omega
        obtain ⟨P, p1, p2, p3⟩ := flood (β := Int32) hD (fun x => some x) 15 0 (D &&& (-D)) FU FU (by omega) hl15 hc1 (fu_big (by decide)) (fu_big (by decide))
        have hbD : bt D i = true := by rw [b_and, Bool.and_eq_true] at hb; exact hb.1
        have hlt : cnt (D &&& (P ^^^ (-1))) 15 < cnt D 15 := cnt_lt (fun q hq h => by rw [b_and, Bool.and_eq_true] at h; exact h.1) i15 (by rw [b_and, bt_not hi, p3 i hb]; simp) hbD
        obtain ⟨r, r1, r2⟩ := parts_L j (t + 1) (D &&& (P ^^^ (-1))) (c + 1) m m' (by omega) (s15_and hD _) (by omega) (by omega) (by omega)
        refine ⟨r, ?_, ?_⟩
        · rw [fX6_parts_L10.eq_2, if_neg (le15 (by omega)), if_neg h0]
          unfold fX6_partFrom
          rw [show fX6_partFrom_L4 D FU (D &&& (-D)) 0 = some P from p1, bd1_some, ← nI_succ, r1]
        · rw [fX9_partsOf_L4.eq_2, if_neg h0, beside_M, bd1_some, p2, r2]
theorem parts_both {v : Int32} (hv : Set15 v) : ∃ r, fX6_parts v = some r ∧ fX9_partsOf v = some r := by
  unfold fX6_parts fX9_partsOf
  rw [s15_all hv]
  exact parts_L 15 0 v 0 FU FU (by omega) hv (cnt_le v 15) (fu_big (by decide)) (fu_big (by decide))

