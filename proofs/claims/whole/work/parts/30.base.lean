/-! plain facts on numbers, and on the small methods of both sides -/
abbrev bI (c : Prop) [Decidable c] : Int32 := if c then 1 else 0
abbrev rng (n : Int) (v : Int32) : Prop := 0 ≤ v.toInt ∧ v.toInt < n
theorem bI_0 {c : Prop} [Decidable c] : bI c = 0 ↔ ¬ c := by
  unfold bI
  by_cases h : c <;> simp [h]
theorem bI_01 {c : Prop} [Decidable c] : bI c = 0 ∨ bI c = 1 := by
  unfold bI
  by_cases h : c <;> simp [h]
theorem bI_t {c : Prop} [Decidable c] (h : c) : bI c = 1 := if_pos h
theorem bI_f {c : Prop} [Decidable c] (h : ¬ c) : bI c = 0 := if_neg h
theorem bI_cg {c d : Prop} [Decidable c] [Decidable d] (h : c ↔ d) : bI c = bI d := by
  by_cases hc : c
  · rw [bI_t hc, bI_t (h.mp hc)]
  · rw [bI_f hc, bI_f (fun q => hc (h.mpr q))]
theorem n10 : ¬ (1 : Int32) = 0 := by decide
theorem bd1_some {β a : Type} (y : a) (k : a → Option β) : bd1 (some y) k = k y := rfl
theorem rng_of {n : Nat} {v : Int32} (h : rng n v) (hn : n < 2 ^ 31) : ∃ j : Nat, j < n ∧ v = nI j := by
  obtain ⟨h1, h2⟩ := h
  have h0 : ¬ v < 0 := by rw [Int32.lt_iff_toInt_lt, Int32.toInt_zero]; omega
  obtain ⟨j, hj, e⟩ := nI_of h0
  refine ⟨j, ?_, e⟩
  rw [e, nI_toInt hj] at h2
  omega
theorem rng_nI {n j : Nat} (h : j < n) (hn : n < 2 ^ 31) : rng n (nI j) := by
  unfold rng
  rw [nI_toInt (by omega)]
  omega
theorem ix_ok {n : Nat} {v : Int32} (h : rng n v) : ¬ (v < 0 ∨ n ≤ v.toNatClampNeg) := by
  obtain ⟨h1, h2⟩ := h
  rw [Int32.lt_iff_toInt_lt, Int32.toInt_zero]
  have e : v.toNatClampNeg = v.toInt.toNat := rfl
  rw [e]
  omega
theorem chk_t {α : Type} {c : Prop} [Decidable c] {x : Option α} (h : c) : chk c x = x := if_pos h
theorem cmp_lt0 (x y : Int64) : lg_cmp x y < 0 ↔ x < y := by
  unfold lg_cmp
  by_cases h1 : x > y
  · rw [if_pos h1]
    simp only [gt_iff_lt, Int64.lt_iff_toInt_lt] at h1
    simp only [Int64.lt_iff_toInt_lt]
    constructor
    · intro h; exact absurd h (by decide)
    · intro h; omega
  · rw [if_neg h1]
    by_cases h2 : x = y
    · rw [if_pos h2, h2]
      simp only [Int64.lt_iff_toInt_lt]
      constructor
      · intro h; exact absurd h (by decide)
      · intro h; omega
    · rw [if_neg h2]
      simp only [gt_iff_lt, Int64.lt_iff_toInt_lt] at h1
      have h3 : x.toInt ≠ y.toInt := fun q => h2 (Int64.toInt_inj.mp q)
      simp only [Int64.lt_iff_toInt_lt]
      constructor
      · intro _; omega
      · intro _; decide
theorem cmp_gt0 (x y : Int64) : 0 < lg_cmp x y ↔ y < x := by
  unfold lg_cmp
  by_cases h1 : x > y
  · rw [if_pos h1]
    constructor
    · intro _; exact h1
    · intro _; decide
  · rw [if_neg h1]
    by_cases h2 : x = y
    · rw [if_pos h2, h2]
      simp only [Int64.lt_iff_toInt_lt]
      constructor
      · intro h; exact absurd h (by decide)
      · intro h; omega
    · rw [if_neg h2]
      constructor
      · intro h; exact absurd h (by decide)
      · intro h; exact absurd h h1
theorem cmp_le0 (x y : Int64) : lg_cmp x y ≤ 0 ↔ x ≤ y := by
  rw [← Int32.not_lt, cmp_gt0, Int64.not_lt]
theorem in_eq (a b c : Int32) : fX9_in a.toInt64 b.toInt64 c.toInt64 = some (bI (b.toInt ≤ a.toInt ∧ a.toInt ≤ c.toInt)) := by
  unfold fX9_in
  simp only [cmp_lt0, cmp_gt0, Int64.lt_iff_toInt_lt, Int32.toInt_toInt64]
  by_cases h1 : a.toInt < b.toInt
  · rw [if_pos h1, bI_f (by omega)]
  · rw [if_neg h1]
    by_cases h2 : c.toInt < a.toInt
    · rw [if_pos h2, bI_f (by omega)]
    · rw [if_neg h2, bI_t (by omega)]
theorem in_lit (a b c : Int32) {B C : Int64} (hB : b.toInt64 = B) (hC : c.toInt64 = C) : fX9_in a.toInt64 B C = some (bI (b.toInt ≤ a.toInt ∧ a.toInt ≤ c.toInt)) := by
  rw [← hB, ← hC]; exact in_eq a b c
theorem in_z (a c : Int32) : fX9_in a.toInt64 0 c.toInt64 = some (bI (0 ≤ a.toInt ∧ a.toInt ≤ c.toInt)) := in_lit (B := 0) a 0 c rfl rfl
theorem in_n (a : Int32) (n : Nat) {C : Int64} (hn : n < 2 ^ 31) (hC : (nI n).toInt64 = C) : fX9_in a.toInt64 0 C = some (bI (rng (n + 1) a)) := by
  rw [in_lit (B := 0) (C := C) a 0 (nI n) rfl hC]
  refine congrArg some (bI_cg ?_)
  rw [Int32.toInt_zero, nI_toInt hn]
  unfold rng
  omega
theorem rg_eq (v : Int32) (n : Nat) (hn : n < 2 ^ 31) {N : Int32} (hN : nI n = N) : (if v < 0 then some (0 : Int32) else (if N ≤ v then some 0 else some 1)) = some (bI (rng n v)) := by
  rw [← hN]
  simp only [Int32.lt_iff_toInt_lt, Int32.le_iff_toInt_le, Int32.toInt_zero, nI_toInt hn]
  by_cases h1 : v.toInt < 0
  · rw [if_pos h1, bI_f (by unfold rng; omega)]
  · rw [if_neg h1]
    by_cases h2 : (n : Int) ≤ v.toInt
    · rw [if_pos h2, bI_f (by unfold rng; omega)]
    · rw [if_neg h2, bI_t (by unfold rng; omega)]
theorem e_isCell8 (v : Int32) : fX8_isCell v = some (bI (rng 15 v)) := rg_eq v 15 (by decide) rfl
theorem e_isRow5 (v : Int32) : fX5_isRow v = some (bI (rng 8 v)) := rg_eq v 8 (by decide) rfl
theorem e_isCell9 (v : Int32) : fX9_isCell v = some (bI (rng 15 v)) := by
  unfold fX9_isCell
  rw [in_n (C := 14) v 14 (by decide) rfl]
  exact chk_t bI_01
theorem e_isRow9 (v : Int32) : fX9_isRow v = some (bI (rng 8 v)) := by
  unfold fX9_isRow
  rw [in_n (C := 7) v 7 (by decide) rfl]
  exact chk_t bI_01
theorem e_hasB (z v : Int32) (hz : 0 ≤ z.toInt) : fX3_hasBidder z v = some (bI (rng z.toInt v)) := by
  obtain ⟨k, hk, e⟩ := nI_of (x := z) (by rw [Int32.lt_iff_toInt_lt, Int32.toInt_zero]; omega)
  have h := rg_eq v k hk e.symm
  have h2 : z.toInt = (k : Int) := by rw [e, nI_toInt hk]
  rw [h2]
  exact h
theorem sub1 {z : Int32} (hz : 0 ≤ z.toInt) : (z - 1).toInt = z.toInt - 1 := by
  obtain ⟨k, hk, e⟩ := nI_of (x := z) (by rw [Int32.lt_iff_toInt_lt, Int32.toInt_zero]; omega)
  rw [e, nI_toInt hk]
  rcases k with _ | k
  · rfl
  · rw [show (1 : Int32) = nI 1 from rfl, pk_sub (by omega), nI_toInt (by omega)]
    omega
theorem e_isB (w : Nat → Int32) (v : Int32) (hz : 0 ≤ (w 4).toInt) : fX9_isBidder w v = some (bI (rng (w 4).toInt v)) := by
  unfold fX9_isBidder
  have e4 : (4 : Int32).toNatClampNeg = 4 := rfl
  rw [e4, in_z v (w 4 - 1)]
  refine (chk_t bI_01).trans (congrArg some (bI_cg ?_))
  rw [sub1 hz]
  unfold rng
  omega
theorem e_choice (v : Int32) : fX8_isChoice v = some (bI (rng 2 v)) := by
  unfold fX8_isChoice
  by_cases h0 : v = 0
  · rw [if_pos h0, h0]; rfl
  · rw [if_neg h0]
    by_cases h1 : v = 1
    · rw [if_pos h1, h1]; rfl
    · rw [if_neg h1, bI_f]
      rintro ⟨a, b⟩
      have n0 := ne_tn h0 (z := 0) rfl
      have n1 := ne_tn h1 (z := 1) rfl
      omega
/-- the branch on a question that both sides ask -/
theorem if_bI {α : Type} {c : Prop} [Decidable c] {x y : α} : (if bI c = 0 then x else y) = if c then y else x := by
  by_cases h : c
  · rw [if_neg (by rw [bI_t h]; exact n10), if_pos h]
  · rw [if_pos (bI_f h), if_neg h]
theorem nI_lit (n : Nat) : (OfNat.ofNat n : Int32) = nI n := rfl
theorem tn_nI {j : Nat} (h : j < 2 ^ 31) : (nI j).toNatClampNeg = j := nI_clamp h
theorem add_tn {a j : Nat} {A : Int32} (hA : nI a = A) (h : a + j < 2 ^ 31) : (A + nI j).toNatClampNeg = a + j := by
  rw [← hA, nI_add, nI_clamp h]
theorem add_ok {a j n : Nat} {A : Int32} (hA : nI a = A) (h : a + j < n) (hn : n < 2 ^ 31) : ¬ (A + nI j < 0 ∨ n ≤ (A + nI j).toNatClampNeg) := by
  rw [← hA, nI_add]
  exact nI_in h hn
theorem e_ofk (w : Nat → Int32) (j k : Nat) (hj : j < 5) (hk : k < 3) : fX9_of w (nI j) (nI k) = some (w (36 + 3 * j + k)) := by
  unfold fX9_of
  have e : (36 + (3 * nI j)) + nI k = nI (36 + 3 * j + k) := by
    show (nI 36 + (nI 3 * nI j)) + nI k = _
    rw [pk_mul, nI_add, nI_add]
  rw [e, chk_t (nI_in (by omega) (by decide)), nI_clamp (by omega)]
theorem e_of0 (w : Nat → Int32) (j : Nat) (hj : j < 5) : fX9_of w (nI j) 0 = some (w (36 + 3 * j)) := e_ofk w j 0 hj (by decide)
theorem e_of1 (w : Nat → Int32) (j : Nat) (hj : j < 5) : fX9_of w (nI j) 1 = some (w (37 + 3 * j)) := by
  rw [show (37 + 3 * j) = 36 + 3 * j + 1 by omega]; exact e_ofk w j 1 hj (by decide)
theorem e_of2 (w : Nat → Int32) (j : Nat) (hj : j < 5) : fX9_of w (nI j) 2 = some (w (38 + 3 * j)) := by
  rw [show (38 + 3 * j) = 36 + 3 * j + 2 by omega]; exact e_ofk w j 2 hj (by decide)
/-- a bidder's number -/
theorem bid_of {w : Nat → Int32} {v : Int32} (hO : OkI w) (hv : rng (w 4).toInt v) : ∃ j : Nat, j < 5 ∧ (j : Int) < (w 4).toInt ∧ v = nI j := by
  have h5 := hO.2.1.2
  have hv5 : rng (5 : Nat) v := ⟨hv.1, by have := hv.2; omega⟩
  obtain ⟨j, hj, ev⟩ := rng_of hv5 (by decide)
  exact ⟨j, hj, by have := hv.2; rw [ev, nI_toInt (by omega)] at this; exact this, ev⟩
theorem ex_and2 {P : Int32 → Prop} {Q : Int32 → Int32 → Prop} {I : Prop} (h : ∃ r t, P r ∧ Q r t) (hI : I) : ∃ r t, P r ∧ Q r t ∧ I := by
  obtain ⟨r, t, a, b⟩ := h
  exact ⟨r, t, a, b, hI⟩
theorem ex_and3 {P : Int32 → Prop} {Q : Int32 → Int32 → (Nat → Int32) → Prop} {I : Prop} (h : ∃ r t z, P r ∧ Q r t z) (hI : I) : ∃ r t z, P r ∧ Q r t z ∧ I := by
  obtain ⟨r, t, z, a, b⟩ := h
  exact ⟨r, t, z, a, b, hI⟩
theorem nI_in2 {c N : Nat} (h : c < N) (hN : N < 2 ^ 31) : ¬ (nI c < 0 ∨ N ≤ c) := fun q => q.elim (nI_pos (by omega)) (fun q => by omega)
theorem chk_nI {α : Type} {j N : Nat} (h : j < N) (hN : N < 2 ^ 31) (x : Option α) : chk (¬ (nI j < 0 ∨ N ≤ (nI j).toNatClampNeg)) x = x := chk_t (nI_in h hN)
theorem chk_nI2 {α : Type} {j N : Nat} (h : j < N) (hN : N < 2 ^ 31) (x : Option α) : chk (¬ (nI j < 0 ∨ N ≤ j)) x = x := chk_t (nI_in2 h hN)

