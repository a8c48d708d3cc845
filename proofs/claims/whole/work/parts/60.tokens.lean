/-! the tape: tokens of the reference, signs and numbers of the class -/
abbrev fig (x : Int32) : Prop := 48 ≤ x.toInt ∧ x.toInt ≤ 57
abbrev ltr (x : Int32) : Prop := 97 ≤ x.toInt ∧ x.toInt ≤ 122
theorem isFig_X (x : Int32) : fX7_isFigure x = some (bI (fig x)) := by
  unfold fX7_isFigure
  have e1 : x < 48 ↔ x.toInt < 48 := by rw [Int32.lt_iff_toInt_lt]; exact Iff.rfl
  have e2 : 57 < x ↔ 57 < x.toInt := by rw [Int32.lt_iff_toInt_lt]; exact Iff.rfl
  by_cases h1 : x < 48
  · rw [if_pos h1, bI_f (by rw [e1] at h1; omega)]
  · by_cases h2 : 57 < x
    · rw [if_neg h1, if_pos h2, bI_f (by rw [e2] at h2; omega)]
    · rw [if_neg h1, if_neg h2, bI_t (by rw [e1] at h1; rw [e2] at h2; omega)]
theorem isFig_M (x : Int32) : fX9_in x.toInt64 48 57 = some (bI (fig x)) := in_lit (B := 48) (C := 57) x 48 57 rfl rfl
theorem isLtr_M (x : Int32) : fX9_in x.toInt64 97 122 = some (bI (ltr x)) := in_lit (B := 97) (C := 122) x 97 122 rfl rfl
/-- a run of figures, as long as it goes -/
def Run (t : Nat → Int32) (L p r : Nat) : Prop := (∀ i : Nat, i < r → p + i < L ∧ fig (t (p + i))) ∧ (p + r = L ∨ p + r < L ∧ ¬ fig (t (p + r)))
theorem run_ex (t : Nat → Int32) {L : Nat} : ∀ d p : Nat, p + d = L → ∃ r, Run t L p r
  | 0, p, h => ⟨0, fun i hi => absurd hi (Nat.not_lt_zero i), Or.inl (by omega)⟩
  | d + 1, p, h => by
    by_cases hf : fig (t p)
    · obtain ⟨r, h1, h2⟩ := run_ex t (L := L) d (p + 1) (by omega)
      refine ⟨r + 1, fun i hi => ?_, ?_⟩
      · match i, hi with
        | 0, hi => exact ⟨by omega, hf⟩
        | i + 1, hi =>
          rw [show p + (i + 1) = p + 1 + i by omega]
          exact h1 i (by omega)
      · rw [show p + (r + 1) = p + 1 + r by omega]
        exact h2
    · exact ⟨0, fun i hi => absurd hi (Nat.not_lt_zero i), Or.inr ⟨by omega, hf⟩⟩
theorem run_le {t : Nat → Int32} {L p r : Nat} (h : Run t L p r) : p + r ≤ L := by
  rcases h.2 with e | e <;> omega
theorem num_LX {b t : Nat → Int32} {L p r : Nat} (hb : ∀ i : Nat, i < L → b i = t i) (hL : L ≤ 100) (hr : Run t L p r) (k : Int32 → Int32 → Option (Int32 × Int32 × Int32 × Int32)) : fX7_readNumber_L5 b (nI L) (nI p) k FU 0 0 = k (nI r) (itr (fun i v => imin 1000 (((10 * v) + t (p + i)) - 48)) r 0) := by
  have hrL := run_le hr
  refine (for_loop (fun n a i => fX7_readNumber_L5 b (nI L) (nI p) k n i a) r (fun i v => imin 1000 (((10 * v) + t (p + i)) - 48)) (fun a => k (nI r) a) (fun _ _ => True) (fun n i a hi _ => ⟨?_, trivial⟩) (fun n a _ => ?_) 0 trivial FU (fu_big (by omega))).1
  · show fX7_readNumber_L5 b (nI L) (nI p) k (n + 1) (nI i) a = fX7_readNumber_L5 b (nI L) (nI p) k n (nI (i + 1)) (imin 1000 (((10 * a) + t (p + i)) - 48))
    rw [fX7_readNumber_L5.eq_2, nI_add, if_neg (nI_ge (hr.1 i hi).1 (by omega)), chk_t (nI_in (show p + i < 100 by omega) (by decide)), nI_clamp (by omega), hb _ (by omega), isFig_X, bd1_some, if_bI, if_pos (hr.1 i hi).2, chk_nI2 (show p + i < 100 by omega) (by decide), nI_succ]
  · show fX7_readNumber_L5 b (nI L) (nI p) k (n + 1) (nI r) a = k (nI r) a
    rw [fX7_readNumber_L5.eq_2, nI_add]
    rcases hr.2 with e | ⟨h1, h2⟩
    · rw [if_pos (nI_le (by omega) (by omega))]
    · rw [if_neg (nI_ge h1 (by omega)), chk_t (nI_in (show p + r < 100 by omega) (by decide)), nI_clamp (by omega), hb _ h1, isFig_X, bd1_some, if_bI, if_neg h2]
def dg (t : Nat → Int32) (i : Nat) : Nat := (t i).toInt.toNat - 48
theorem dg_e {t : Nat → Int32} {i : Nat} (h : fig (t i)) : t i = nI (48 + dg t i) ∧ dg t i ≤ 9 := by
  obtain ⟨k, hk, e⟩ := nat_of (x := t i) (n := 57) (by omega) (by omega) (by decide)
  unfold dg
  rw [e] at h ⊢
  have h' : 48 ≤ (nI k).toInt ∧ (nI k).toInt ≤ 57 := h
  rw [nI_toInt (by omega)] at h' ⊢
  have e2 : 48 + ((k : Int).toNat - 48) = k := by omega
  rw [e2]
  exact ⟨rfl, by omega⟩
theorem dig_e (v d : Nat) : (10 * nI v + nI (48 + d)) - 48 = nI (10 * v + d) := by
  rw [show (10 : Int32) = nI 10 from rfl, show (48 : Int32) = nI 48 from rfl, pk_mul, nI_add, pk_sub (by omega)]
  exact congrArg nI (by omega)
theorem dig_1 (d : Nat) : nI (48 + d) - 48 = nI d := by
  rw [show (48 : Int32) = nI 48 from rfl, pk_sub (by omega)]
  exact congrArg nI (by omega)
/-- the number that one or two figures say -/
def nv (t : Nat → Int32) (p r : Nat) : Nat := if r = 1 then dg t p else 10 * dg t p + dg t (p + 1)
theorem imin_k {v : Nat} (h : v < 1000) : imin 1000 (nI v) = nI v := by
  unfold imin
  rw [if_pos (show nI v < (1000 : Int32) from nI_lt (b := 1000) h (by decide))]
theorem val_X {t : Nat → Int32} {L p r : Nat} (hr : Run t L p r) (h1 : 1 ≤ r) (h2 : r ≤ 2) : itr (fun i v => imin 1000 (((10 * v) + t (p + i)) - 48)) r 0 = nI (nv t p r) := by
  obtain ⟨a1, a2⟩ := dg_e (hr.1 0 (by omega)).2
  have e0 : imin 1000 (((10 * nI 0) + t (p + 0)) - 48) = nI (dg t p) := by
    rw [a1, dig_e, imin_k (by omega)]
    exact congrArg nI (by rw [Nat.add_zero]; omega)
  rcases (show r = 1 ∨ r = 2 by omega) with rfl | rfl
  · exact e0
  · obtain ⟨b1, b2⟩ := dg_e (hr.1 1 (by omega)).2
    rw [Nat.add_zero] at a2
    show imin 1000 (((10 * (imin 1000 (((10 * nI 0) + t (p + 0)) - 48))) + t (p + 1)) - 48) = nI (nv t p 2)
    rw [e0, b1, dig_e, imin_k (by omega)]
    rfl
/-- the reference's token at a place -/
theorem num_LM {t : Nat → Int32} {L p r : Nat} (hL : L ≤ 100) (hr : Run t L p r) (h1 : 1 ≤ r) (k : Int32 → Int32 → Option (Int32 × Int32 × Int32 × Int32)) : fX9_nextToken_L165 t (nI L) (nI p) k FU (nI p + 1) (t p - 48) = k (nI (p + r)) (itr (fun i v => if (2 : Int32) ≤ nI (p + 1 + i) - nI p then v else ((10 * v) + t (p + 1 + i)) - 48) (r - 1) (t p - 48)) := by
  have hrL := run_le hr
  rw [show nI p + 1 = nI (p + 1) + nI 0 by rw [nI_1, nI_add, Nat.add_zero]]
  refine (for_loop (fun n a i => fX9_nextToken_L165 t (nI L) (nI p) k n (nI (p + 1) + i) a) (r - 1) (fun i v => if (2 : Int32) ≤ nI (p + 1 + i) - nI p then v else ((10 * v) + t (p + 1 + i)) - 48) (fun a => k (nI (p + r)) a) (fun _ _ => True) (fun n i a hi _ => ⟨?_, trivial⟩) (fun n a _ => ?_) _ trivial FU (fu_big (by omega))).1
  · show fX9_nextToken_L165 t (nI L) (nI p) k (n + 1) (nI (p + 1) + nI i) a = fX9_nextToken_L165 t (nI L) (nI p) k n (nI (p + 1) + nI (i + 1)) (if (2 : Int32) ≤ nI (p + 1 + i) - nI p then a else ((10 * a) + t (p + 1 + i)) - 48)
    have hf := hr.1 (i + 1) (by omega)
    rw [show p + (i + 1) = p + 1 + i by omega] at hf
    rw [fX9_nextToken_L165.eq_2, nI_add, nI_add, if_neg (nI_ge hf.1 (by omega)), chk_t (nI_in (show p + 1 + i < 100 by omega) (by decide)), nI_clamp (by omega), isFig_M, bd1_some, if_bI, if_pos hf.2, chk_nI2 (show p + 1 + i < 100 by omega) (by decide), nI_1, show p + 1 + (i + 1) = p + 1 + i + 1 by omega]
    exact ite_arg (fun z => fX9_nextToken_L165 t (nI L) (nI p) k n (nI (p + 1 + i + 1)) z)
  · show fX9_nextToken_L165 t (nI L) (nI p) k (n + 1) (nI (p + 1) + nI (r - 1)) a = k (nI (p + r)) a
    rw [fX9_nextToken_L165.eq_2, nI_add, show p + 1 + (r - 1) = p + r by omega]
    rcases hr.2 with e | ⟨h3, h4⟩
    · rw [if_pos (nI_le (by omega) (by omega))]
    · rw [if_neg (nI_ge h3 (by omega)), chk_t (nI_in (show p + r < 100 by omega) (by decide)), nI_clamp (by omega), isFig_M, bd1_some, if_bI, if_neg h4]
theorem val_M {t : Nat → Int32} {L p r : Nat} (hr : Run t L p r) (h1 : 1 ≤ r) (h2 : r ≤ 2) : itr (fun i v => if (2 : Int32) ≤ nI (p + 1 + i) - nI p then v else ((10 * v) + t (p + 1 + i)) - 48) (r - 1) (t p - 48) = nI (nv t p r) := by
  obtain ⟨a1, a2⟩ := dg_e (hr.1 0 (by omega)).2
  rw [Nat.add_zero] at a1 a2
  rcases (show r = 1 ∨ r = 2 by omega) with rfl | rfl
  · show t p - 48 = nI (dg t p)
    rw [a1, dig_1]
  · obtain ⟨b1, b2⟩ := dg_e (hr.1 1 (by omega)).2
    show (if (2 : Int32) ≤ nI (p + 1 + 0) - nI p then t p - 48 else ((10 * (t p - 48)) + t (p + 1)) - 48) = nI (10 * dg t p + dg t (p + 1))
    rw [if_neg (show ¬ (2 : Int32) ≤ nI (p + 1 + 0) - nI p by
      rw [pk_sub (by omega), show p + 1 + 0 - p = 1 by omega]; decide), show t p - 48 = nI (dg t p) by rw [a1, dig_1], b1, dig_e]
theorem tok_in {t : Nat → Int32} {L p : Nat} (hL : L ≤ 100) (hp : p < L) : fX9_nextToken t (nI L) (nI p) = fX9_nextToken_J34 t (nI L) (nI p) (t p) := by
  unfold fX9_nextToken
  rw [if_neg (nI_ge hp (by omega)), chk_t (nI_in (show p < 100 by omega) (by decide)), nI_clamp (by omega)]
theorem tok_118 {t : Nat → Int32} {L p : Nat} (hL : L ≤ 100) (hp : p < L) (v tk : Int32) (h3 : tk ≠ 3) : fX9_nextToken_J118 t (nI L) (nI p) v tk = some (nI (p + 1), nI p, tk, v) := by
  unfold fX9_nextToken_J118 fX9_nextToken_J142
  rw [if_neg (nI_ge hp (by omega)), if_neg h3, nI_1]
theorem tok_ltr {t : Nat → Int32} {L p : Nat} (hL : L ≤ 100) (hp : p < L) (h : ltr (t p)) : fX9_nextToken t (nI L) (nI p) = some (nI (p + 1), nI p, 2, t p) := by
  rw [tok_in hL hp]
  unfold fX9_nextToken_J34
  rw [if_neg (fun z => by rw [nI_eq (by omega) (by omega)] at z; omega), isLtr_M, bd1_some, if_bI, if_pos h]
  exact tok_118 hL hp _ 2 (by decide)
theorem tok_non {t : Nat → Int32} {L p : Nat} (hL : L ≤ 100) (hp : p < L) (h : ¬ ltr (t p)) (h2 : ¬ fig (t p)) : fX9_nextToken t (nI L) (nI p) = some (nI (p + 1), nI p, if t p = 44 ∨ t p = 59 then 4 else 0, t p) := by
  rw [tok_in hL hp]
  unfold fX9_nextToken_J34
  rw [if_neg (fun z => by rw [nI_eq (by omega) (by omega)] at z; omega), isLtr_M, bd1_some, if_bI, if_neg h, isFig_M, bd1_some, if_bI, if_neg h2, tok_118 hL hp _ 4 (by decide), tok_118 hL hp _ 0 (by decide)]
  by_cases h3 : t p = 44
  · rw [if_pos h3, if_pos (Or.inl h3)]
  · rw [if_neg h3]
    by_cases h4 : t p = 59
    · rw [if_pos h4, if_pos (Or.inr h4)]
    · rw [if_neg h4, if_neg (fun z => z.elim h3 h4)]
theorem tok_fig {t : Nat → Int32} {L p r : Nat} (hL : L ≤ 100) (hr : Run t L p r) (h1 : 1 ≤ r) : ∃ va, fX9_nextToken t (nI L) (nI p) = some (nI (p + r), nI p, if r ≤ 2 then 3 else 0, va) ∧ (r ≤ 2 → va = nI (nv t p r)) := by
  have hrL := run_le hr
  have hp : p < L := by omega
  have hf : fig (t p) := (hr.1 0 (by omega)).2
  refine ⟨_, ?_, fun h2 => val_M hr h1 h2⟩
  rw [tok_in hL hp]
  unfold fX9_nextToken_J34 fX9_nextToken_J118 fX9_nextToken_J142
  rw [if_neg (fun z => by rw [nI_eq (by omega) (by omega)] at z; omega), isLtr_M, bd1_some, if_bI, if_neg (by omega), isFig_M, bd1_some, if_bI, if_pos hf, if_neg (nI_ge hp (by omega)), if_pos rfl, num_LM hL hr h1, pk_sub (by omega), show p + r - p = r by omega]
  by_cases h2 : r ≤ 2
  · rw [if_pos (show nI r ≤ 2 from nI_le (b := 2) h2 (by decide)), if_pos h2]
  · rw [if_neg (show ¬ nI r ≤ 2 from nI_ge (a := 2) (by omega) (by omega)), if_neg h2]
theorem tok_end (t : Nat → Int32) {L : Nat} (hL : L ≤ 100) : fX9_nextToken t (nI L) (nI L) = some (nI L, nI L, 1, -1000000) := by
  unfold fX9_nextToken fX9_nextToken_J34 fX9_nextToken_J118 fX9_nextToken_J142
  rw [if_pos (Int32.le_refl _), if_pos rfl, if_pos (Int32.le_refl _), if_neg (by decide), add0]
/-- the reference stands at a token -/
def At (t : Nat → Int32) (L p : Nat) (cu st tk va : Int32) : Prop := p ≤ L ∧ fX9_nextToken t (nI L) (nI p) = some (cu, st, tk, va)
theorem some4 {a b c d a' b' c' d' : Int32} (h : some (a, b, c, d) = some (a', b', c', d')) : a = a' ∧ b = b' ∧ c = c' ∧ d = d' := by
  cases h
  exact ⟨rfl, rfl, rfl, rfl⟩
theorem at_all {t : Nat → Int32} {L p : Nat} {cu st tk va : Int32} (hL : L ≤ 100) (h : At t L p cu st tk va) : st = nI p ∧ (p = L ∧ tk = 1 ∨ p < L ∧ (ltr (t p) ∧ tk = 2 ∧ va = t p ∧ cu = nI (p + 1) ∨ (t p = 44 ∨ t p = 59) ∧ tk = 4 ∧ va = t p ∧ cu = nI (p + 1) ∨ (∃ r, Run t L p r ∧ 1 ≤ r ∧ cu = nI (p + r) ∧ (r ≤ 2 ∧ tk = 3 ∧ va = nI (nv t p r) ∨ 2 < r ∧ tk = 0)) ∨ ¬ ltr (t p) ∧ ¬ fig (t p) ∧ ¬ (t p = 44 ∨ t p = 59) ∧ tk = 0)) := by
  obtain ⟨hp, h⟩ := h
  by_cases he : p = L
  · subst he
    rw [tok_end t hL] at h
    obtain ⟨_, h2, h3, _⟩ := some4 h
    exact ⟨h2.symm, Or.inl ⟨rfl, h3.symm⟩⟩
  have hpL : p < L := by omega
  by_cases h1 : ltr (t p)
  · rw [tok_ltr hL hpL h1] at h
    obtain ⟨a1, a2, a3, a4⟩ := some4 h
    exact ⟨a2.symm, Or.inr ⟨hpL, Or.inl ⟨h1, a3.symm, a4.symm, a1.symm⟩⟩⟩
  by_cases h2 : fig (t p)
  · obtain ⟨r, hr⟩ := run_ex t (L := L) (L - p) p (by omega)
    have hr1 : 1 ≤ r := Nat.lt_of_not_le (fun z => by
      have e : r = 0 := by omega
      subst e
      rcases hr.2 with q | ⟨_, q⟩
      · omega
      · exact q h2)
    obtain ⟨v, v1, v2⟩ := tok_fig hL hr hr1
    rw [v1] at h
    obtain ⟨a1, a2, a3, a4⟩ := some4 h
    refine ⟨a2.symm, Or.inr ⟨hpL, Or.inr (Or.inr (Or.inl ⟨r, hr, hr1, a1.symm, ?_⟩))⟩⟩
    by_cases h3 : r ≤ 2
    · rw [if_pos h3] at a3
      exact Or.inl ⟨h3, a3.symm, a4.symm.trans (v2 h3)⟩
    · rw [if_neg h3] at a3
      exact Or.inr ⟨by omega, a3.symm⟩
  · rw [tok_non hL hpL h1 h2] at h
    obtain ⟨a1, a2, a3, a4⟩ := some4 h
    by_cases h3 : t p = 44 ∨ t p = 59
    · rw [if_pos h3] at a3
      exact ⟨a2.symm, Or.inr ⟨hpL, Or.inr (Or.inl ⟨h3, a3.symm, a4.symm, a1.symm⟩)⟩⟩
    · rw [if_neg h3] at a3
      exact ⟨a2.symm, Or.inr ⟨hpL, Or.inr (Or.inr (Or.inr ⟨h1, h2, h3, a3.symm⟩))⟩⟩
theorem at_ex (t : Nat → Int32) {L p : Nat} (hL : L ≤ 100) (hp : p ≤ L) : ∃ cu st tk va, At t L p cu st tk va := by
  by_cases he : p = L
  · subst he
    exact ⟨_, _, _, _, hp, tok_end t hL⟩
  have hpL : p < L := by omega
  by_cases h1 : ltr (t p)
  · exact ⟨_, _, _, _, hp, tok_ltr hL hpL h1⟩
  by_cases h2 : fig (t p)
  · obtain ⟨r, hr⟩ := run_ex t (L := L) (L - p) p (by omega)
    have hr1 : 1 ≤ r := Nat.lt_of_not_le (fun z => by
      have e : r = 0 := by omega
      subst e
      rcases hr.2 with q | ⟨_, q⟩
      · omega
      · exact q h2)
    obtain ⟨v, v1, _⟩ := tok_fig hL hr hr1
    exact ⟨_, _, _, _, hp, v1⟩
  · exact ⟨_, _, _, _, hp, tok_non hL hpL h1 h2⟩

