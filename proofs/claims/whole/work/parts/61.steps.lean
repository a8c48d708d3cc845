/-! one step of both readers; and the reference once it has a fault -/
theorem a_bd4 {α1 α2 α3 α4 γ : Type} (a : α1) (b : α2) (c : α3) (d : α4) (k : α1 → α2 → α3 → α4 → Option γ) : bd4 (some (a, b, c, d)) k = k a b c d := rfl
theorem a_bd5 {α1 α2 α3 α4 α5 γ : Type} (a : α1) (b : α2) (c : α3) (d : α4) (e : α5) (k : α1 → α2 → α3 → α4 → α5 → Option γ) : bd5 (some (a, b, c, d, e)) k = k a b c d e := rfl
theorem a_bd6 {α1 α2 α3 α4 α5 α6 γ : Type} (a : α1) (b : α2) (c : α3) (d : α4) (e : α5) (f : α6) (k : α1 → α2 → α3 → α4 → α5 → α6 → Option γ) : bd6 (some (a, b, c, d, e, f)) k = k a b c d e f := rfl
theorem a_bd7 {α1 α2 α3 α4 α5 α6 α7 γ : Type} (a : α1) (b : α2) (c : α3) (d : α4) (e : α5) (f : α6) (g : α7) (k : α1 → α2 → α3 → α4 → α5 → α6 → α7 → Option γ) : bd7 (some (a, b, c, d, e, f, g)) k = k a b c d e f g := rfl
theorem a_bd8 {α1 α2 α3 α4 α5 α6 α7 α8 γ : Type} (a : α1) (b : α2) (c : α3) (d : α4) (e : α5) (f : α6) (g : α7) (h : α8) (k : α1 → α2 → α3 → α4 → α5 → α6 → α7 → α8 → Option γ) : bd8 (some (a, b, c, d, e, f, g, h)) k = k a b c d e f g h := rfl
theorem must_1 {t : Nat → Int32} {L q : Nat} (hL : L ≤ 100) (hq : q ≤ L) (st tk va fa : Int32) : ∃ cu2 st2 tk2 va2, fX9_must t (nI L) (nI q) st tk va 0 fa 1 = some (cu2, st2, tk2, va2, 0, fa) ∧ At t L q cu2 st2 tk2 va2 := by
  obtain ⟨cu2, st2, tk2, va2, h⟩ := at_ex t hL hq
  refine ⟨cu2, st2, tk2, va2, ?_, h⟩
  unfold fX9_must
  rw [if_neg n10, if_pos rfl, h.2, a_bd4]
theorem must_0 (t : Nat → Int32) (l cu st tk va fa : Int32) : fX9_must t l cu st tk va 0 fa 0 = some (cu, st, tk, va, 1, st) := by
  unfold fX9_must fX9_bad
  rw [if_pos rfl, if_pos rfl, a_bd2, if_neg n10]
theorem fz_bad {f : Int32} (hf : f ≠ 0) (st fa n : Int32) : fX9_bad st f fa n = some (f, fa) := by
  unfold fX9_bad
  rw [if_neg hf]
theorem fz_must {f : Int32} (hf : f ≠ 0) (t : Nat → Int32) (l cu st tk va fa v : Int32) : fX9_must t l cu st tk va f fa v = some (cu, st, tk, va, f, fa) := by
  unfold fX9_must
  rw [fz_bad hf, a_bd2, if_neg hf, ite_self]
theorem fz_letter {f : Int32} (hf : f ≠ 0) (tk va c : Int32) : fX9_isLetter tk va f c = some 0 := by
  unfold fX9_isLetter
  rw [if_neg hf]
theorem fz_sort {f : Int32} (hf : f ≠ 0) (tk va : Int32) : fX9_isSort tk va f = some 0 := by
  unfold fX9_isSort
  rw [if_neg hf]
theorem fz_number {f : Int32} (hf : f ≠ 0) (t : Nat → Int32) (l cu st tk va fa lo hi : Int32) : fX9_number t l cu st tk va f fa lo hi = some (lo, cu, st, tk, va, f, fa) := by
  unfold fX9_number fX9_number_J20 fX9_number_J47
  rw [if_neg hf, if_neg hf, if_neg hf, fz_must hf, a_bd6]
theorem fz_sign {f : Int32} (hf : f ≠ 0) (t : Nat → Int32) (l cu st tk va fa c : Int32) : fX9_mustSign t l cu st tk va f fa c = some (cu, st, tk, va, f, fa) := by
  unfold fX9_mustSign
  rw [fz_must hf, a_bd6, fz_must hf, a_bd6, ite_self, ite_self]
theorem next_X {b t : Nat → Int32} {L p : Nat} (hb : ∀ i : Nat, i < L → b i = t i) (hL : L ≤ 100) (hp : p ≤ L) : fX7_next b (nI L) (nI p) = some (if p < L then t p else -1) := by
  unfold fX7_next
  by_cases h : p < L
  · rw [if_neg (nI_ge h (by omega)), chk_t (nI_in (show p < 100 by omega) (by decide)), nI_clamp (by omega), hb p h, if_pos h]
  · rw [if_pos (nI_le (show L ≤ p by omega) (by omega)), if_neg h]
theorem sign_XT {b t : Nat → Int32} {L p : Nat} {c : Int32} (hb : ∀ i : Nat, i < L → b i = t i) (hL : L ≤ 100) (hp : p < L) (hc : t p = c) (fn : Int32) : fX7_readSign b (nI L) (nI p) fn c = some (1, nI (p + 1), fn) := by
  unfold fX7_readSign
  rw [next_X hb hL (by omega), if_pos hp, bd1_some, if_pos hc, nI_1]
theorem sign_XF {b t : Nat → Int32} {L p : Nat} {c : Int32} (hb : ∀ i : Nat, i < L → b i = t i) (hL : L ≤ 100) (hp : p ≤ L) (h1 : c ≠ -1) (hc : ¬ (p < L ∧ t p = c)) (fn : Int32) : fX7_readSign b (nI L) (nI p) fn c = some (0, nI p, 1) := by
  unfold fX7_readSign fX7_fails
  rw [next_X hb hL hp, bd1_some, if_neg (fun z => by
    by_cases q : p < L
    · rw [if_pos q] at z; exact hc ⟨q, z⟩
    · rw [if_neg q] at z; exact h1 z.symm), a_bd2, chk_t (Or.inl rfl)]
theorem sign_step {b t : Nat → Int32} {L p : Nat} {c cu st tk va : Int32} (hb : ∀ i : Nat, i < L → b i = t i) (hL : L ≤ 100) (hc : c = 44 ∨ c = 59) (hA : At t L p cu st tk va) (fn fa : Int32) :
    (p < L ∧ fX7_readSign b (nI L) (nI p) fn c = some (1, nI (p + 1), fn) ∧ ∃ cu2 st2 tk2 va2, fX9_mustSign t (nI L) cu st tk va 0 fa c = some (cu2, st2, tk2, va2, 0, fa) ∧ At t L (p + 1) cu2 st2 tk2 va2) ∨ (fX7_readSign b (nI L) (nI p) fn c = some (0, nI p, 1) ∧ fX9_mustSign t (nI L) cu st tk va 0 fa c = some (cu, st, tk, va, 1, nI p)) := by
  obtain ⟨hst, hcs⟩ := at_all hL hA
  have n1 : c ≠ -1 := by rcases hc with rfl | rfl <;> decide
  have nl : ¬ ltr c := by rcases hc with rfl | rfl <;> decide
  have nf : ¬ fig c := by rcases hc with rfl | rfl <;> decide
  have key : ¬ (p < L ∧ t p = c) → ¬ (tk = 4 ∧ va = c) → (fX7_readSign b (nI L) (nI p) fn c = some (0, nI p, 1) ∧ fX9_mustSign t (nI L) cu st tk va 0 fa c = some (cu, st, tk, va, 1, nI p)) := fun h1 h2 => by
    refine ⟨sign_XF hb hL hA.1 n1 h1 fn, ?_⟩
    unfold fX9_mustSign
    rw [must_0, a_bd6, ← hst]
    by_cases q : tk = 4
    · rw [if_pos q, if_neg (fun z => h2 ⟨q, z⟩)]
    · rw [if_neg q]
  rcases hcs with ⟨e, h1⟩ | ⟨hp, ⟨h1, h2, h3, h4⟩ | ⟨h1, h2, h3, h4⟩ | ⟨r, h1, h2, h3, h4⟩ | ⟨h1, h2, h3, h4⟩⟩
  · exact Or.inr (key (fun z => by omega) (fun z => by rw [h1] at z; exact absurd z.1 (by decide)))
  · exact Or.inr (key (fun z => nl (z.2 ▸ h1)) (fun z => by rw [h2] at z; exact absurd z.1 (by decide)))
  · by_cases hq : t p = c
    · refine Or.inl ⟨hp, sign_XT hb hL hp hq fn, ?_⟩
      obtain ⟨cu2, st2, tk2, va2, m1, m2⟩ := must_1 hL (show p + 1 ≤ L by omega) st tk va fa
      refine ⟨cu2, st2, tk2, va2, ?_, m2⟩
      unfold fX9_mustSign
      rw [if_pos h2, if_pos (h3.trans hq), h4, m1, a_bd6]
    · exact Or.inr (key (fun z => hq z.2) (fun z => hq (h3 ▸ z.2)))
  · have hf : fig (t p) := (h1.1 0 (by omega)).2
    refine Or.inr (key (fun z => nf (z.2 ▸ hf)) (fun z => ?_))
    rcases h4 with ⟨_, h5, _⟩ | ⟨_, h5⟩ <;> (rw [h5] at z; exact absurd z.1 (by decide))
  · exact Or.inr (key (fun z => h3 (z.2 ▸ hc)) (fun z => by rw [h4] at z; exact absurd z.1 (by decide)))
theorem letter_step {b t : Nat → Int32} {L p : Nat} {c cu st tk va : Int32} (hb : ∀ i : Nat, i < L → b i = t i) (hL : L ≤ 100) (hc : ltr c) (hA : At t L p cu st tk va) (fn fa : Int32) :
    (p < L ∧ fX7_readSign b (nI L) (nI p) fn c = some (1, nI (p + 1), fn) ∧ fX9_isLetter tk va 0 c = some 1 ∧ ∃ cu2 st2 tk2 va2, fX9_must t (nI L) cu st tk va 0 fa 1 = some (cu2, st2, tk2, va2, 0, fa) ∧ At t L (p + 1) cu2 st2 tk2 va2) ∨ (fX7_readSign b (nI L) (nI p) fn c = some (0, nI p, 1) ∧ fX9_isLetter tk va 0 c = some 0 ∧ fX9_must t (nI L) cu st tk va 0 fa 0 = some (cu, st, tk, va, 1, nI p)) := by
  obtain ⟨hst, hcs⟩ := at_all hL hA
  have n1 : c ≠ -1 := fun z => by rw [z] at hc; exact absurd hc (by decide)
  have key : ¬ (p < L ∧ t p = c) → ¬ (tk = 2 ∧ va = c) → (fX7_readSign b (nI L) (nI p) fn c = some (0, nI p, 1) ∧ fX9_isLetter tk va 0 c = some 0 ∧ fX9_must t (nI L) cu st tk va 0 fa 0 = some (cu, st, tk, va, 1, nI p)) := fun h1 h2 => by
    refine ⟨sign_XF hb hL hA.1 n1 h1 fn, ?_, by rw [must_0, ← hst]⟩
    unfold fX9_isLetter
    rw [if_pos rfl]
    by_cases q : tk = 2
    · rw [if_pos q, if_neg (fun z => h2 ⟨q, z⟩)]
    · rw [if_neg q]
  rcases hcs with ⟨e, h1⟩ | ⟨hp, ⟨h1, h2, h3, h4⟩ | ⟨h1, h2, h3, h4⟩ | ⟨r, h1, h2, h3, h4⟩ | ⟨h1, h2, h3, h4⟩⟩
  · exact Or.inr (key (fun z => by omega) (fun z => by rw [h1] at z; exact absurd z.1 (by decide)))
  · by_cases hq : t p = c
    · refine Or.inl ⟨hp, sign_XT hb hL hp hq fn, ?_, ?_⟩
      · unfold fX9_isLetter
        rw [if_pos rfl, if_pos h2, if_pos (h3.trans hq)]
      · obtain ⟨cu2, st2, tk2, va2, m1, m2⟩ := must_1 hL (show p + 1 ≤ L by omega) st tk va fa
        exact ⟨cu2, st2, tk2, va2, by rw [h4, m1], m2⟩
    · exact Or.inr (key (fun z => hq z.2) (fun z => hq (h3 ▸ z.2)))
  · refine Or.inr (key (fun z => ?_) (fun z => by rw [h2] at z; exact absurd z.1 (by decide)))
    rw [← z.2] at hc
    rcases h1 with q | q <;> (rw [q] at hc; exact absurd hc (by decide))
  · have hf : fig (t p) := (h1.1 0 (by omega)).2
    refine Or.inr (key (fun z => ?_) (fun z => ?_))
    · rw [← z.2] at hc
      omega
    · rcases h4 with ⟨_, h5, _⟩ | ⟨_, h5⟩ <;> (rw [h5] at z; exact absurd z.1 (by decide))
  · exact Or.inr (key (fun z => h1 (z.2 ▸ hc)) (fun z => by rw [h4] at z; exact absurd z.1 (by decide)))
/-- the number of a fault -/
abbrev fnum (f : Int32) : Prop := f = 1 ∨ f = 2 ∨ f = 3
theorem fnum_0 {f : Int32} (h : fnum f) : f ≠ 0 := by rcases h with rfl | rfl | rfl <;> decide
theorem num_step {b t : Nat → Int32} {L p l h : Nat} {cu st tk va : Int32} (hb : ∀ i : Nat, i < L → b i = t i) (hL : L ≤ 100) (hl : l < 1000) (hh : h < 1000) (hA : At t L p cu st tk va) (nm fn fa : Int32) :
    (∃ q v cu2 st2 tk2 va2, fX7_readNumber b (nI L) (nI p) nm fn (nI l) (nI h) = some (1, nI q, nI v, fn) ∧ fX9_number t (nI L) cu st tk va 0 fa (nI l) (nI h) = some (nI v, cu2, st2, tk2, va2, 0, fa) ∧ At t L q cu2 st2 tk2 va2 ∧ l ≤ v ∧ v ≤ h ∧ p < q) ∨ (∃ f, fnum f ∧ fX7_readNumber b (nI L) (nI p) nm fn (nI l) (nI h) = some (0, nI p, nm, f) ∧ fX9_number t (nI L) cu st tk va 0 fa (nI l) (nI h) = some (nI l, cu, st, tk, va, f, nI p)) := by
  obtain ⟨hst, hcs⟩ := at_all hL hA
  obtain ⟨r, hr⟩ := run_ex t (L := L) (L - p) p (by have := hA.1; omega)
  have hrL := run_le hr
  have hX := num_LX hb hL hr
  -- what is no number
  have key : ¬ (1 ≤ r ∧ r ≤ 2) → tk ≠ 3 → (fX7_readNumber b (nI L) (nI p) nm fn (nI l) (nI h) = some (0, nI p, nm, 1) ∧ fX9_number t (nI L) cu st tk va 0 fa (nI l) (nI h) = some (nI l, cu, st, tk, va, 1, nI p)) := fun h1 h2 => by
    constructor
    · unfold fX7_readNumber fX7_fails
      rw [hX]
      by_cases q : r < 1
      · rw [if_pos (show nI r < 1 from nI_lt (b := 1) q (by decide)), a_bd2, chk_t (Or.inl rfl)]
      · rw [if_neg (show ¬ nI r < 1 from nI_nlt (b := 1) (by omega) (by omega)), if_neg (show ¬ nI r ≤ 2 from nI_ge (a := 2) (by omega) (by omega)), a_bd2, chk_t (Or.inl rfl)]
    · unfold fX9_number fX9_bad fX9_number_J20 fX9_number_J47
      rw [if_pos rfl, if_neg h2, if_pos rfl, a_bd2, if_neg n10, if_neg n10, fz_must n10, a_bd6, hst]
  rcases hcs with ⟨e, h1⟩ | ⟨hp, ⟨h1, h2, h3, h4⟩ | ⟨h1, h2, h3, h4⟩ | ⟨r', h1, h2, h3, h4⟩ | ⟨h1, h2, h3, h4⟩⟩
  · exact Or.inr ⟨1, Or.inl rfl, key (by omega) (by rw [h1]; decide)⟩
  · refine Or.inr ⟨1, Or.inl rfl, key (fun z => ?_) (by rw [h2]; decide)⟩
    have : fig (t p) := (hr.1 0 (by omega)).2
    omega
  · refine Or.inr ⟨1, Or.inl rfl, key (fun z => ?_) (by rw [h2]; decide)⟩
    have : fig (t p) := (hr.1 0 (by omega)).2
    rcases h1 with q | q <;> (rw [q] at this; exact absurd this (by decide))
  · have hrr : r' = r := by
      have a1 := h1.2
      have a2 := hr.2
      rcases Nat.lt_trichotomy r r' with q | q | q
      · have := (h1.1 r q)
        rcases a2 with z | z
        · omega
        · exact absurd this.2 z.2
      · exact q.symm
      · have := (hr.1 r' q)
        rcases a1 with z | z
        · omega
        · exact absurd this.2 z.2
    subst hrr
    rcases h4 with ⟨h5, h6, h7⟩ | ⟨h5, h6⟩
    · have hv := val_X hr h2 h5
      have hv100 : nv t p r' ≤ 99 := by
        obtain ⟨a1, a2⟩ := dg_e (hr.1 0 (by omega)).2
        rw [Nat.add_zero] at a2
        unfold nv
        by_cases q : r' = 1
        · rw [if_pos q]; omega
        · obtain ⟨b1, b2⟩ := dg_e (hr.1 1 (by omega)).2
          rw [if_neg q]; omega
      have nr1 : ¬ nI r' < 1 := nI_nlt (b := 1) h2 (by omega)
      have nr2 : nI r' ≤ 2 := nI_le (b := 2) h5 (by decide)
      have hin : fX9_in va.toInt64 (nI l).toInt64 (nI h).toInt64 = some (bI (l ≤ nv t p r' ∧ nv t p r' ≤ h)) := by
        rw [in_eq, h7, nI_toInt (by omega), nI_toInt (by omega), nI_toInt (by omega)]
        exact congrArg some (bI_cg (by omega))
      by_cases hk : l ≤ nv t p r' ∧ nv t p r' ≤ h
      · obtain ⟨cu2, st2, tk2, va2, m1, m2⟩ := must_1 hL (show p + r' ≤ L from hrL) st tk va fa
        refine Or.inl ⟨p + r', nv t p r', cu2, st2, tk2, va2, ?_, ?_, m2, hk.1, hk.2, by omega⟩
        · unfold fX7_readNumber
          rw [hX, hv, if_neg nr1, if_pos nr2, if_neg (nI_nlt hk.1 (by omega)), if_pos (nI_le hk.2 (by omega)), nI_add]
        · unfold fX9_number fX9_number_J20 fX9_number_J47
          rw [if_pos rfl, if_pos h6, if_pos rfl, hin, bd1_some, if_bI, if_pos hk, if_pos rfl, h3, m1, a_bd6, h7]
      · refine Or.inr ⟨2, Or.inr (Or.inl rfl), ?_, ?_⟩
        · unfold fX7_readNumber fX7_fails
          rw [hX, hv, if_neg nr1, if_pos nr2]
          by_cases q : nv t p r' < l
          · rw [if_pos (nI_lt q (by omega)), a_bd2, chk_t (Or.inl rfl)]
          · rw [if_neg (nI_nlt (by omega) (by omega)), if_neg (nI_ge (show h < nv t p r' by omega) (by omega)), a_bd2, chk_t (Or.inl rfl)]
        · unfold fX9_number fX9_bad fX9_number_J20 fX9_number_J47
          have n20 : ¬ (2 : Int32) = 0 := by decide
          rw [if_pos rfl, if_pos h6, if_pos rfl, hin, bd1_some, if_bI, if_neg hk, show fX9_bad st 0 fa 2 = some (2, st) from if_pos rfl, a_bd2, if_neg n20, fz_must n20, a_bd6, hst]
    · exact Or.inr ⟨1, Or.inl rfl, key (by omega) (by rw [h6]; decide)⟩
  · refine Or.inr ⟨1, Or.inl rfl, key (fun z => ?_) (by rw [h4]; decide)⟩
    have : fig (t p) := (hr.1 0 (by omega)).2
    exact h2 this

