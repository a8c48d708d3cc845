/-! sums over the places of a set; the best of all sets, and the best for each sum of prices -/
def sb (f : Nat → Nat) (s : Nat) : Nat → Nat
  | 0 => 0
  | n + 1 => sb f s n + (if s.testBit n = true then f n else 0)
theorem sb_cg (f : Nat → Nat) {s u : Nat} : ∀ n, (∀ c, c < n → s.testBit c = u.testBit c) → sb f s n = sb f u n
  | 0, _ => rfl
  | n + 1, h => by
    show sb f s n + (if s.testBit n = true then f n else 0) = sb f u n + (if u.testBit n = true then f n else 0)
    rw [sb_cg f n (fun c hc => h c (by omega)), h n (by omega)]
theorem sb_hi (f : Nat → Nat) {s n : Nat} (hs : s < 2 ^ n) : ∀ d, sb f s (n + d) = sb f s n
  | 0 => rfl
  | d + 1 => by
    show sb f s (n + d) + (if s.testBit (n + d) = true then f (n + d) else 0) = sb f s n
    rw [sb_hi f hs d, Nat.testBit_lt_two_pow (Nat.lt_of_lt_of_le hs (Nat.pow_le_pow_right (by decide) (Nat.le_add_right n d))), if_neg (by decide), Nat.add_zero]
theorem sb_15 (f : Nat → Nat) {s n : Nat} (hs : s < 2 ^ n) (hn : n ≤ 15) : sb f s 15 = sb f s n := by
  have h := sb_hi f hs (15 - n)
  rw [show n + (15 - n) = 15 by omega] at h
  exact h
theorem top_lt {s n : Nat} (hs : s < 2 ^ n) : 2 ^ n + s < 2 ^ (n + 1) := by
  rw [Nat.pow_succ]
  omega
theorem sb_top (f : Nat → Nat) {s n : Nat} (hs : s < 2 ^ n) (hn : n < 15) : sb f (2 ^ n + s) 15 = sb f s 15 + f n := by
  rw [sb_15 f (top_lt hs) (by omega), sb_15 f hs (by omega)]
  show sb f (2 ^ n + s) n + (if (2 ^ n + s).testBit n = true then f n else 0) = sb f s n + f n
  rw [Nat.testBit_two_pow_add_eq, Nat.testBit_lt_two_pow hs, if_pos (show (!false) = true from rfl), sb_cg f n (fun c hc => Nat.testBit_two_pow_add_gt hc s)]
theorem sb_le (f : Nat → Nat) (s : Nat) {M : Nat} : ∀ n, (∀ c, c < n → f c ≤ M) → sb f s n ≤ M * n
  | 0, _ => Nat.le_refl 0
  | n + 1, h => by
    have ih := sb_le f s (M := M) n (fun c hc => h c (by omega))
    have hn := h n (by omega)
    show sb f s n + (if s.testBit n = true then f n else 0) ≤ M * (n + 1)
    rw [Nat.mul_succ]
    by_cases q : s.testBit n = true
    · rw [if_pos q]; omega
    · rw [if_neg q]; omega
theorem sb_0 (f : Nat → Nat) : ∀ n, sb f 0 n = 0
  | 0 => rfl
  | n + 1 => by
    show sb f 0 n + (if (0 : Nat).testBit n = true then f n else 0) = 0
    rw [sb_0 f n, Nat.zero_testBit, if_neg (by decide)]
/-- a set of what is free among the first n places -/
def adm (F : Nat → Bool) (n s : Nat) : Prop := s < 2 ^ n ∧ ∀ c, s.testBit c = true → F c = true
theorem adm_0 (F : Nat → Bool) (n : Nat) : adm F n 0 := ⟨Nat.two_pow_pos n, fun c hc => by rw [Nat.zero_testBit] at hc; cases hc⟩
theorem adm_up {F : Nat → Bool} {n s : Nat} (h : adm F n s) : adm F (n + 1) s := ⟨Nat.lt_of_lt_of_le h.1 (Nat.pow_le_pow_right (by decide) (by omega)), h.2⟩
theorem adm_top {F : Nat → Bool} {n s : Nat} (h : adm F n s) (hF : F n = true) : adm F (n + 1) (2 ^ n + s) := by
  refine ⟨top_lt h.1, fun c hc => ?_⟩
  rcases Nat.lt_trichotomy c n with q | q | q
  · rw [Nat.testBit_two_pow_add_gt q] at hc
    exact h.2 c hc
  · rw [q]; exact hF
  · rw [Nat.testBit_lt_two_pow (Nat.lt_of_lt_of_le (top_lt h.1) (Nat.pow_le_pow_right (by decide) q))] at hc
    cases hc
theorem adm_cut {F : Nat → Bool} {n s : Nat} (h : adm F (n + 1) s) : adm F n s ∨ F n = true ∧ ∃ u, adm F n u ∧ s = 2 ^ n + u := by
  obtain ⟨h1, h2⟩ := h
  by_cases q : s < 2 ^ n
  · exact Or.inl ⟨q, h2⟩
  · rw [Nat.pow_succ] at h1
    obtain ⟨u, rfl⟩ : ∃ u, s = 2 ^ n + u := ⟨s - 2 ^ n, by omega⟩
    have hu : u < 2 ^ n := by omega
    refine Or.inr ⟨h2 n (by rw [Nat.testBit_two_pow_add_eq, Nat.testBit_lt_two_pow hu]; rfl), u, ⟨hu, fun c hc => h2 c ?_⟩, rfl⟩
    have hcn : c < n := Nat.lt_of_not_le (fun z => by
      rw [Nat.testBit_lt_two_pow (Nat.lt_of_lt_of_le hu (Nat.pow_le_pow_right (by decide) z))] at hc
      cases hc)
    rw [Nat.testBit_two_pow_add_gt hcn]
    exact hc
/-- b is the better one, or the same -/
def beats (hs cs : Nat → Nat) (b s : Nat) : Prop := hs s < hs b ∨ hs s = hs b ∧ (cs b < cs s ∨ cs b = cs s ∧ b ≤ s)
theorem beats_eq {hs cs : Nat → Nat} {b s : Nat} (h1 : beats hs cs b s) (h2 : beats hs cs s b) : b = s := by
  unfold beats at h1 h2
  omega
/-- the best set at a sum of prices: by its two numbers -/
def best1 (F : Nat → Bool) (hs cs : Nat → Nat) (n t s : Nat) : Prop := adm F n s ∧ cs s = t ∧ ∀ u, adm F n u → cs u = t → hs u < hs s ∨ hs u = hs s ∧ s ≤ u
def En (F : Nat → Bool) (hs cs : Nat → Nat) (n t : Nat) (x y : Int32) : Prop := (x = -1 ∧ ∀ u, adm F n u → cs u ≠ t) ∨ ∃ s, best1 F hs cs n t s ∧ x = nI (hs s) ∧ y = nI s
theorem en_same {F : Nat → Bool} {hs cs : Nat → Nat} {n t : Nat} {x y : Int32} (h : En F hs cs n t x y) (hn : ∀ u, adm F (n + 1) u → cs u = t → adm F n u) : En F hs cs (n + 1) t x y := by
  rcases h with ⟨h1, h2⟩ | ⟨s, ⟨h1, h2, h3⟩, h4⟩
  · exact Or.inl ⟨h1, fun u hu e => h2 u (hn u hu e) e⟩
  · exact Or.inr ⟨s, ⟨adm_up h1, h2, fun u hu e => h3 u (hn u hu e) e⟩, h4⟩
theorem m1_neg : (-1 : Int32) < 0 := by decide
theorem nI_nlem1 {k : Nat} (h : k < 2 ^ 31) : ¬ nI k ≤ -1 := by
  rw [Int32.le_iff_toInt_le, nI_toInt h, show (-1 : Int32).toInt = -1 from rfl]
  omega
theorem en_skip {F : Nat → Bool} {hs cs : Nat → Nat} {n t r : Nat} {a b x y : Int32} {C : Nat} (hB : ∀ u, hs u ≤ 1000) (hC : ∀ u, u < 2 ^ n → cs (2 ^ n + u) = cs u + C) (hrt : r + C = t) (hr : En F hs cs n r a b) (h : En F hs cs n t x y) (ha : a < 0) : En F hs cs (n + 1) t x y := by
  rcases hr with ⟨_, h2⟩ | ⟨s, ⟨h1, _, _⟩, h4, _⟩
  · refine en_same h (fun u hu e => ?_)
    rcases adm_cut hu with z | ⟨_, v, z, rfl⟩
    · exact z
    · rw [hC v z.1] at e
      exact absurd (show cs v = r by omega) (h2 v z)
  · have := hB s
    rw [h4, Int32.lt_iff_toInt_lt, Int32.toInt_zero, nI_toInt (by omega)] at ha
    omega
theorem en_keep {F : Nat → Bool} {hs cs : Nat → Nat} {n t r : Nat} {a b x y : Int32} {C Hn : Nat} (hB : ∀ u, hs u ≤ 1000) (hHn : Hn ≤ 1000) (hC : ∀ u, u < 2 ^ n → cs (2 ^ n + u) = cs u + C) (hH : ∀ u, u < 2 ^ n → hs (2 ^ n + u) = hs u + Hn) (hrt : r + C = t) (hr : En F hs cs n r a b) (h : En F hs cs n t x y) (ha : ¬ a < 0) (hle : a + nI Hn ≤ x) : En F hs cs (n + 1) t x y := by
  rcases hr with ⟨h1, _⟩ | ⟨s, ⟨a1, a2, a3⟩, a4, a5⟩
  · rw [h1] at ha; exact absurd m1_neg ha
  · have hb0 := hB s
    rw [a4, nI_add] at hle
    rcases h with ⟨h1, _⟩ | ⟨s1, ⟨b1, b2, b3⟩, b4, b5⟩
    · rw [h1] at hle; exact absurd hle (nI_nlem1 (by omega))
    · have hb1 := hB s1
      rw [b4, nI_leI (by omega) (by omega)] at hle
      refine Or.inr ⟨s1, ⟨adm_up b1, b2, fun u hu e => ?_⟩, b4, b5⟩
      rcases adm_cut hu with z | ⟨_, v, z, rfl⟩
      · exact b3 u z e
      · rw [hC v z.1] at e
        have h9 := a3 v z (by omega)
        have h8 := b1.1
        rw [hH v z.1]
        omega
theorem or_top {s n : Nat} (hs : s < 2 ^ n) (hn : n < 15) : nI s ||| (1 <<< (nI n &&& 31)) = nI (2 ^ n + s) := by
  apply b_ext
  intro i hi
  rw [b_or, bt_nI, bt_nI, bt_one (by omega) hi, decide_eq_true hi, Bool.true_and, Bool.true_and]
  rcases Nat.lt_trichotomy i n with q | q | q
  · rw [Nat.testBit_two_pow_add_gt q, decide_eq_false (by omega), Bool.or_false]
  · rw [q, Nat.testBit_two_pow_add_eq, Nat.testBit_lt_two_pow hs, decide_eq_true rfl]; rfl
  · rw [Nat.testBit_lt_two_pow (Nat.lt_of_lt_of_le (top_lt hs) (Nat.pow_le_pow_right (by decide) q)), decide_eq_false (by omega), Bool.or_false, Nat.testBit_lt_two_pow (Nat.lt_of_lt_of_le hs (Nat.pow_le_pow_right (by decide) (Nat.le_of_lt q)))]
theorem en_take {F : Nat → Bool} {hs cs : Nat → Nat} {n t r : Nat} {a b x y : Int32} {C Hn : Nat} (hn : n < 15) (hF : F n = true) (hB : ∀ u, hs u ≤ 1000) (hHn : Hn ≤ 1000) (hC : ∀ u, u < 2 ^ n → cs (2 ^ n + u) = cs u + C) (hH : ∀ u, u < 2 ^ n → hs (2 ^ n + u) = hs u + Hn) (hrt : r + C = t) (hr : En F hs cs n r a b) (h : En F hs cs n t x y) (ha : ¬ a < 0) (hle : ¬ a + nI Hn ≤ x) : En F hs cs (n + 1) t (a + nI Hn) (b ||| (1 <<< (nI n &&& 31))) := by
  rcases hr with ⟨h1, _⟩ | ⟨s, ⟨a1, a2, a3⟩, a4, a5⟩
  · rw [h1] at ha; exact absurd m1_neg ha
  · have hb0 := hB s
    refine Or.inr ⟨2 ^ n + s, ⟨adm_top a1 hF, by rw [hC s a1.1]; omega, fun u hu e => ?_⟩, by rw [hH s a1.1, a4, nI_add], by rw [a5, or_top a1.1 hn]⟩
    rw [hH s a1.1]
    rcases adm_cut hu with z | ⟨_, v, z, rfl⟩
    · rcases h with ⟨_, h2⟩ | ⟨s1, ⟨b1, b2, b3⟩, b4, b5⟩
      · exact absurd e (h2 u z)
      · have hb1 := hB s1
        rw [a4, b4, nI_add, nI_leI (by omega) (by omega)] at hle
        have := b3 u z e
        omega
    · rw [hC v z.1] at e
      have h9 := a3 v z (by omega)
      rw [hH v z.1]
      omega
/-- what is best of the first n places' sets that a purse can pay, at each sum of prices -/
def DP (F : Nat → Bool) (hs cs : Nat → Nat) (n p D : Nat) (mo wh : Nat → Int32) : Prop := D ≤ p ∧ (∀ u, adm F n u → cs u ≤ p → cs u ≤ D) ∧ ∀ t, t ≤ p → En F hs cs n t (mo t) (wh t)
theorem dp_not {F : Nat → Bool} {hs cs : Nat → Nat} {n p D : Nat} {mo wh : Nat → Int32} (h : DP F hs cs n p D mo wh) (hF : F n ≠ true) : DP F hs cs (n + 1) p D mo wh := by
  have hc : ∀ u, adm F (n + 1) u → adm F n u := fun u hu => (adm_cut hu).resolve_right (fun z => hF z.1)
  exact ⟨h.1, fun u hu e => h.2.1 u (hc u hu) e, fun t ht => en_same (h.2.2 t ht) (fun u hu _ => hc u hu)⟩
theorem dp_D {F : Nat → Bool} {hs cs : Nat → Nat} {n p D C : Nat} {mo wh : Nat → Int32} (hC : ∀ u, u < 2 ^ n → cs (2 ^ n + u) = cs u + C) (h : DP F hs cs n p D mo wh) : ∀ u, adm F (n + 1) u → cs u ≤ p → cs u ≤ min p (D + C) := by
  intro u hu e
  rcases adm_cut hu with z | ⟨_, v, z, rfl⟩
  · have := h.2.1 u z e
    omega
  · rw [hC v z.1] at e ⊢
    have := h.2.1 v z (by omega)
    omega
theorem nI_m1 {C : Nat} (h : C < 2 ^ 30) : nI C + (-1) < nI C := by
  match C, h with
  | 0, _ => decide
  | C + 1, h =>
    rw [pk_m1]
    exact nI_lt (by omega) (by omega)
/-- the offers of one cell, from the dearest down -/
theorem offer_L {F : Nat → Bool} {hs cs : Nat → Nat} {n p C Hn : Nat} {mo wh : Nat → Int32} (hn : n < 15) (hp : p ≤ 99) (hF : F n = true) (hB : ∀ u, hs u ≤ 1000) (hHn : Hn ≤ 1000) (hC : ∀ u, u < 2 ^ n → cs (2 ^ n + u) = cs u + C) (hH : ∀ u, u < 2 ^ n → hs (2 ^ n + u) = hs u + Hn) (hC2 : C ≤ 1000) (hE : ∀ t, t ≤ p → En F hs cs n t (mo t) (wh t)) : ∀ (i m : Nat) (mo' wh' : Nat → Int32), i < m → C + i ≤ p + 1 → (∀ t, t ≤ p → t < C + i → mo' t = mo t ∧ wh' t = wh t) → (∀ t, t ≤ p → C + i ≤ t → En F hs cs (n + 1) t (mo' t) (wh' t)) →
    ∃ mo2 wh2, fX2_offer_L4 (1 <<< (nI n &&& 31)) (nI C) (nI Hn) m (nI (C + i) + (-1)) mo' wh' = some (mo2, wh2) ∧ (∀ t, t ≤ p → t < C → mo2 t = mo t ∧ wh2 t = wh t) ∧ ∀ t, t ≤ p → C ≤ t → En F hs cs (n + 1) t (mo2 t) (wh2 t)
  | i, m, mo', wh', hm, hi, h1, h2 => by
    obtain ⟨m, rfl⟩ : ∃ z, m = z + 1 := ⟨m - 1, by omega⟩
    rw [fX2_offer_L4.eq_2]
    match i, hm, hi, h1, h2 with
    | 0, hm, hi, h1, h2 =>
      rw [Nat.add_zero, if_pos (nI_m1 (by omega))]
      exact ⟨mo', wh', rfl, fun t ht hc => h1 t ht (by omega), fun t ht hc => h2 t ht (by omega)⟩
    | i + 1, hm, hi, h1, h2 =>
      have e1 : nI (C + (i + 1)) + (-1) = nI (C + i) := pk_m1 (C + i)
      have e2 : nI (C + i) - nI C = nI i := by rw [pk_sub (by omega), show C + i - C = i by omega]
      have a1 := h1 i (by omega) (by omega)
      have a2 := h1 (C + i) (by omega) (by omega)
      have Er := hE i (by omega)
      have Et := hE (C + i) (by omega)
      rw [e1, if_neg (nI_nlt (by omega) (by omega)), if_neg (nI_pos (by omega)), e2]
      simp only [chk_nI (show i < 100 by omega) (show 100 < 2 ^ 31 by decide), chk_nI (show C + i < 100 by omega) (show 100 < 2 ^ 31 by decide), nI_clamp (show i < 2 ^ 31 by omega), nI_clamp (show C + i < 2 ^ 31 by omega), chk_nI2 (show i < 100 by omega) (show 100 < 2 ^ 31 by decide), chk_nI2 (show C + i < 100 by omega) (show 100 < 2 ^ 31 by decide)]
      rw [a1.1, a1.2, a2.1]
      by_cases q1 : mo i < 0
      · rw [if_pos q1]
        refine offer_L hn hp hF hB hHn hC hH hC2 hE i m mo' wh' (by omega) (by omega) (fun t ht hc => h1 t ht (by omega)) (fun t ht hc => ?_)
        by_cases e : t = C + i
        · rw [e, a2.1, a2.2]
          exact en_skip hB hC (Nat.add_comm i C) Er Et q1
        · exact h2 t ht (by omega)
      · rw [if_neg q1]
        by_cases q2 : mo i + nI Hn ≤ mo (C + i)
        · rw [if_pos q2]
          refine offer_L hn hp hF hB hHn hC hH hC2 hE i m mo' wh' (by omega) (by omega) (fun t ht hc => h1 t ht (by omega)) (fun t ht hc => ?_)
          by_cases e : t = C + i
          · rw [e, a2.1, a2.2]
            exact en_keep hB hHn hC hH (Nat.add_comm i C) Er Et q1 q2
          · exact h2 t ht (by omega)
        · rw [if_neg q2]
          refine offer_L hn hp hF hB hHn hC hH hC2 hE i m _ _ (by omega) (by omega) (fun t ht hc => ?_) (fun t ht hc => ?_)
          · rw [pk_un (by omega), pk_un (by omega)]
            exact h1 t ht (by omega)
          · by_cases e : t = C + i
            · rw [e, pk_us, pk_us]
              exact en_take hn hF hB hHn hC hH (Nat.add_comm i C) Er Et q1 q2
            · rw [pk_un e, pk_un e]
              exact h2 t ht (by omega)
theorem dp_offer {F : Nat → Bool} {hs cs : Nat → Nat} {n p D C Hn : Nat} {mo wh : Nat → Int32} (hn : n < 15) (hp : p ≤ 99) (hF : F n = true) (hB : ∀ u, hs u ≤ 1000) (hHn : Hn ≤ 1000) (hC : ∀ u, u < 2 ^ n → cs (2 ^ n + u) = cs u + C) (hH : ∀ u, u < 2 ^ n → hs (2 ^ n + u) = hs u + Hn) (hC2 : C ≤ 1000) (h : DP F hs cs n p D mo wh) :
    ∃ mo2 wh2, fX2_offer mo wh (1 <<< (nI n &&& 31)) (nI C) (nI Hn) (nI (min p (D + C))) = some (mo2, wh2) ∧ DP F hs cs (n + 1) p (min p (D + C)) mo2 wh2 := by
  have hD := dp_D hC h
  have hlow : ∀ t, t ≤ p → t < C → En F hs cs (n + 1) t (mo t) (wh t) := fun t ht hc => en_same (h.2.2 t ht) (fun u hu e => (adm_cut hu).resolve_right (fun ⟨_, v, z, q⟩ => by
    rw [q, hC v z.1] at e
    omega))
  have hhigh : ∀ t, t ≤ p → min p (D + C) < t → En F hs cs (n + 1) t (mo t) (wh t) := fun t ht hc => en_same (h.2.2 t ht) (fun u hu e => by
    have := hD u hu (by omega)
    omega)
  unfold fX2_offer
  by_cases q : C ≤ min p (D + C)
  · obtain ⟨mo2, wh2, r1, r2, r3⟩ := offer_L hn hp hF hB hHn hC hH hC2 h.2.2 (min p (D + C) - C + 1) FU mo wh (fu_big (by omega)) (by omega) (fun t _ _ => ⟨rfl, rfl⟩) (fun t ht hc => hhigh t ht (by omega))
    rw [show nI (C + (min p (D + C) - C + 1)) + (-1) = nI (min p (D + C)) by
      rw [show C + (min p (D + C) - C + 1) = min p (D + C) + 1 by omega, pk_m1]] at r1
    refine ⟨mo2, wh2, r1, Nat.min_le_left _ _, hD, fun t ht => ?_⟩
    by_cases z : t < C
    · rw [(r2 t ht z).1, (r2 t ht z).2]
      exact hlow t ht z
    · exact r3 t ht (by omega)
  · rw [show FU = 39999 + 1 from rfl, fX2_offer_L4.eq_2, if_pos (nI_lt (by omega) (by omega))]
    exact ⟨mo, wh, rfl, Nat.min_le_left _ _, hD, fun t ht => hlow t ht (by omega)⟩

