/-! buy: the class's table of sums against the reference's sets -/
def htN (w : Nat → Int32) (c : Nat) : Nat := (w (6 + c)).toInt.toNat
theorem htN_e {B : Int} {w : Nat → Int32} (hO : OkH B w) {c : Nat} (hc : c < 15) : w (6 + c) = nI (htN w c) ∧ htN w c ≤ 9 := by
  obtain ⟨a, b⟩ := hO.2.2.2.2.2.1 c hc
  obtain ⟨k, hk, e⟩ := nat_of (x := w (6 + c)) (n := 9) a b (by decide)
  unfold htN
  rw [e, nI_toInt (by omega)]
  exact ⟨rfl, hk⟩
abbrev cN1 (w : Nat → Int32) (kd : Int32) (c : Nat) : Nat := csN w kd (nI c)
abbrev hsS (w : Nat → Int32) (s : Nat) : Nat := sb (htN w) s 15
abbrev csS (w : Nat → Int32) (kd : Int32) (s : Nat) : Nat := sb (cN1 w kd) s 15
theorem hsS_le {B : Int} {w : Nat → Int32} (hO : OkH B w) (s : Nat) : hsS w s ≤ 1000 := Nat.le_trans (sb_le (htN w) s (M := 9) 15 (fun c hc => (htN_e hO hc).2)) (by decide)
theorem csS_le {B : Int} {w : Nat → Int32} (hO : OkH B w) (kd : Int32) (s : Nat) : csS w kd s ≤ 2000 := Nat.le_trans (sb_le (cN1 w kd) s (M := 82) 15 (fun c hc => (csN_e hO kd hc).2)) (by decide)
theorem init_L (k : (Nat → Int32) → (Nat → Int32) → Option ((Nat → Int32) × (Nat → Int32) × Int32)) (m0 w0 : Nat → Int32) : ∃ mo wh, fX2_fill_L18 k FU 0 m0 w0 = k mo wh ∧ ∀ t : Nat, t < 100 → mo t = (if t = 0 then 0 else -1) ∧ wh t = 0 := by
  have h := for_loop (fun n (a : (Nat → Int32) × (Nat → Int32)) i => fX2_fill_L18 k n i a.1 a.2) 100 (fun c a => (upd a.1 c (if c = 0 then 0 else -1), upd a.2 c 0)) (fun a => k a.1 a.2) (fun c a => ∀ t : Nat, t < c → a.1 t = (if t = 0 then 0 else -1) ∧ a.2 t = 0) (fun n c a hc hi => ⟨?_, fun t ht => ?_⟩) (fun n a _ => ?_) (m0, w0) (fun t ht => absurd ht (Nat.not_lt_zero t)) FU (fu_big (by decide))
  · exact ⟨_, _, h.1, h.2⟩
  · show fX2_fill_L18 k (n + 1) (nI c) a.1 a.2 = fX2_fill_L18 k n (nI (c + 1)) (upd a.1 c (if c = 0 then 0 else -1)) (upd a.2 c 0)
    rw [fX2_fill_L18.eq_2, if_neg (show ¬ (99 : Int32) < nI c from nI_nlt (b := c) (a := 99) (by omega) (by decide)), nI_clamp (by omega)]
    simp only [chk_nI2 hc (show 100 < 2 ^ 31 by decide)]
    rw [nI_succ]
    by_cases e : c = 0
    · subst e
      rw [if_pos nI_0, if_pos rfl]
    · rw [if_neg (nI_ne0 (by omega) (by omega)), if_neg e]
  · show upd a.1 c (if c = 0 then 0 else -1) t = _ ∧ upd a.2 c 0 t = 0
    by_cases e : t = c
    · rw [e, pk_us, pk_us]
      exact ⟨rfl, rfl⟩
    · rw [pk_un e, pk_un e]
      exact hi t (by omega)
  · show fX2_fill_L18 k (n + 1) (nI 100) a.1 a.2 = _
    rw [fX2_fill_L18.eq_2, if_pos (by decide)]
theorem clamp_p : ∀ p, p < 100 → imax 0 (imin 99 (nI p)) = nI p := by decide +kernel
theorem imin_e {p q : Nat} (hp : p < 2 ^ 30) (hq : q < 2 ^ 30) : imin (nI p) (nI q) = nI (min p q) := by
  unfold imin
  by_cases h : q < p
  · rw [if_pos (nI_lt h (by omega)), show min p q = q by omega]
  · rw [if_neg (nI_nlt (by omega) (by omega)), show min p q = p by omega]
theorem fill_L {w heights kinds : Nat → Int32} {B : Int} {j p : Nat} (hO : OkH B w) (hj : j < 5) (hh : ∀ c : Nat, c < 15 → heights c = w (6 + c)) (hk : kinds j = w (36 + 3 * j)) (hr : 1 ≤ (w (36 + 3 * j)).toInt ∧ (w (36 + 3 * j)).toInt ≤ 5) (hp : p ≤ 99) (k : Int32 → (Nat → Int32) → (Nat → Int32) → Option ((Nat → Int32) × (Nat → Int32) × Int32)) : ∀ (i c m D : Nat) (mo wh : Nat → Int32), c + i = 15 → i < m → DP (frB w j) (hsS w) (csS w (w (36 + 3 * j))) c p D mo wh →
    ∃ D' mo2 wh2, fX2_fill_L69 (w 3) heights kinds (nI j) (nI p) (orb (frB w j) 15) k m (nI D) (nI c) mo wh = k (nI D') mo2 wh2 ∧ DP (frB w j) (hsS w) (csS w (w (36 + 3 * j))) 15 p D' mo2 wh2
  | i, c, m, D, mo, wh, hc, hm, hD => by
    obtain ⟨m, rfl⟩ : ∃ z, m = z + 1 := ⟨m - 1, by omega⟩
    rw [fX2_fill_L69.eq_2]
    match i, hc, hm with
    | 0, hc, hm =>
      have e : c = 15 := by omega
      subst e
      rw [if_pos ge15]
      exact ⟨D, mo, wh, rfl, hD⟩
    | i + 1, hc, hm =>
      have hc5 : c < 15 := by omega
      rw [if_neg (le15 hc5), nI_1]
      by_cases hF : frB w j c = true
      · have hne : ¬ orb (frB w j) 15 &&& (1 <<< (nI c &&& 31)) = 0 := fun z => by
          rw [and_bit _ (by omega), bt_orb _ (by decide) (by omega), decide_eq_true hc5, Bool.true_and, hF] at z
          cases z
        have hDp := hD.1
        obtain ⟨c1, c2⟩ := csN_e hO (w (36 + 3 * j)) hc5
        obtain ⟨h1, h2⟩ := htN_e hO hc5
        obtain ⟨mo2, wh2, r1, r2⟩ := dp_offer (C := cN1 w (w (36 + 3 * j)) c) (Hn := htN w c) hc5 hp hF (hsS_le hO) (by omega) (fun u hu => sb_top _ hu hc5) (fun u hu => sb_top _ hu hc5) (show csN w (w (36 + 3 * j)) (nI c) ≤ 1000 by omega) hD
        have e1 : imin (imax 0 (imin 99 (nI p))) (nI D + nI (cN1 w (w (36 + 3 * j)) c)) = nI (min p (D + cN1 w (w (36 + 3 * j)) c)) := by
          rw [clamp_p p (by omega), nI_add, imin_e (by omega) (show D + csN w (w (36 + 3 * j)) (nI c) < 2 ^ 30 by omega)]
        have e2 : fX3_height heights (nI c) = some (nI (htN w c)) := by
          unfold fX3_height
          rw [chk_t (nI_in hc5 (by decide)), nI_clamp (by omega), hh c hc5, ← h1]
        rw [if_neg hne, costTo_X w heights kinds hj hc5 (hh c hc5) hk hr, bd1_some, e2, bd1_some, c1, e1, r1, a_bd2]
        exact fill_L hO hj hh hk hr hp k i (c + 1) m _ mo2 wh2 (by omega) (by omega) r2
      · have h0 : orb (frB w j) 15 &&& (1 <<< (nI c &&& 31)) = 0 := by
          rw [and_bit _ (by omega), bt_orb _ (by decide) (by omega), Bool.eq_false_iff.mpr hF, Bool.and_false]
        rw [if_pos h0]
        exact fill_L hO hj hh hk hr hp k i (c + 1) m D mo wh (by omega) (by omega) (dp_not hD hF)
/-- the first of the sums so far with the most -/
def firstMost (mo : Nat → Int32) (q t0 : Nat) : Prop := t0 < q ∧ ∀ t, t < q → (mo t).toInt < (mo t0).toInt ∨ (mo t).toInt = (mo t0).toInt ∧ t0 ≤ t
theorem best_L {mo wh : Nat → Int32} {D : Nat} (hD : D ≤ 99) : ∀ (i q m t0 : Nat), q + i = D + 1 → i < m → firstMost mo q t0 → ∃ t1, fX2_fill_L138 (nI D) mo wh m (nI q) (nI t0) = some (mo, wh, nI t1) ∧ firstMost mo (D + 1) t1
  | i, q, m, t0, hq, hm, hf => by
    obtain ⟨m, rfl⟩ : ∃ z, m = z + 1 := ⟨m - 1, by omega⟩
    rw [fX2_fill_L138.eq_2]
    have hlt := hf.1
    match i, hq, hm with
    | 0, hq, hm =>
      have e : q = D + 1 := by omega
      subst e
      rw [if_pos (nI_lt (by omega) (by omega))]
      exact ⟨t0, rfl, hf⟩
    | i + 1, hq, hm =>
      rw [if_neg (nI_nlt (by omega) (by omega)), chk_t (nI_in (show q < 100 by omega) (by decide)), chk_t (nI_in (show t0 < 100 by omega) (by decide)), nI_clamp (n := q) (by omega), nI_clamp (n := t0) (by omega), nI_1]
      by_cases h : mo q ≤ mo t0
      · rw [if_pos h]
        rw [Int32.le_iff_toInt_le] at h
        refine best_L hD i (q + 1) m t0 (by omega) (by omega) ⟨by omega, fun t ht => ?_⟩
        by_cases e : t = q
        · subst e; omega
        · exact hf.2 t (by omega)
      · rw [if_neg h]
        rw [Int32.le_iff_toInt_le] at h
        refine best_L hD i (q + 1) m q (by omega) (by omega) ⟨by omega, fun t ht => ?_⟩
        by_cases e : t = q
        · subst e; omega
        · have := hf.2 t (by omega)
          omega
def isBest (F : Nat → Bool) (hs cs : Nat → Nat) (p q b : Nat) : Prop := adm F 15 b ∧ cs b ≤ p ∧ b ≤ q ∧ ∀ u, u < q → adm F 15 u → cs u ≤ p → beats hs cs b u
theorem table_best {F : Nat → Bool} {hs cs : Nat → Nat} {p D t0 : Nat} {mo wh : Nat → Int32} (hB : ∀ u, hs u ≤ 1000) (h0 : cs 0 = 0) (h : DP F hs cs 15 p D mo wh) (hf : firstMost mo (D + 1) t0) : ∃ s, isBest F hs cs p 32768 s ∧ mo t0 = nI (hs s) ∧ wh t0 = nI s := by
  obtain ⟨h1, h2, h3⟩ := h
  have hlt := hf.1
  have key : 0 ≤ (mo t0).toInt := by
    rcases h3 0 (Nat.zero_le _) with ⟨_, z⟩ | ⟨s, _, z, _⟩
    · exact absurd h0 (z 0 (adm_0 F 15))
    · have hb := hB s
      have h9 := hf.2 0 (by omega)
      rw [z, nI_toInt (by omega)] at h9
      omega
  rcases h3 t0 (by omega) with ⟨z, _⟩ | ⟨s, ⟨a1, a2, a3⟩, z1, z2⟩
  · rw [z] at key
    exact absurd key (by decide)
  · refine ⟨s, ⟨a1, by omega, Nat.le_of_lt (show s < 32768 from a1.1), fun u hu1 hu hp => ?_⟩, z1, z2⟩
    have hcD := h2 u hu hp
    have hbs := hB s
    rcases h3 (cs u) hp with ⟨_, z⟩ | ⟨v, ⟨b1, b2, b3⟩, z3, _⟩
    · exact absurd rfl (z u hu)
    · have hbv := hB v
      have h9 := hf.2 (cs u) (by omega)
      rw [z3, z1, nI_toInt (by omega), nI_toInt (by omega)] at h9
      have h8 := b3 u hu rfl
      unfold beats
      by_cases e : cs u = t0
      · have := a3 u hu e
        omega
      · omega
/-! the reference's sets -/
theorem sum_M {w : Nat → Int32} {B : Int} (hO : OkH B w) (kd : Int32) {s : Nat} (k : Int32 → Int32 → Option (Int32 × Int32)) : ∀ i q m : Nat, q + i = 15 → i < m → fX9_buy_L80 w kd (nI s) k m (nI (sb (htN w) s q)) (nI (sb (cN1 w kd) s q)) (nI q) = k (nI (hsS w s)) (nI (csS w kd s))
  | i, q, m, hq, hm => by
    obtain ⟨m, rfl⟩ : ∃ z, m = z + 1 := ⟨m - 1, by omega⟩
    rw [fX9_buy_L80.eq_2]
    match i, hq, hm with
    | 0, hq, hm =>
      have e : q = 15 := by omega
      subst e
      rw [if_pos ge15]
    | i + 1, hq, hm =>
      have hq5 : q < 15 := by omega
      obtain ⟨c1, c2⟩ := csN_e hO kd hq5
      obtain ⟨h1, h2⟩ := htN_e hO hq5
      have hb : ((nI s >>> (nI q &&& 31)) &&& 1 = 1) ↔ s.testBit q = true := by
        rw [shr_bit _ (by omega), bt_nI, decide_eq_true (show q < 32 by omega), Bool.true_and]
      have ih := sum_M hO kd (s := s) k i (q + 1) m (by omega) (by omega)
      rw [if_neg (le15 hq5), six_c hq5, chk_t (nI_in (show 6 + q < 51 by omega) (by decide)), nI_clamp (n := 6 + q) (by omega)]
      unfold fX9_buy_J114
      by_cases h : s.testBit q = true
      · rw [if_pos (hb.mpr h), if_pos (hb.mpr h), cost_M w kd hq5, bd1_some, c1, h1, nI_add, nI_add, nI_1]
        have e1 : sb (htN w) s (q + 1) = sb (htN w) s q + htN w q := by
          show sb (htN w) s q + (if s.testBit q = true then htN w q else 0) = _
          rw [if_pos h]
        have e2 : sb (cN1 w kd) s (q + 1) = sb (cN1 w kd) s q + csN w kd (nI q) := by
          show sb (cN1 w kd) s q + (if s.testBit q = true then cN1 w kd q else 0) = _
          rw [if_pos h]
        rw [e1, e2] at ih
        exact ih
      · rw [if_neg (fun z => h (hb.mp z)), if_neg (fun z => h (hb.mp z)), add0, add0, nI_1]
        have e1 : sb (htN w) s (q + 1) = sb (htN w) s q := by
          show sb (htN w) s q + (if s.testBit q = true then htN w q else 0) = _
          rw [if_neg h]; rfl
        have e2 : sb (cN1 w kd) s (q + 1) = sb (cN1 w kd) s q := by
          show sb (cN1 w kd) s q + (if s.testBit q = true then cN1 w kd q else 0) = _
          rw [if_neg h]; rfl
        rw [e1, e2] at ih
        exact ih
theorem sub_iff (F : Nat → Bool) {s : Nat} (hs : s < 32768) : nI s &&& (orb F 15 ^^^ (-1)) = 0 ↔ adm F 15 s := by
  constructor
  · intro h
    refine ⟨hs, fun c hc => ?_⟩
    have hc5 : c < 15 := Nat.lt_of_not_le (fun z => by
      rw [Nat.testBit_lt_two_pow (Nat.lt_of_lt_of_le (show s < 2 ^ 15 from hs) (Nat.pow_le_pow_right (by decide) z))] at hc
      cases hc)
    have e := congrArg (fun y => bt y c) h
    simp only [b_and, bt_nI, bt_not (show c < 32 by omega), bt_orb F (show 15 ≤ 32 by decide) (show c < 32 by omega), b_0, hc, decide_eq_true hc5, decide_eq_true (show c < 32 by omega), Bool.true_and] at e
    cases hF : F c with
    | true => rfl
    | false => rw [hF] at e; cases e
  · intro h
    apply b_ext
    intro i hi
    rw [b_and, bt_nI, bt_not hi, bt_orb F (by decide) hi, b_0, decide_eq_true hi, Bool.true_and]
    cases hb : s.testBit i with
    | false => rfl
    | true =>
      have hc5 : i < 15 := Nat.lt_of_not_le (fun z => by
        rw [Nat.testBit_lt_two_pow (Nat.lt_of_lt_of_le (show s < 2 ^ 15 from hs) (Nat.pow_le_pow_right (by decide) z))] at hb
        cases hb)
      rw [decide_eq_true hc5, h.2 i hb]; rfl
theorem bJ_0 (r : Int32 → Int32 → Int32 → Int32 → Option (Int32 × Int32)) (a b c d e f : Int32) : fX9_buy_J194 r a b c d e f 0 = r a b c (d + 1) := by
  unfold fX9_buy_J194 fX9_buy_J208 fX9_buy_J222
  rw [if_pos rfl, if_pos rfl, if_pos rfl]
theorem bJ_1 (r : Int32 → Int32 → Int32 → Int32 → Option (Int32 × Int32)) (a b c d e f : Int32) : fX9_buy_J194 r a b c d e f 1 = r d e f (d + 1) := by
  unfold fX9_buy_J194 fX9_buy_J208 fX9_buy_J222
  rw [if_neg n10, if_neg n10, if_neg n10]
theorem sets_M {w : Nat → Int32} {B : Int} {j p : Nat} (hO : OkH B w) (hj : j < 5) (ep : w (37 + 3 * j) = nI p) (hp : p ≤ 99) (k : Int32 → Int32 → Option (Int32 × Int32)) : ∀ i q m b : Nat, q + i = 32768 → i < m → isBest (frB w j) (hsS w) (csS w (w (36 + 3 * j))) p q b →
    ∃ b', fX9_buy_L55 w (nI j) (orb (frB w j) 15) (w (36 + 3 * j)) k m (nI b) (nI (hsS w b)) (nI (csS w (w (36 + 3 * j)) b)) (nI q) = k (nI b') (nI (hsS w b')) ∧ isBest (frB w j) (hsS w) (csS w (w (36 + 3 * j))) p 32768 b'
  | i, q, m, b, hq, hm, hB => by
    obtain ⟨m, rfl⟩ : ∃ z, m = z + 1 := ⟨m - 1, by omega⟩
    rw [fX9_buy_L55.eq_2]
    match i, hq, hm with
    | 0, hq, hm =>
      have e : q = 32768 := by omega
      subst e
      rw [if_pos (show (32768 : Int32) ≤ nI 32768 by decide)]
      exact ⟨b, rfl, hB⟩
    | i + 1, hq, hm =>
      obtain ⟨b1, b2, b3, b4⟩ := hB
      have keep : (adm (frB w j) 15 q → csS w (w (36 + 3 * j)) q ≤ p → beats (hsS w) (csS w (w (36 + 3 * j))) b q) → isBest (frB w j) (hsS w) (csS w (w (36 + 3 * j))) p (q + 1) b := fun h => ⟨b1, b2, by omega, fun u hu ha hc => by
        by_cases e : u = q
        · subst e; exact h ha hc
        · exact b4 u (by omega) ha hc⟩
      have ihK := fun h => sets_M hO hj ep hp k i (q + 1) m b (by omega) (by omega) (keep h)
      rw [if_neg (show ¬ (32768 : Int32) ≤ nI q from nI_ge (b := 32768) (by omega) (by decide)), nI_1]
      by_cases ha : adm (frB w j) 15 q
      · have hs : fX9_buy_L80 w (w (36 + 3 * j)) (nI q) _ FU 0 0 0 = _ := sum_M hO (w (36 + 3 * j)) (s := q) (fun v9_e154 v10_e154 => bd1 (fX9_of w (nI j) 1) (fun r_14 => (if r_14 < v10_e154 then (fX9_buy_J194 (fX9_buy_L55 w (nI j) (orb (frB w j) 15) (w (36 + 3 * j)) k m) (nI b) (nI (hsS w b)) (nI (csS w (w (36 + 3 * j)) b)) (nI q) v9_e154 v10_e154 0) else (if (nI (hsS w b)) < v9_e154 then (fX9_buy_J194 (fX9_buy_L55 w (nI j) (orb (frB w j) 15) (w (36 + 3 * j)) k m) (nI b) (nI (hsS w b)) (nI (csS w (w (36 + 3 * j)) b)) (nI q) v9_e154 v10_e154 1) else (if v9_e154 = (nI (hsS w b)) then (if (nI (csS w (w (36 + 3 * j)) b)) ≤ v10_e154 then (fX9_buy_J194 (fX9_buy_L55 w (nI j) (orb (frB w j) 15) (w (36 + 3 * j)) k m) (nI b) (nI (hsS w b)) (nI (csS w (w (36 + 3 * j)) b)) (nI q) v9_e154 v10_e154 0) else (fX9_buy_J194 (fX9_buy_L55 w (nI j) (orb (frB w j) 15) (w (36 + 3 * j)) k m) (nI b) (nI (hsS w b)) (nI (csS w (w (36 + 3 * j)) b)) (nI q) v9_e154 v10_e154 1)) else (fX9_buy_J194 (fX9_buy_L55 w (nI j) (orb (frB w j) 15) (w (36 + 3 * j)) k m) (nI b) (nI (hsS w b)) (nI (csS w (w (36 + 3 * j)) b)) (nI q) v9_e154 v10_e154 0)))))) 15 0 FU rfl (fu_big (by decide))
        have g1 := hsS_le hO b
        have g2 := hsS_le hO q
        have g3 := csS_le hO (w (36 + 3 * j)) b
        have g4 := csS_le hO (w (36 + 3 * j)) q
        have take : hsS w b < hsS w q ∨ hsS w q = hsS w b ∧ csS w (w (36 + 3 * j)) q < csS w (w (36 + 3 * j)) b → csS w (w (36 + 3 * j)) q ≤ p → isBest (frB w j) (hsS w) (csS w (w (36 + 3 * j))) p (q + 1) q := fun h h9 => ⟨ha, h9, by omega, fun u hu hau hc => by
          by_cases e : u = q
          · subst e; unfold beats; omega
          · have := b4 u (by omega) hau hc
            unfold beats at this ⊢
            omega⟩
        rw [if_pos ((sub_iff _ (by omega)).mpr ha), hs, e_of1 w j hj, bd1_some, ep, bJ_0, bJ_1, nI_1]
        by_cases q1 : p < csS w (w (36 + 3 * j)) q
        · rw [if_pos (nI_lt q1 (by omega))]
          exact ihK (fun _ z => by omega)
        · rw [if_neg (nI_nlt (by omega) (by omega))]
          by_cases q2 : hsS w b < hsS w q
          · rw [if_pos (nI_lt q2 (by omega))]
            exact sets_M hO hj ep hp k i (q + 1) m q (by omega) (by omega) (take (Or.inl q2) (by omega))
          · rw [if_neg (nI_nlt (by omega) (by omega))]
            by_cases q3 : hsS w q = hsS w b
            · rw [if_pos (by rw [q3])]
              by_cases q4 : csS w (w (36 + 3 * j)) b ≤ csS w (w (36 + 3 * j)) q
              · rw [if_pos (nI_le q4 (by omega))]
                exact ihK (fun _ _ => by unfold beats; omega)
              · rw [if_neg (nI_ge (by omega) (by omega))]
                exact sets_M hO hj ep hp k i (q + 1) m q (by omega) (by omega) (take (Or.inr ⟨q3, by omega⟩) (by omega))
            · rw [if_neg (fun z => q3 ((nI_eq (by omega) (by omega)).mp z))]
              exact ihK (fun _ _ => by unfold beats; omega)
      · rw [if_neg (fun z => ha ((sub_iff _ (by omega)).mp z))]
        exact ihK (fun z => absurd z ha)

