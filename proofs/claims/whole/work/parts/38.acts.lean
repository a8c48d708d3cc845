/-! an hour of the class; acts kept and taken back -/
theorem sHour_c (w : Nat → Int32) {c : Nat} (hc : c < 15) : sHour w (21 + c) = if w (21 + c) ≠ 0 ∧ sLost w (w (36 + 3 * sWho w c)) (w 5 + 1) c = true then 0 else w (21 + c) := by
  unfold sHour
  rw [if_neg (by omega), Nat.add_sub_cancel_left]
  by_cases q : w (21 + c) ≠ 0 ∧ sLost w (w (36 + 3 * sWho w c)) (w 5 + 1) c = true
  · rw [if_pos q, if_pos ⟨by omega, by omega, q⟩]
  · rw [if_neg q, if_neg (fun z => q z.2.2)]
theorem sHour_o (w : Nat → Int32) {i : Nat} (h5 : i ≠ 5) (h : i < 21 ∨ 36 ≤ i) : sHour w i = w i := by
  unfold sHour
  rw [if_neg h5, if_neg (by omega)]
theorem sHour_5 (w : Nat → Int32) : sHour w 5 = w 5 + 1 := if_pos rfl
theorem passHour_X {B : Int} {w heights holders kinds : Nat → Int32} (hO : OkH B w) (hh : ∀ c : Nat, c < 15 → heights c = w (6 + c)) (ho : ∀ c : Nat, c < 15 → holders c = w (21 + c) - 1) (hk : ∀ b : Nat, (b : Int) < (w 4).toInt → kinds b = w (36 + 3 * b)) : ∃ hd, fX3_passHour (w 1) (w 2) (w 5) heights holders kinds = some (w 5 + 1, hd) ∧ ∀ c : Nat, c < 15 → hd c = sHour w (21 + c) - 1 := by
  unfold fX3_passHour
  rw [lev_X, add0, bd1_some]
  have key := for_loop (fun n a i => fX3_passHour_L18 (w 5) heights kinds (sLev w (w 5 + 1)) n i a) 15 (fun k a => if w (21 + k) ≠ 0 ∧ sLost w (w (36 + 3 * sWho w k)) (w 5 + 1) k = true then upd a k (-1) else a) (fun a => some (w 5 + 1, a)) (fun k a => ∀ c : Nat, c < 15 → a c = (if c < k then sHour w (21 + c) else w (21 + c)) - 1)
    (fun n k a hk2 ha => ?_) (fun n a _ => ?_) holders (fun c hc => by rw [if_neg (Nat.not_lt_zero c)]; exact ho c hc) FU (fu_big (by decide))
  · exact ⟨_, key.1, fun c hc => by rw [key.2 c hc, if_pos hc]⟩
  · have hak : a k = w (21 + k) - 1 := by rw [ha k hk2, if_neg (Nat.lt_irrefl k)]
    refine ⟨?_, fun c hc => ?_⟩
    · show fX3_passHour_L18 (w 5) heights kinds (sLev w (w 5 + 1)) (n + 1) (nI k) a = _
      rw [fX3_passHour_L18.eq_2, if_neg (le15 hk2)]
      unfold fX3_isHeld
      simp only [chk_nI hk2 (show 15 < 2 ^ 31 by decide), chk_nI2 hk2 (show 15 < 2 ^ 31 by decide), nI_clamp (show k < 2 ^ 31 by omega), hak, ← nI_succ]
      by_cases hz : w (21 + k) = 0
      · rw [if_pos (by rw [hz]; decide), bd1_some, if_pos rfl, if_neg (fun q => q.1 hz)]
      · obtain ⟨w1, w2, w3, w4⟩ := who_of hO hk2 hz
        rw [if_neg (fun q => hz (sub1_eq.mp q)), bd1_some, if_neg n10, w3, chk_t (nI_in w1 (by decide)), nI_clamp (by omega), hk _ w2, hh k hk2, loses_e, bd1_some, if_bI]
        by_cases hl : sLost w (w (36 + 3 * sWho w k)) (w 5 + 1) k = true
        · rw [if_pos hl, if_pos ⟨hz, hl⟩]
        · rw [if_neg hl, if_neg (fun q => hl q.2)]
    · by_cases q : w (21 + k) ≠ 0 ∧ sLost w (w (36 + 3 * sWho w k)) (w 5 + 1) k = true
      · rw [if_pos q]
        by_cases e : c = k
        · rw [e, pk_us, if_pos (by omega), sHour_c w hk2, if_pos q]; rfl
        · rw [pk_un e, ha c hc]
          by_cases l : c < k
          · rw [if_pos l, if_pos (by omega)]
          · rw [if_neg l, if_neg (by omega)]
      · rw [if_neg q, ha c hc]
        by_cases l : c < k
        · rw [if_pos l, if_pos (by omega)]
        · rw [if_neg l]
          by_cases e : c = k
          · rw [e, if_pos (by omega), sHour_c w hk2, if_neg q]
          · rw [if_neg (by omega)]
  · show fX3_passHour_L18 (w 5) heights kinds (sLev w (w 5 + 1)) (n + 1) (nI 15) a = _
    rw [fX3_passHour_L18.eq_2, if_pos ge15]
theorem okH_hour {B : Nat} {w : Nat → Int32} (hO : OkH B w) (hB : B < 2 ^ 29) : OkH ((B + 1 : Nat) : Int) (sHour w) := by
  obtain ⟨n5, hn5, e5⟩ := hour_nat hO (by omega)
  obtain ⟨a, b, c, d, e, f, g, h⟩ := hO
  unfold OkH
  rw [sHour_o w (by decide) (by decide), sHour_o w (by decide) (by decide), sHour_o w (by decide) (by decide), sHour_o w (by decide) (by decide), sHour_o w (by decide) (by decide), sHour_5]
  refine ⟨a, b, c, d, ?_, fun q hq => ?_, fun q hq => ?_, fun q hq => ?_⟩
  · rw [e5, nI_1, nI_toInt (by omega)]; omega
  · rw [sHour_o w (by omega) (by omega)]; exact f q hq
  · rw [sHour_c w hq]
    split
    · rw [Int32.toInt_zero]; exact ⟨by omega, b.1⟩
    · exact g q hq
  · have := b.2
    rw [sHour_o w (by omega) (by omega), sHour_o w (by omega) (by omega), sHour_o w (by omega) (by omega)]; exact h q hq
theorem rsame_tr {u v w : Nat → Int32} (h1 : RSame u v) (h2 : RSame v w) : RSame u w := ⟨fun i hi => (h1.1 i hi).trans (h2.1 i hi), fun b hb => ⟨(h1.2 b hb).1.trans (h2.2 b hb).1, (h1.2 b hb).2.trans (h2.2 b hb).2⟩⟩
theorem rsame_sy {u v : Nat → Int32} (h1 : RSame u v) : RSame v u := ⟨fun i hi => (h1.1 i hi).symm, fun b hb => ⟨(h1.2 b hb).1.symm, (h1.2 b hb).2.symm⟩⟩
theorem rsame_hour (w : Nat → Int32) : RSame w (sHour w) := ⟨fun i hi => (sHour_o w (by omega) (by omega)).symm, fun b hb => ⟨(sHour_o w (by omega) (by omega)).symm, (sHour_o w (by omega) (by omega)).symm⟩⟩
theorem lit_ok {a b : Nat} (h : a + 15 ≤ b) : True := trivial
theorem saveTo_X (hour : Int32) (heights holders purses saved : Nat → Int32) {q : Nat} (hq : q < 24) : ∃ s', fX3_saveTo hour heights holders purses saved (nI q * 36) = some s' ∧ s' (36 * q) = hour ∧ (∀ c : Nat, c < 15 → s' (36 * q + 1 + c) = heights c) ∧ (∀ c : Nat, c < 15 → s' (36 * q + 16 + c) = holders c) ∧ (∀ b : Nat, b < 5 → s' (36 * q + 31 + b) = purses b) ∧ ∀ i : Nat, (i < 36 * q ∨ 36 * q + 36 ≤ i) → s' i = saved i := by
  unfold fX3_saveTo
  have e0 : nI q * 36 = nI (36 * q) := by rw [show (36 : Int32) = nI 36 from rfl, pk_mul, Nat.mul_comm]
  have e1 : nI (36 * q) + 1 = nI (36 * q + 1) := nI_1 _
  have e2 : nI (36 * q + 1) + 15 = nI (36 * q + 16) := nI_add _ 15
  have e3 : nI (36 * q + 1) + 30 = nI (36 * q + 31) := nI_add _ 30
  have z0 : (0 : Int32).toNatClampNeg = 0 := rfl
  have z5 : (5 : Int32).toNatClampNeg = 5 := rfl
  have z15 : (15 : Int32).toNatClampNeg = 15 := rfl
  have p0 : ¬ (0 : Int32) < 0 := by decide
  have p5 : ¬ (5 : Int32) < 0 := by decide
  have p15 : ¬ (15 : Int32) < 0 := by decide
  rw [e0, e1, e2, e3, z0, z5, z15, nI_clamp (show 36 * q < 2 ^ 31 by omega), nI_clamp (show 36 * q + 1 < 2 ^ 31 by omega), nI_clamp (show 36 * q + 16 < 2 ^ 31 by omega), nI_clamp (show 36 * q + 31 < 2 ^ 31 by omega),
    chk_t (nI_in2 (show 36 * q < 864 by omega) (by decide)), chk_t ⟨p0, nI_pos (by omega), p15, by omega, by omega⟩, chk_t ⟨p0, nI_pos (by omega), p15, by omega, by omega⟩, chk_t ⟨p0, nI_pos (by omega), p5, by omega, by omega⟩]
  refine ⟨_, rfl, ?_, fun c hc => ?_, fun c hc => ?_, fun b hb => ?_, fun i hi => ?_⟩
  · rw [pk_cpy_out (by omega), pk_cpy_out (by omega), pk_cpy_out (by omega), pk_us]
  · rw [pk_cpy_out (by omega), pk_cpy_out (by omega), pk_cpy_in (by omega) (by omega)]
    exact congrArg heights (by omega)
  · rw [pk_cpy_out (by omega), pk_cpy_in (by omega) (by omega)]
    exact congrArg holders (by omega)
  · rw [pk_cpy_in (by omega) (by omega)]
    exact congrArg purses (by omega)
  · rw [pk_cpy_out (by omega), pk_cpy_out (by omega), pk_cpy_out (by omega), pk_un (by omega)]
/-- the reference's keeping -/
theorem keep_J (w was : Nat → Int32) {a : Nat} (ha : a < 24) : ∃ t, fX9_keep_J49 w was (nI a) = some (t, nI (a + 1)) ∧ ∀ x : Nat, t x = if 51 * a ≤ x ∧ x < 51 * a + 51 then w (x - 51 * a) else was x := by
  unfold fX9_keep_J49
  refine ⟨itr (fun k z => upd z (51 * a + k) (w k)) 51 was, ?_, fun x => cfill _ _ _ 51 x⟩
  have key := (for_loop (fun n z i => fX9_keep_L51 w (nI a) (fun s_was_e83 => some (s_was_e83, (nI a + 1))) n i z) 51 (fun k z => upd z (51 * a + k) (w k)) (fun z => some (z, nI (a + 1))) (fun _ _ => True) (fun n k z hk _ => ⟨?_, trivial⟩) (fun n z _ => ?_) was trivial FU (fu_big (by decide))).1
  · exact key
  · show fX9_keep_L51 w (nI a) _ (n + 1) (nI k) z = _
    have e : 51 * nI a + nI k = nI (51 * a + k) := by rw [show (51 : Int32) = nI 51 from rfl, pk_mul, nI_add]
    rw [fX9_keep_L51.eq_2, if_neg (show ¬ (51 : Int32) ≤ nI k from nI_ge hk (by decide)), e, chk_t (nI_in hk (by decide)), chk_t (nI_in (show 51 * a + k < 1224 by omega) (by decide)), nI_clamp (by omega), nI_clamp (by omega), nI_succ]
  · show fX9_keep_L51 w (nI a) _ (n + 1) (nI 51) z = _
    rw [fX9_keep_L51.eq_2, if_pos (by decide), nI_1]
theorem shift_L (k : (Nat → Int32) → Option ((Nat → Int32) × Int32)) (was : Nat → Int32) : ∃ t, fX9_keep_L11 k FU 0 was = k t ∧ ∀ x : Nat, t x = if x < 1173 then was (x + 51) else was x := by
  have key := for_loop (fun n z i => fX9_keep_L11 k n i z) 1173 (fun i z => upd z i (was (i + 51))) k (fun j z => ∀ x : Nat, z x = if x < j then was (x + 51) else was x) (fun n j z hj hz => ⟨?_, fun x => ?_⟩) (fun n z _ => ?_) was (fun x => by rw [if_neg (Nat.not_lt_zero x)]) FU (fu_big (by decide))
  · exact ⟨_, key.1, key.2⟩
  · show fX9_keep_L11 k (n + 1) (nI j) z = _
    have e : nI j + 51 = nI (j + 51) := nI_add j 51
    rw [fX9_keep_L11.eq_2, if_neg (show ¬ (1173 : Int32) ≤ nI j from nI_ge hj (by decide)), e, chk_t (nI_in (show j + 51 < 1224 by omega) (by decide)), chk_t (nI_in (show j < 1224 by omega) (by decide)), nI_clamp (by omega), nI_clamp (by omega), nI_succ, hz (j + 51), if_neg (by omega)]
  · by_cases e : x = j
    · rw [e, pk_us, if_pos (by omega)]
    · rw [pk_un e, hz x]
      by_cases l : x < j
      · rw [if_pos l, if_pos (by omega)]
      · rw [if_neg l, if_neg (by omega)]
  · show fX9_keep_L11 k (n + 1) (nI 1173) z = _
    rw [fX9_keep_L11.eq_2, if_pos (by decide)]
theorem keep_M (w was : Nat → Int32) {a : Nat} (ha : a ≤ 24) : ∃ t, fX9_keep w was (nI a) = some (t, nI (min 24 (a + 1))) ∧ (∀ i : Nat, i < 51 → t (51 * (min 24 (a + 1) - 1) + i) = w i) ∧ ∀ j i : Nat, i < 51 → 1 ≤ j → j < min 24 (a + 1) → t (51 * (min 24 (a + 1) - 1 - j) + i) = was (51 * (a - 1 - (j - 1)) + i) := by
  unfold fX9_keep
  by_cases h : a = 24
  · rw [h, if_pos (by decide)]
    obtain ⟨t, e, ht⟩ := shift_L (fun s_was_e39 => fX9_keep_J49 w s_was_e39 (nI 24 - 1)) was
    obtain ⟨t2, e2, ht2⟩ := keep_J w t (a := 23) (by decide)
    rw [e]
    refine ⟨t2, e2, fun i hi => ?_, fun j i hi h1 h2 => ?_⟩
    · show t2 (51 * 23 + i) = _
      rw [ht2, if_pos (by omega)]
      exact congrArg w (by omega)
    · have h3 : j < 24 := h2
      show t2 (51 * (24 - 1 - j) + i) = _
      rw [ht2, if_neg (by omega), ht, if_pos (by omega)]
      exact congrArg was (by omega)
  · rw [if_neg (show ¬ nI a = 24 from fun q => h ((nI_eq (by omega) (by decide)).mp q))]
    have hm : min 24 (a + 1) = a + 1 := by omega
    obtain ⟨t2, e2, ht2⟩ := keep_J w was (a := a) (by omega)
    rw [hm]
    refine ⟨t2, e2, fun i hi => ?_, fun j i hi h1 h2 => ?_⟩
    · rw [show a + 1 - 1 = a by omega, ht2, if_pos (by omega)]
      exact congrArg w (by omega)
    · rw [ht2, if_neg]
      · exact congrArg was (by congr 2; omega)
      · have : 51 * (a + 1 - 1 - j) + 51 ≤ 51 * a := by
          rw [show a + 1 - 1 - j = a - j by omega, ← Nat.mul_succ]
          exact Nat.mul_le_mul_left 51 (by omega)
        omega
theorem okH_cg {B : Int} {u w : Nat → Int32} (h : ∀ i : Nat, i < 51 → u i = w i) (hO : OkH B w) : OkH B u := okH_5 hO (by rw [h 5 (by decide)]; exact hO.2.2.2.2.1) (fun i hi _ => h i hi)
theorem keep_both {saved was w heights holders purses : Nat → Int32} {next kept acts hour : Int32} (hA : RActs saved next kept was acts w) (hO : OkI w) (h5 : hour = w 5) (hh : ∀ c : Nat, c < 15 → heights c = w (6 + c)) (ho : ∀ c : Nat, c < 15 → holders c = w (21 + c) - 1) (hp : ∀ b : Nat, (b : Int) < (w 4).toInt → purses b = w (37 + 3 * b)) :
    ∃ saved' next' kept' was' acts', fX0_keep saved next kept hour heights holders purses = some (saved', next', kept') ∧ fX9_keep w was acts = some (was', acts') ∧ ∀ w2 : Nat → Int32, RSame w w2 → RActs saved' next' kept' was' acts' w2 := by
  obtain ⟨a, nx, ha, hnx, k1, k2, k3, hj⟩ := hA
  obtain ⟨s', e1, s0, s1, s2, s3, s4⟩ := saveTo_X hour heights holders purses saved hnx
  obtain ⟨t, e2, t0, t1⟩ := keep_M w was ha
  have hnxt : (nI nx + 1) - (nI nx + 1) / 24 * 24 = nI ((nx + 1) % 24) := by
    rw [nI_1, show (24 : Int32) = nI 24 from rfl, pk_rem (by omega) (by decide) (by decide)]
  have hkept : imin 24 (nI a + 1) = nI (min 24 (a + 1)) := by
    unfold imin
    rw [nI_1]
    by_cases q : nI (a + 1) < 24
    · have q2 := (nI_ltI (b := 24) (by omega) (by decide)).mp q
      rw [if_pos q, show min 24 (a + 1) = a + 1 by omega]
    · have q2 : ¬ a + 1 < 24 := fun z => q (nI_lt (b := 24) z (by decide))
      rw [if_neg q, show min 24 (a + 1) = 24 by omega]; rfl
  refine ⟨s', nI ((nx + 1) % 24), nI (min 24 (a + 1)), t, nI (min 24 (a + 1)), ?_, by rw [k2]; exact e2, fun w2 hs => ?_⟩
  · unfold fX0_keep
    rw [k1, k3, e1, bd1_some, hnxt, hkept]
  · refine ⟨min 24 (a + 1), (nx + 1) % 24, by omega, by omega, rfl, rfl, rfl, fun j hj2 => ?_⟩
    rcases j with _ | j
    · have sl : ((nx + 1) % 24 + 23 - 0) % 24 = nx := by omega
      rw [sl]
      have hu : ∀ i : Nat, i < 51 → (fun i => t (51 * (min 24 (a + 1) - 1 - 0) + i)) i = w i := fun i hi => t0 i hi
      have h4 := hu 4 (by decide)
      have b5 := hO.2.1.2
      refine ⟨⟨?_, fun c hc => ?_, fun c hc => ?_, fun b hb => ?_⟩, okH_cg hu hO, rsame_tr ⟨fun i hi => hu i (by omega), fun b hb => ⟨hu (36 + 3 * b) (by omega), hu (38 + 3 * b) (by omega)⟩⟩ hs⟩
      · rw [s0, hu 5 (by decide), h5]
      · rw [s1 c hc, hu (6 + c) (by omega), hh c hc]
      · rw [s2 c hc, hu (21 + c) (by omega), ho c hc]
      · rw [h4] at hb
        rw [s3 b (by omega), hu (37 + 3 * b) (by omega), hp b hb]
    · have hja : j < a := by omega
      obtain ⟨r1, r2, r3⟩ := hj j hja
      have sl : ((nx + 1) % 24 + 23 - (j + 1)) % 24 = (nx + 23 - j) % 24 := by omega
      have sn : (nx + 23 - j) % 24 ≠ nx := by omega
      rw [sl]
      have hu : ∀ i : Nat, i < 51 → (fun i => t (51 * (min 24 (a + 1) - 1 - (j + 1)) + i)) i = (fun i => was (51 * (a - 1 - j) + i)) i := fun i hi => t1 (j + 1) i hi (by omega) hj2
      have h4 := hu 4 (by decide)
      obtain ⟨q0, q1, q2, q3⟩ := r1
      have b5 := r2.2.1.2
      have so : ∀ i : Nat, i < 36 → s' (36 * ((nx + 23 - j) % 24) + i) = saved (36 * ((nx + 23 - j) % 24) + i) := fun i hi => s4 _ (by rcases Nat.lt_or_gt_of_ne sn with z | z <;> omega)
      refine ⟨⟨?_, fun c hc => ?_, fun c hc => ?_, fun b hb => ?_⟩, okH_cg hu r2, rsame_tr ⟨fun i hi => hu i (by omega), fun b hb => ⟨hu (36 + 3 * b) (by omega), hu (38 + 3 * b) (by omega)⟩⟩ (rsame_tr r3 hs)⟩
      · rw [hu 5 (by decide)]; exact (so 0 (by decide)).trans q0
      · rw [hu (6 + c) (by omega), Nat.add_assoc, so (1 + c) (by omega), ← Nat.add_assoc]; exact q1 c hc
      · rw [hu (21 + c) (by omega), Nat.add_assoc, so (16 + c) (by omega), ← Nat.add_assoc]; exact q2 c hc
      · rw [h4] at hb
        rw [hu (37 + 3 * b) (by omega), Nat.add_assoc, so (31 + b) (by omega), ← Nat.add_assoc]; exact q3 b hb

