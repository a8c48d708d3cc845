/-! neighbours -/
def anyb (p : Nat → Bool) : Nat → Bool
  | 0 => false
  | n + 1 => anyb p n || p n
def adc (k i : Nat) : Bool := (decide (k % 5 ≠ 0) && decide (i + 1 = k)) || (decide (k % 5 ≠ 4) && decide (i = k + 1)) || (decide (5 ≤ k) && decide (i + 5 = k)) || (decide (k ≤ 9) && decide (i = k + 5))
def nbW (x : Int32) : Int32 := (((if (x - x / 5 * 5) ≤ 0 then (0 : Int32) else (1 : Int32) <<< ((x - 1) &&& 31)) ||| (if 4 ≤ (x - x / 5 * 5) then (0 : Int32) else (1 : Int32) <<< ((x + 1) &&& 31))) ||| (if x ≤ 4 then (0 : Int32) else (1 : Int32) <<< ((x - 5) &&& 31))) ||| (if 10 ≤ x then (0 : Int32) else (1 : Int32) <<< ((x + 5) &&& 31))
theorem nbW_bt : ∀ k, k < 15 → ∀ i, i < 32 → bt (nbW (nI k)) i = adc k i := by decide +kernel
theorem or_as (a b c : Int32) : (a ||| b) ||| c = a ||| (b ||| c) := by
  apply Int32.toBitVec_inj.mp
  simp only [Int32.toBitVec_or, BitVec.or_assoc]
theorem nb_J71 (r : Int32 → Int32 → Option Int32) (a x w1 w2 w3 : Int32) : fX9_beside_J71 r a x w1 w2 w3 = r ((((a ||| w1) ||| w2) ||| w3) ||| (if 10 ≤ x then (0 : Int32) else (1 : Int32) <<< ((x + 5) &&& 31))) (x + 1) := by
  unfold fX9_beside_J71
  by_cases h : 10 ≤ x
  · rw [if_pos h, if_pos h]
  · rw [if_neg h, if_neg h]
theorem nb_J54 (r : Int32 → Int32 → Option Int32) (a x w1 w2 : Int32) : fX9_beside_J54 r a x w1 w2 = r ((((a ||| w1) ||| w2) ||| (if x ≤ 4 then (0 : Int32) else (1 : Int32) <<< ((x - 5) &&& 31))) ||| (if 10 ≤ x then (0 : Int32) else (1 : Int32) <<< ((x + 5) &&& 31))) (x + 1) := by
  unfold fX9_beside_J54
  rw [nb_J71, nb_J71]
  by_cases h : x ≤ 4
  · rw [if_pos h, if_pos h]
  · rw [if_neg h, if_neg h]
theorem nb_J35 (r : Int32 → Int32 → Option Int32) (a x w1 : Int32) : fX9_beside_J35 r a x w1 = r ((((a ||| w1) ||| (if 4 ≤ (x - x / 5 * 5) then (0 : Int32) else (1 : Int32) <<< ((x + 1) &&& 31))) ||| (if x ≤ 4 then (0 : Int32) else (1 : Int32) <<< ((x - 5) &&& 31))) ||| (if 10 ≤ x then (0 : Int32) else (1 : Int32) <<< ((x + 5) &&& 31))) (x + 1) := by
  unfold fX9_beside_J35
  rw [nb_J54, nb_J54]
  by_cases h : 4 ≤ (x - x / 5 * 5)
  · rw [if_pos h, if_pos h]
  · rw [if_neg h, if_neg h]
def nbS (v : Int32) : Int32 := itr (fun k a => if bt v k = true then a ||| nbW (nI k) else a) 15 0
theorem beside_M (v : Int32) : fX9_beside v = some (nbS v) := by
  unfold fX9_beside
  refine (for_loop (fun m a i => fX9_beside_L4 v m a i) 15 (fun k a => if bt v k = true then a ||| nbW (nI k) else a) (fun a => some a) (fun _ _ => True) (fun m k a hk _ => ⟨?_, trivial⟩) (fun m a _ => ?_) 0 trivial FU (fu_big (by decide))).1
  · show fX9_beside_L4 v (m + 1) a (nI k) = fX9_beside_L4 v m (if bt v k = true then a ||| nbW (nI k) else a) (nI (k + 1))
    rw [fX9_beside_L4.eq_2, if_neg (le15 hk)]
    by_cases hb : bt v k = true
    · rw [if_pos ((shr_bit v (by omega)).mpr hb), if_pos hb, nb_J35, nb_J35, nI_succ]
      unfold nbW
      by_cases h : (nI k - nI k / 5 * 5) ≤ 0
      · rw [if_pos h, if_pos h]
        simp only [or_as]
      · rw [if_neg h, if_neg h]
        simp only [or_as]
    · rw [if_neg (fun q => hb ((shr_bit v (by omega)).mp q)), if_neg hb, nI_succ]
  · show fX9_beside_L4 v (m + 1) a (nI 15) = _
    rw [fX9_beside_L4.eq_2, if_pos ge15]
theorem nb_any (v : Int32) {i : Nat} (hi : i < 32) : ∀ n, n ≤ 15 → bt (itr (fun k a => if bt v k = true then a ||| nbW (nI k) else a) n 0) i = anyb (fun k => bt v k && adc k i) n
  | 0, _ => b_0 i
  | n + 1, hn => by
    have ih := nb_any v hi n (by omega)
    show bt (if bt v n = true then _ ||| nbW (nI n) else _) i = (anyb _ n || (bt v n && adc n i))
    by_cases h : bt v n = true
    · rw [if_pos h, b_or, ih, nbW_bt n (by omega) i hi, h, Bool.true_and]
    · rw [if_neg h, ih, Bool.eq_false_iff.mpr h, Bool.false_and, Bool.or_false]
theorem bt_nbS (v : Int32) {i : Nat} (hi : i < 32) : bt (nbS v) i = anyb (fun k => bt v k && adc k i) 15 := nb_any v hi 15 (Nat.le_refl _)
def Set15 (v : Int32) : Prop := ∀ i, i < 32 → 15 ≤ i → bt v i = false
theorem adc_hi : ∀ i, i < 32 → 15 ≤ i → ∀ k, k < 15 → adc k i = false := by decide +kernel
theorem anyb_f {p : Nat → Bool} : ∀ {n}, (∀ k, k < n → p k = false) → anyb p n = false
  | 0, _ => rfl
  | n + 1, h => by
    show (anyb p n || p n) = false
    rw [anyb_f (fun k hk => h k (by omega)), h n (by omega)]; rfl
theorem nbS_15 (v : Int32) : Set15 (nbS v) := fun i hi h5 => by
  rw [bt_nbS v hi]
  exact anyb_f (fun k hk => by rw [adc_hi i hi h5 k hk, Bool.and_false])
theorem mk_r : ∀ i, i < 32 → bt (-16913) i = decide (i ≠ 4 ∧ i ≠ 9 ∧ i ≠ 14) := by decide +kernel
theorem mk_l : ∀ i, i < 32 → bt (-1058) i = decide (i ≠ 0 ∧ i ≠ 5 ∧ i ≠ 10) := by decide +kernel
theorem beside_X {v : Int32} (hv : Set15 v) : fX6_beside v = some (nbS v) := by
  unfold fX6_beside
  refine congrArg some (b_ext fun i hi => ?_)
  rw [bt_nbS v hi, b_and, b_or, b_or, b_or, bt_all i hi]
  by_cases h5 : i < 15
  · rw [decide_eq_true h5, Bool.and_true,
      show bt ((v &&& (-16913)) <<< ((1 : Int32) &&& 31)) i = _ from b_shl 1 (by decide) _ hi,
      show bt ((v &&& (-1058)) >>> ((1 : Int32) &&& 31)) i = _ from b_sshr 1 (by decide) _ hi,
      show bt (v <<< ((5 : Int32) &&& 31)) i = _ from b_shl 5 (by decide) _ hi,
      show bt (v >>> ((5 : Int32) &&& 31)) i = _ from b_sshr 5 (by decide) _ hi,
      if_pos (by omega), if_pos (by omega), b_and, b_and, mk_r _ (by omega), mk_l _ (by omega)]
    have z15 := hv 15 (by decide) (by decide)
    have z16 := hv 16 (by decide) (by decide)
    have z17 := hv 17 (by decide) (by decide)
    have z18 := hv 18 (by decide) (by decide)
    have z19 := hv 19 (by decide) (by decide)
    rcases (show i = 0 ∨ i = 1 ∨ i = 2 ∨ i = 3 ∨ i = 4 ∨ i = 5 ∨ i = 6 ∨ i = 7 ∨ i = 8 ∨ i = 9 ∨ i = 10 ∨ i = 11 ∨ i = 12 ∨ i = 13 ∨ i = 14 by omega) with rfl | rfl | rfl | rfl | rfl | rfl | rfl | rfl | rfl | rfl | rfl | rfl | rfl | rfl | rfl <;>
      (simp [anyb, adc, z15, z16, z17, z18, z19] <;> (try (simp only [Bool.or_comm, Bool.or_left_comm, Bool.or_assoc])))
  · rw [decide_eq_false h5, Bool.and_false]
    exact (anyb_f (fun k hk => by rw [adc_hi i hi (by omega) k hk, Bool.and_false])).symm

