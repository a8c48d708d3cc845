/-! how many are in a set; the ring -/
theorem bt_nI (a i : Nat) : bt (nI a) i = (decide (i < 32) && a.testBit i) := BitVec.getLsbD_ofNat ..
theorem nI_and (a b : Nat) : nI a &&& nI b = nI (a &&& b) := by
  apply b_ext
  intro i hi
  rw [b_and, bt_nI, bt_nI, bt_nI, Nat.testBit_and, decide_eq_true hi, Bool.true_and, Bool.true_and, Bool.true_and]
theorem nI_ushr {a : Nat} (ha : a < 2 ^ 31) (k : Nat) (hk : k < 32) : ((nI a).toUInt32 >>> ((nI k).toUInt32 &&& Int32.toUInt32 31)).toInt32 = nI (a >>> k) := by
  apply b_ext
  intro i hi
  rw [b_ushr k hk, bt_nI, bt_nI, Nat.testBit_shiftRight, decide_eq_true hi, Bool.true_and]
  by_cases h : k + i < 32
  · rw [decide_eq_true h, Bool.true_and]
  · rw [Nat.testBit_lt_two_pow (Nat.lt_of_lt_of_le ha (Nat.pow_le_pow_right (by decide) (by omega))), Bool.and_false]
def f1 (n : Nat) : Nat := n - ((n >>> 1) &&& 1431655765)
def f2 (n : Nat) : Nat := (n &&& 858993459) + ((n >>> 2) &&& 858993459)
def f3 (n : Nat) : Nat := (n + (n >>> 4)) &&& 252645135
def f4 (n : Nat) : Nat := n + (n >>> 8)
def f5 (n : Nat) : Nat := n + (n >>> 16)
def pc (n : Nat) : Nat → Nat
  | 0 => 0
  | k + 1 => pc n k + n / 2 ^ k % 2
theorem pc_all : ∀ a, a < 128 → ∀ b, b < 256 → f5 (f4 (f3 (f2 (f1 (256 * a + b))))) &&& 63 = pc (256 * a + b) 15 := by decide +kernel
theorem shr_le (n k : Nat) : n >>> k ≤ n := by rw [Nat.shiftRight_eq_div_pow]; exact Nat.div_le_self _ _
theorem count_nat {n : Nat} (hn : n < 32768) : fJ6_bitCount_0f7a4 (nI n) = some (nI (pc n 15)) := by
  have b1 : f1 n < 32768 := by unfold f1; omega
  have b2 : f2 (f1 n) < 65536 := by
    unfold f2
    have h1 := Nat.and_le_left (n := f1 n) (m := 858993459)
    have h2 := Nat.and_le_left (n := f1 n >>> 2) (m := 858993459)
    have h3 := shr_le (f1 n) 2
    omega
  have b3 : f3 (f2 (f1 n)) < 2 ^ 28 := by
    unfold f3
    have h1 := Nat.and_le_right (n := f2 (f1 n) + f2 (f1 n) >>> 4) (m := 252645135)
    omega
  have b4 : f4 (f3 (f2 (f1 n))) < 2 ^ 29 := by
    have h3 := shr_le (f3 (f2 (f1 n))) 8
    unfold f4
    omega
  have e1 : nI n - (((nI n).toUInt32 >>> ((1 : Int32).toUInt32 &&& Int32.toUInt32 31)).toInt32 &&& 1431655765) = nI (f1 n) := by
    show nI n - (((nI n).toUInt32 >>> ((nI 1).toUInt32 &&& Int32.toUInt32 31)).toInt32 &&& nI 1431655765) = _
    rw [nI_ushr (by omega) 1 (by decide), nI_and, pk_sub (Nat.le_trans Nat.and_le_left (shr_le _ _))]
    rfl
  have e2 : (nI (f1 n) &&& 858993459) + (((nI (f1 n)).toUInt32 >>> ((2 : Int32).toUInt32 &&& Int32.toUInt32 31)).toInt32 &&& 858993459) = nI (f2 (f1 n)) := by
    show (nI (f1 n) &&& nI 858993459) + (((nI (f1 n)).toUInt32 >>> ((nI 2).toUInt32 &&& Int32.toUInt32 31)).toInt32 &&& nI 858993459) = _
    rw [nI_ushr (by omega) 2 (by decide), nI_and, nI_and, nI_add]
    rfl
  have e3 : (nI (f2 (f1 n)) + ((nI (f2 (f1 n))).toUInt32 >>> ((4 : Int32).toUInt32 &&& Int32.toUInt32 31)).toInt32) &&& 252645135 = nI (f3 (f2 (f1 n))) := by
    show (nI (f2 (f1 n)) + ((nI (f2 (f1 n))).toUInt32 >>> ((nI 4).toUInt32 &&& Int32.toUInt32 31)).toInt32) &&& nI 252645135 = _
    rw [nI_ushr (by omega) 4 (by decide), nI_add, nI_and]
    rfl
  have e4 : nI (f3 (f2 (f1 n))) + ((nI (f3 (f2 (f1 n)))).toUInt32 >>> ((8 : Int32).toUInt32 &&& Int32.toUInt32 31)).toInt32 = nI (f4 (f3 (f2 (f1 n)))) := by
    show nI (f3 (f2 (f1 n))) + ((nI (f3 (f2 (f1 n)))).toUInt32 >>> ((nI 8).toUInt32 &&& Int32.toUInt32 31)).toInt32 = _
    rw [nI_ushr (by omega) 8 (by decide), nI_add]
    rfl
  have e5 : nI (f4 (f3 (f2 (f1 n)))) + ((nI (f4 (f3 (f2 (f1 n))))).toUInt32 >>> ((16 : Int32).toUInt32 &&& Int32.toUInt32 31)).toInt32 = nI (f5 (f4 (f3 (f2 (f1 n))))) := by
    show nI (f4 (f3 (f2 (f1 n)))) + ((nI (f4 (f3 (f2 (f1 n))))).toUInt32 >>> ((nI 16).toUInt32 &&& Int32.toUInt32 31)).toInt32 = _
    rw [nI_ushr (by omega) 16 (by decide), nI_add]
    rfl
  have e6 : nI (f5 (f4 (f3 (f2 (f1 n))))) &&& 63 = nI (pc n 15) := by
    have h := pc_all (n / 256) (by omega) (n % 256) (Nat.mod_lt _ (by decide))
    rw [Nat.div_add_mod] at h
    show nI (f5 (f4 (f3 (f2 (f1 n))))) &&& nI 63 = _
    rw [nI_and, h]
  unfold fJ6_bitCount_0f7a4
  rw [e1, e2, e3, e4, e5, e6]
theorem cnt_pc {n : Nat} : ∀ k, k ≤ 32 → cnt (nI n) k = pc n k
  | 0, _ => rfl
  | k + 1, hk => by
    show cnt (nI n) k + (if bt (nI n) k = true then 1 else 0) = pc n k + n / 2 ^ k % 2
    rw [cnt_pc k (by omega), bt_nI, decide_eq_true (by omega), Bool.true_and, Nat.testBit_eq_decide_div_mod_eq]
    by_cases h : n / 2 ^ k % 2 = 1
    · rw [decide_eq_true h, if_pos rfl, h]
    · rw [decide_eq_false h, if_neg (by decide)]
      have := Nat.mod_lt (n / 2 ^ k) (show 2 > 0 by decide)
      omega
theorem s15_nI {v : Int32} (hv : Set15 v) : ∃ n, n < 32768 ∧ v = nI n := by
  refine ⟨v.toBitVec.toNat, ?_, ?_⟩
  · apply Nat.lt_pow_two_of_testBit (n := 15)
    intro i hi
    rw [BitVec.testBit_toNat]
    by_cases h : i < 32
    · exact hv i h hi
    · exact b_big (by omega)
  · apply Int32.toBitVec_inj.mp
    show v.toBitVec = BitVec.ofNat 32 v.toBitVec.toNat
    rw [BitVec.ofNat_toNat, BitVec.setWidth_eq]
theorem count_X {v : Int32} (hv : Set15 v) : fJ6_bitCount_0f7a4 v = some (nI (cnt v 15)) := by
  obtain ⟨n, hn, e⟩ := s15_nI hv
  rw [e, count_nat hn, cnt_pc 15 (by decide)]
theorem shr_val (x : Int32) {c : Nat} (hc : c < 31) : (x >>> (nI c &&& 31)) &&& 1 = if bt x c = true then 1 else 0 := by
  by_cases h : bt x c = true
  · rw [if_pos h]; exact (shr_bit x hc).mpr h
  · rw [if_neg h]
    apply b_ext
    intro i hi
    rw [b_and, b_sshr c (by omega) x hi, bt_1 i hi, b_0]
    by_cases e : i = 0
    · rw [e, if_pos (by omega), Nat.add_zero, Bool.eq_false_iff.mpr h, Bool.false_and]
    · rw [decide_eq_false e, Bool.and_false]
theorem cnt_itr (v : Int32) : ∀ n, itr (fun k a => a + (if bt v k = true then (1 : Int32) else 0)) n 0 = nI (cnt v n)
  | 0 => rfl
  | n + 1 => by
    show itr _ n 0 + (if bt v n = true then (1 : Int32) else 0) = nI (cnt v n + (if bt v n = true then 1 else 0))
    rw [cnt_itr v n]
    by_cases h : bt v n = true
    · rw [if_pos h, if_pos h, nI_1]
    · rw [if_neg h, if_neg h, add0, Nat.add_zero]
theorem bits_M (v : Int32) : fX9_bits v = some (nI (cnt v 15)) := by
  unfold fX9_bits
  rw [← cnt_itr]
  refine (for_loop (fun m a i => fX9_bits_L4 v m a i) 15 (fun k a => a + (if bt v k = true then (1 : Int32) else 0)) (fun a => some a) (fun _ _ => True) (fun m k a hk _ => ⟨?_, trivial⟩) (fun m a _ => ?_) 0 trivial FU (fu_big (by decide))).1
  · show fX9_bits_L4 v (m + 1) a (nI k) = fX9_bits_L4 v m (a + (if bt v k = true then (1 : Int32) else 0)) (nI (k + 1))
    rw [fX9_bits_L4.eq_2, if_neg (le15 hk), shr_val v (by omega), nI_succ]
  · show fX9_bits_L4 v (m + 1) a (nI 15) = _
    rw [fX9_bits_L4.eq_2, if_pos ge15]
theorem orb_itr2 (p : Nat → Bool) (a0 : Int32) : ∀ n, itr (fun k a => if p k then a ||| (1 <<< (nI k &&& 31)) else a) n a0 = a0 ||| orb p n
  | 0 => (or0 a0).symm
  | n + 1 => by
    show (if p n then itr _ n a0 ||| _ else itr _ n a0) = a0 ||| (if p n then orb p n ||| _ else orb p n)
    rw [orb_itr2 p a0 n]
    by_cases h : p n = true
    · rw [if_pos h, if_pos h, or_as]
    · rw [if_neg h, if_neg h]
theorem or_loop2 {β : Type} (L : Nat → Int32 → Int32 → Option β) (N : Nat) (p : Nat → Bool) (ex : Int32 → Option β) (a0 : Int32)
    (hs : ∀ n k a, k < N → L (n + 1) a (nI k) = L n (if p k then a ||| (1 <<< (nI k &&& 31)) else a) (nI (k + 1))) (hx : ∀ n a, L (n + 1) a (nI N) = ex a) (m : Nat) (hm : N < m) : L m a0 0 = ex (a0 ||| orb p N) := by
  have h := (for_loop L N (fun k a => if p k then a ||| (1 <<< (nI k &&& 31)) else a) ex (fun _ _ => True) (fun n k a hk _ => ⟨hs n k a hk, trivial⟩) (fun n a _ => hx n a) a0 trivial m hm).1
  rw [orb_itr2] at h
  exact h
def rgP (r : Int32) (c : Nat) : Bool := !decide (cnt (nbS (1 <<< (nI c &&& 31)) &&& r) 15 ≤ 1)
def rgS (c : Nat) : Int32 := nbS (1 <<< (nI c &&& 31)) ||| orb (fun i => !decide (i = c) && rgP (nbS (1 <<< (nI c &&& 31))) i) 15
theorem rgS_15 (c : Nat) : Set15 (rgS c) := s15_or (nbS_15 _) (s15_orb _)
theorem adc_self : ∀ c, c < 15 → anyb (fun k => bt (1 <<< (nI c &&& 31)) k && adc k c) 15 = false := by decide +kernel
theorem round_X {c : Nat} (hc : c < 15) : fX6_ringRound (nI c) = some (rgS c) := by
  unfold fX6_ringRound
  rw [beside_X (s15_one hc), bd1_some]
  have h := or_loop2 (fun m a i => fX6_ringRound_L11 (nbS (1 <<< (nI c &&& 31))) (fun v2_e44 => some ((v2_e44 &&& ((1 <<< (nI c &&& 31)) ^^^ (-1))))) m a i) 15 (rgP (nbS (1 <<< (nI c &&& 31)))) (fun v2_e44 => some ((v2_e44 &&& ((1 <<< (nI c &&& 31)) ^^^ (-1))))) (nbS (1 <<< (nI c &&& 31))) (fun n k a hk => ?_) (fun n a => ?_) FU (fu_big (by decide))
  · refine Eq.trans h (congrArg some (b_ext fun i hi => ?_))
    unfold rgS
    rw [b_and, b_or, b_or, bt_not hi, bt_one (by omega) hi, bt_orb _ (by decide) hi, bt_orb _ (by decide) hi]
    by_cases e : i = c
    · rw [e, bt_nbS _ (by omega), adc_self c hc, decide_eq_true (rfl : c = c)]
      simp
    · rw [decide_eq_false e]
      simp
  · show fX6_ringRound_L11 _ _ (n + 1) a (nI k) = fX6_ringRound_L11 _ _ n (if rgP (nbS (1 <<< (nI c &&& 31))) k = true then a ||| (1 <<< (nI k &&& 31)) else a) (nI (k + 1))
    have hb := cnt_le (nbS (1 <<< (nI k &&& 31)) &&& nbS (1 <<< (nI c &&& 31))) 15
    rw [fX6_ringRound_L11.eq_2, if_neg (le15 hk), beside_X (s15_one hk), bd1_some, count_X (s15_and (nbS_15 _) _), bd1_some, nI_succ]
    unfold rgP
    by_cases q : cnt (nbS (1 <<< (nI k &&& 31)) &&& nbS (1 <<< (nI c &&& 31))) 15 ≤ 1
    · rw [if_pos (show nI _ < (2 : Int32) from nI_lt (b := 2) (by omega) (by decide)), decide_eq_true q, if_neg (by decide)]
    · rw [if_neg (show ¬ nI _ < (2 : Int32) from nI_nlt (b := 2) (by omega) (by omega)), decide_eq_false q, if_pos (by decide)]
  · show fX6_ringRound_L11 _ _ (n + 1) a (nI 15) = _
    rw [fX6_ringRound_L11.eq_2, if_pos ge15]
theorem round_M {c : Nat} (hc : c < 15) (k : Int32 → Option (Int32 × Int32)) : fX9_ring_L48 (nI c) (nbS (1 <<< (nI c &&& 31))) k FU (nbS (1 <<< (nI c &&& 31))) 0 = k (rgS c) := by
  refine or_loop2 (fun m a i => fX9_ring_L48 (nI c) (nbS (1 <<< (nI c &&& 31))) k m a i) 15 (fun i => !decide (i = c) && rgP (nbS (1 <<< (nI c &&& 31))) i) k (nbS (1 <<< (nI c &&& 31))) (fun n i a hi => ?_) (fun n a => ?_) FU (fu_big (by decide))
  · show fX9_ring_L48 _ _ k (n + 1) a (nI i) = fX9_ring_L48 _ _ k n (if (!decide (i = c) && rgP (nbS (1 <<< (nI c &&& 31))) i) = true then a ||| (1 <<< (nI i &&& 31)) else a) (nI (i + 1))
    have hb := cnt_le (nbS (1 <<< (nI i &&& 31)) &&& nbS (1 <<< (nI c &&& 31))) 15
    rw [fX9_ring_L48.eq_2, if_neg (le15 hi), nI_succ]
    by_cases e : i = c
    · rw [e, if_pos rfl, decide_eq_true (rfl : c = c), or0, Bool.not_true, Bool.false_and, if_neg (by decide)]
    · rw [if_neg (fun q => e ((nI_eq (by omega) (by omega)).mp q)), beside_M, bd1_some, bits_M, bd1_some, decide_eq_false e, Bool.not_false, Bool.true_and, or0]
      unfold rgP
      by_cases q : cnt (nbS (1 <<< (nI i &&& 31)) &&& nbS (1 <<< (nI c &&& 31))) 15 ≤ 1
      · rw [if_pos (show nI _ ≤ (1 : Int32) from nI_le (b := 1) q (by decide)), decide_eq_true q, if_neg (by decide)]
      · rw [if_neg (show ¬ nI _ ≤ (1 : Int32) from nI_ge (a := 1) (by omega) (by omega)), decide_eq_false q, if_pos (by decide)]
  · show fX9_ring_L48 _ _ k (n + 1) a (nI 15) = _
    rw [fX9_ring_L48.eq_2, if_pos ge15]
def sumC (w : Nat → Int32) (p : Nat → Bool) : Int32 := itr (fun k a => if p k = true then a + sCost w 1 k else a) 15 0
theorem sumC_cg {w : Nat → Int32} {p q : Nat → Bool} (h : ∀ c, c < 15 → p c = q c) : sumC w p = sumC w q := by
  have key : ∀ n, n ≤ 15 → itr (fun k a => if p k = true then a + sCost w 1 k else a) n 0 = itr (fun k a => if q k = true then a + sCost w 1 k else a) n (0 : Int32) := by
    intro n
    induction n with
    | zero => intro _; rfl
    | succ n ih =>
      intro hn
      show (if p n = true then itr _ n 0 + sCost w 1 n else itr _ n 0) = (if q n = true then itr _ n 0 + sCost w 1 n else itr _ n 0)
      rw [ih (by omega), h n (by omega)]
  exact key 15 (Nat.le_refl _)
theorem costOf_X {w heights : Nat → Int32} (hh : ∀ c : Nat, c < 15 → heights c = w (6 + c)) (R : Int32) : fX3_costOf (w 3) heights 1 R = some (sumC w (bt R)) := by
  unfold fX3_costOf sumC
  refine (for_loop (fun m a i => fX3_costOf_L5 (w 3) heights 1 R m a i) 15 (fun k a => if bt R k = true then a + sCost w 1 k else a) (fun a => some a) (fun _ _ => True) (fun m k a hk _ => ⟨?_, trivial⟩) (fun m a _ => ?_) 0 trivial FU (fu_big (by decide))).1
  · show fX3_costOf_L5 (w 3) heights 1 R (m + 1) a (nI k) = fX3_costOf_L5 (w 3) heights 1 R m (if bt R k = true then a + sCost w 1 k else a) (nI (k + 1))
    rw [fX3_costOf_L5.eq_2, if_neg (le15 hk), nI_succ]
    by_cases h : bt R k = true
    · rw [if_neg (fun q => by rw [and_bit R (by omega), h] at q; cases q), if_pos h, cost_X w heights (Or.inl rfl) hk (hh k hk), bd1_some]
    · rw [if_pos ((and_bit R (by omega)).mpr (Bool.eq_false_iff.mpr h)), if_neg h]
  · show fX3_costOf_L5 (w 3) heights 1 R (m + 1) a (nI 15) = _
    rw [fX3_costOf_L5.eq_2, if_pos ge15]
theorem costs_M (w : Nat → Int32) (R : Int32) (k : Int32 → Option (Int32 × Int32)) : fX9_ring_L102 w R k FU 0 0 = k (sumC w (fun c => bt R c && decide (w (21 + c) = 0))) := by
  unfold sumC
  refine (for_loop (fun m a i => fX9_ring_L102 w R k m a i) 15 (fun c a => if (bt R c && decide (w (21 + c) = 0)) = true then a + sCost w 1 c else a) k (fun _ _ => True) (fun m c a hc _ => ⟨?_, trivial⟩) (fun m a _ => ?_) 0 trivial FU (fu_big (by decide))).1
  · show fX9_ring_L102 w R k (m + 1) a (nI c) = fX9_ring_L102 w R k m (if (bt R c && decide (w (21 + c) = 0)) = true then a + sCost w 1 c else a) (nI (c + 1))
    rw [fX9_ring_L102.eq_2, if_neg (le15 hc), nI_succ, hold_c hc, chk_t (nI_in (show 21 + c < 51 by omega) (by decide)), nI_clamp (by omega), cost_M w 1 hc, bd1_some, add0]
    by_cases h : bt R c = true
    · rw [if_pos ((shr_bit R (by omega)).mpr h), h, Bool.true_and]
      by_cases q : w (21 + c) = 0
      · rw [if_pos q, decide_eq_true q, if_pos rfl]
      · rw [if_neg q, decide_eq_false q, if_neg (by decide)]
    · rw [if_neg (fun q => h ((shr_bit R (by omega)).mp q)), Bool.eq_false_iff.mpr h, Bool.false_and, if_neg (by decide)]
  · show fX9_ring_L102 w R k (m + 1) a (nI 15) = _
    rw [fX9_ring_L102.eq_2, if_pos ge15]
theorem pu_ring {s_finding : Int32} {rows_lanes : (Nat → Int32)} {rows_lengths : (Nat → Int32)} {rows_items : (Nat → Int32)} {tape_bytes : (Nat → Int32)} {tape_length : Int32} {tape_faultNumber : Int32} {land_told : Int32} {land_low : Int32} {land_high : Int32} {land_price : Int32} {land_hour : Int32} {land_bidders : Int32} {land_heights : (Nat → Int32)} {land_holders : (Nat → Int32)} {land_kinds : (Nat → Int32)} {land_purses : (Nat → Int32)} {land_homes : (Nat → Int32)} {firstImage_told : Int32} {firstImage_low : Int32} {firstImage_high : Int32} {firstImage_price : Int32} {firstImage_hour : Int32} {firstImage_bidders : Int32} {firstImage_heights : (Nat → Int32)} {firstImage_holders : (Nat → Int32)} {firstImage_kinds : (Nat → Int32)} {firstImage_purses : (Nat → Int32)} {firstImage_homes : (Nat → Int32)} {secondImage_told : Int32} {secondImage_low : Int32} {secondImage_high : Int32} {secondImage_price : Int32} {secondImage_hour : Int32} {secondImage_bidders : Int32} {secondImage_heights : (Nat → Int32)} {secondImage_holders : (Nat → Int32)} {secondImage_kinds : (Nat → Int32)} {secondImage_purses : (Nat → Int32)} {secondImage_homes : (Nat → Int32)} {acts_saved : (Nat → Int32)} {acts_next : Int32} {acts_kept : Int32} {asks_bodies : (Nat → Int32)} {asks_traced : Int32} {m_status : Int32} {m_lane : (Nat → Int32)} {m_many : (Nat → Int32)} {m_item : (Nat → Int32)} {m_isle : (Nat → Int32)} {m_was : (Nat → Int32)} {m_acts : Int32} {m_tape : (Nat → Int32)} {m_taped : Int32} {m_latest : Int32} {m_isKept : (Nat → Int32)} {m_kept : (Nat → Int32)} {m_trace : (Nat → Int32)} {m_traced : Int32} (hI : LInv s_finding rows_lanes rows_lengths rows_items tape_bytes tape_length tape_faultNumber land_told land_low land_high land_price land_hour land_bidders land_heights land_holders land_kinds land_purses land_homes firstImage_told firstImage_low firstImage_high firstImage_price firstImage_hour firstImage_bidders firstImage_heights firstImage_holders firstImage_kinds firstImage_purses firstImage_homes secondImage_told secondImage_low secondImage_high secondImage_price secondImage_hour secondImage_bidders secondImage_heights secondImage_holders secondImage_kinds secondImage_purses secondImage_homes acts_saved acts_next acts_kept asks_bodies asks_traced m_status m_lane m_many m_item m_isle m_was m_acts m_tape m_taped m_latest m_isKept m_kept m_trace m_traced) (v1 : Int32) (v2 : Int32) : ∃ (r : Int32) (m_thrown' : Int32), fX8_ring land_told land_price land_heights land_holders v1 v2 = some (r) ∧ fX9_ring m_isle v1 v2 = some (r, m_thrown') ∧ LInv s_finding rows_lanes rows_lengths rows_items tape_bytes tape_length tape_faultNumber land_told land_low land_high land_price land_hour land_bidders land_heights land_holders land_kinds land_purses land_homes firstImage_told firstImage_low firstImage_high firstImage_price firstImage_hour firstImage_bidders firstImage_heights firstImage_holders firstImage_kinds firstImage_purses firstImage_homes secondImage_told secondImage_low secondImage_high secondImage_price secondImage_hour secondImage_bidders secondImage_heights secondImage_holders secondImage_kinds secondImage_purses secondImage_homes acts_saved acts_next acts_kept asks_bodies asks_traced m_status m_lane m_many m_item m_isle m_was m_acts m_tape m_taped m_latest m_isKept m_kept m_trace m_traced := by
  obtain ⟨hst, hR, hT, hL, hO, hrest⟩ := id hI
  refine ex_and2 ?_ hI
  obtain ⟨e0, e1, e2, e3, e5, e4, hh, ho, hb⟩ := hL
  unfold fX8_ring fX9_ring
  rw [e0, told_X hO, there_M, e_isCell8, e_isCell9, e_choice, in_n (C := 1) v2 1 (by decide) rfl]
  simp only [bd1_some, if_bI]
  by_cases hw : m_isle 0 = 1
  rotate_left 1
  · rw [if_neg hw, if_neg hw]
    exact ⟨_, _, rfl, rfl⟩
  rw [if_pos hw, if_pos hw]
  by_cases hc : rng 15 v1
  rotate_left 1
  · rw [if_neg hc, if_neg hc]
    exact ⟨_, _, rfl, rfl⟩
  rw [if_pos hc, if_pos hc]
  by_cases h2 : rng 2 v2
  rotate_left 1
  · rw [if_neg h2, if_neg (show ¬ rng ((1 : Nat) + 1) v2 from h2)]
    exact ⟨_, _, rfl, rfl⟩
  obtain ⟨c, hc2, ec⟩ := rng_of (n := 15) hc (by decide)
  rw [if_pos h2, if_pos (show rng ((1 : Nat) + 1) v2 from h2), ec, round_X hc2, bd1_some, beside_M, bd1_some, round_M hc2, costs_M, count_X (rgS_15 c), bd1_some, bits_M, bd1_some, held_X, bd1_some, e3, costOf_X hh, bd1_some]
  rcases two_of h2 with e | e
  · rw [e, if_neg (by decide), if_pos rfl]
    refine ⟨_, _, rfl, congrArg (fun x => some (x, 0)) (sumC_cg fun i hi => ?_)⟩
    rw [b_and, bt_not (by omega), bt_orb _ (by decide) (by omega), decide_eq_true hi, Bool.true_and, Bool.not_not, ho i hi]
    refine congrArg (fun x => bt (rgS c) i && x) (decide_eq_decide.mpr ?_)
    rw [sub1_eq]
    exact Iff.rfl
  · rw [e, if_pos rfl, if_neg (by decide)]
    exact ⟨_, _, rfl, rfl⟩

