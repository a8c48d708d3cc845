def bt (x : Int32) (i : Nat) : Bool := x.toBitVec.getLsbD i
theorem b_ext {x y : Int32} (h : ∀ i, i < 32 → bt x i = bt y i) : x = y := Int32.toBitVec_inj.mp (BitVec.eq_of_getLsbD_eq (fun i hi => h i hi))
theorem b_or (x y : Int32) (i : Nat) : bt (x ||| y) i = (bt x i || bt y i) := by unfold bt; rw [Int32.toBitVec_or, BitVec.getLsbD_or]
theorem b_and (x y : Int32) (i : Nat) : bt (x &&& y) i = (bt x i && bt y i) := by unfold bt; rw [Int32.toBitVec_and, BitVec.getLsbD_and]
theorem b_xor (x y : Int32) (i : Nat) : bt (x ^^^ y) i = (bt x i ^^ bt y i) := by unfold bt; rw [Int32.toBitVec_xor, BitVec.getLsbD_xor]
theorem b_big {x : Int32} {i : Nat} (h : 32 ≤ i) : bt x i = false := BitVec.getLsbD_of_ge _ _ h
theorem b_255 (i : Nat) : bt 255 i = decide (i < 8) := by
  rcases Nat.lt_or_ge i 32 with h | h
  · exact (by decide +kernel : ∀ i, i < 32 → bt 255 i = decide (i < 8)) i h
  · rw [b_big h, decide_eq_false (by omega)]
theorem b_65535 (i : Nat) : bt 65535 i = decide (i < 16) := by
  rcases Nat.lt_or_ge i 32 with h | h
  · exact (by decide +kernel : ∀ i, i < 32 → bt 65535 i = decide (i < 16)) i h
  · rw [b_big h, decide_eq_false (by omega)]
theorem b_m1 : ∀ i, i < 32 → bt (-1) i = true := by decide +kernel
theorem b_0 (i : Nat) : bt 0 i = false := BitVec.getLsbD_zero
theorem s_l : ∀ n, n < 32 → ((nI n &&& 31).toBitVec.smod 32).toNat = n := by decide +kernel
theorem s_u : ∀ n, n < 32 → (((nI n).toUInt32 &&& Int32.toUInt32 31).toBitVec % 32).toNat = n := by decide +kernel
theorem b_shl (n : Nat) (hn : n < 32) (x : Int32) {i : Nat} (hi : i < 32) : bt (x <<< (nI n &&& 31)) i = (decide (n ≤ i) && bt x (i - n)) := by
  unfold bt
  rw [Int32.toBitVec_shiftLeft]
  show (x.toBitVec <<< ((nI n &&& 31).toBitVec.smod 32).toNat).getLsbD i = _
  rw [s_l n hn, BitVec.getLsbD_shiftLeft]
  rcases Nat.lt_or_ge i n with h | h
  · simp [h, Nat.not_le.mpr h]
  · simp [hi, h, Nat.not_lt.mpr h]
theorem b_ushr (n : Nat) (hn : n < 32) (x : Int32) (i : Nat) : bt ((x.toUInt32 >>> ((nI n).toUInt32 &&& Int32.toUInt32 31)).toInt32) i = bt x (n + i) := by
  show (x.toUInt32 >>> ((nI n).toUInt32 &&& Int32.toUInt32 31)).toBitVec.getLsbD i = x.toUInt32.toBitVec.getLsbD (n + i)
  rw [UInt32.toBitVec_shiftRight]
  show (x.toUInt32.toBitVec >>> (((nI n).toUInt32 &&& Int32.toUInt32 31).toBitVec % 32).toNat).getLsbD i = _
  rw [s_u n hn, BitVec.getLsbD_ushiftRight]
theorem b_sshr (n : Nat) (hn : n < 32) (x : Int32) {i : Nat} (hi : i < 32) : bt (x >>> (nI n &&& 31)) i = if n + i < 32 then bt x (n + i) else bt x 31 := by
  unfold bt
  rw [Int32.toBitVec_shiftRight]
  show (x.toBitVec.sshiftRight ((nI n &&& 31).toBitVec.smod 32).toNat).getLsbD i = _
  rw [s_l n hn, BitVec.getLsbD_sshiftRight, BitVec.msb_eq_getLsbD_last]
  simp [hi]
/-! sets of cells as ORs over the places -/
/-- the set of those of the first n places that p says -/
def orb (p : Nat → Bool) : Nat → Int32
  | 0 => 0
  | n + 1 => if p n then orb p n ||| (1 <<< (nI n &&& 31)) else orb p n
theorem orb_itr (p : Nat → Bool) : ∀ n, itr (fun k a => if p k then a ||| (1 <<< (nI k &&& 31)) else a) n 0 = orb p n
  | 0 => rfl
  | n + 1 => by
    show (if p n then itr _ n 0 ||| _ else itr _ n 0) = _
    rw [orb_itr p n]; rfl
theorem orb_cg {p q : Nat → Bool} : ∀ {n : Nat}, (∀ k, k < n → p k = q k) → orb p n = orb q n
  | 0, _ => rfl
  | n + 1, h => by
    show (if p n then orb p n ||| _ else orb p n) = (if q n then orb q n ||| _ else orb q n)
    rw [orb_cg (n := n) (fun k hk => h k (by omega)), h n (by omega)]
theorem or0 (x : Int32) : x ||| 0 = x := by
  apply Int32.toBitVec_inj.mp
  simp
/-- a loop that ORs, place by place, to N -/
theorem or_loop {β : Type} (L : Nat → Int32 → Int32 → Option β) (N : Nat) (p : Nat → Bool) (ex : Int32 → Option β)
    (hs : ∀ n k a, k < N → L (n + 1) a (nI k) = L n (if p k then a ||| (1 <<< (nI k &&& 31)) else a) (nI (k + 1))) (hx : ∀ n a, L (n + 1) a (nI N) = ex a) (m : Nat) (hm : N < m) : L m 0 0 = ex (orb p N) := by
  have h := (for_loop L N (fun k a => if p k then a ||| (1 <<< (nI k &&& 31)) else a) ex (fun _ _ => True) (fun n k a hk _ => ⟨hs n k a hk, trivial⟩) (fun n a _ => hx n a) 0 trivial m hm).1
  rw [orb_itr] at h
  exact h
theorem bt_1 : ∀ i, i < 32 → bt 1 i = decide (i = 0) := by decide +kernel
theorem bt_one {n i : Nat} (hn : n < 32) (hi : i < 32) : bt (1 <<< (nI n &&& 31)) i = decide (i = n) := by
  rw [b_shl n hn 1 hi]
  by_cases h : n ≤ i
  · rw [bt_1 (i - n) (by omega), decide_eq_true h, Bool.true_and]
    exact decide_eq_decide.mpr (by omega)
  · rw [decide_eq_false h, Bool.false_and, decide_eq_false (by omega)]
theorem bt_orb (p : Nat → Bool) : ∀ {n : Nat}, n ≤ 32 → ∀ {i : Nat}, i < 32 → bt (orb p n) i = (decide (i < n) && p i)
  | 0, _, i, _ => by
    show bt 0 i = _
    rw [b_0, decide_eq_false (by omega), Bool.false_and]
  | n + 1, hn, i, hi => by
    show bt (if p n then orb p n ||| (1 <<< (nI n &&& 31)) else orb p n) i = _
    have ih := bt_orb p (n := n) (by omega) hi
    by_cases hp : p n = true
    · rw [if_pos hp, b_or, ih, bt_one (by omega) hi]
      by_cases e : i = n
      · subst e; simp [hp]
      · by_cases e2 : i < n
        · simp [e, e2, show i < n + 1 by omega]
        · simp [e, e2, show ¬ i < n + 1 by omega]
    · rw [if_neg hp, ih]
      by_cases e : i = n
      · subst e
        have hp' : p i = false := by cases h : p i <;> simp_all
        simp [hp']
      · by_cases e2 : i < n
        · simp [e2, show i < n + 1 by omega]
        · simp [e2, show ¬ i < n + 1 by omega]
theorem bt_all : ∀ i, i < 32 → bt 32767 i = decide (i < 15) := by decide +kernel
theorem bt_not {x : Int32} {i : Nat} (hi : i < 32) : bt (x ^^^ (-1)) i = !bt x i := by
  rw [b_xor, b_m1 i hi, Bool.xor_true]
/-- what is left of all cells -/
theorem orb_not (p : Nat → Bool) : 32767 &&& (orb p 15 ^^^ (-1)) = orb (fun c => !p c) 15 := by
  apply b_ext
  intro i hi
  rw [b_and, bt_all i hi, bt_not hi, bt_orb p (by decide) hi, bt_orb _ (by decide) hi]
  by_cases h : i < 15 <;> simp [h]
theorem orb_and (p q : Nat → Bool) : orb p 15 &&& orb q 15 = orb (fun c => p c && q c) 15 := by
  apply b_ext
  intro i hi
  rw [b_and, bt_orb p (by decide) hi, bt_orb q (by decide) hi, bt_orb _ (by decide) hi]
  by_cases h : i < 15 <;> simp [h]
theorem orb_or (p q : Nat → Bool) : orb p 15 ||| orb q 15 = orb (fun c => p c || q c) 15 := by
  apply b_ext
  intro i hi
  rw [b_or, bt_orb p (by decide) hi, bt_orb q (by decide) hi, bt_orb _ (by decide) hi]
  by_cases h : i < 15 <;> simp [h]
theorem orb_inj {p q : Nat → Bool} (h : orb p 15 = orb q 15) : ∀ c, c < 15 → p c = q c := by
  intro c hc
  have e := congrArg (fun x => bt x c) h
  simp only [bt_orb p (show 15 ≤ 32 by decide) (show c < 32 by omega), bt_orb q (show 15 ≤ 32 by decide) (show c < 32 by omega)] at e
  simpa [hc] using e
/-- a set of cells is what its bits say -/
theorem orb_of {x : Int32} (h : ∀ i, i < 32 → 15 ≤ i → bt x i = false) : x = orb (bt x) 15 := by
  apply b_ext
  intro i hi
  rw [bt_orb _ (by decide) hi]
  by_cases h5 : i < 15
  · simp [h5]
  · rw [h i hi (by omega)]; simp [h5]
/-- one cell's bit, by the mask -/
theorem and_bit (x : Int32) {c : Nat} (hc : c < 31) : x &&& (1 <<< (nI c &&& 31)) = 0 ↔ bt x c = false := by
  constructor
  · intro h
    have e := congrArg (fun y => bt y c) h
    simp only [b_and, bt_one (show c < 32 by omega) (show c < 32 by omega), b_0] at e
    simpa using e
  · intro h
    apply b_ext
    intro i hi
    rw [b_and, bt_one (by omega) hi, b_0]
    by_cases e : i = c
    · subst e; simp [h]
    · simp [e]
/-- one cell's bit, by the shift -/
theorem shr_bit (x : Int32) {c : Nat} (hc : c < 31) : (x >>> (nI c &&& 31)) &&& 1 = 1 ↔ bt x c = true := by
  have key : (x >>> (nI c &&& 31)) &&& 1 = if bt x c then 1 else 0 := by
    apply b_ext
    intro i hi
    rw [b_and, b_sshr c (by omega) x hi, bt_1 i hi]
    by_cases e : i = 0
    · subst e
      rw [if_pos (by omega)]
      cases h : bt x c
      · simp [h, b_0]
      · simp [h, bt_1]
    · cases h : bt x c
      · simp [e, b_0]
      · simp [e, bt_1 i hi]
  rw [key]
  cases h : bt x c <;> simp

