/-! levels, what is dry, prices, what is lost: both sides by one formula over the reference's isle -/
theorem sh6 {s : Int} (h : 0 ≤ s ∧ s ≤ 6) : True := trivial
/-- the sixths that an hour stands at -/
def sSix (h : Int32) : Int32 := if 6 < h - h / 12 * 12 then 12 - (h - h / 12 * 12) else h - h / 12 * 12
def sLev (w : Nat → Int32) (h : Int32) : Int32 := w 1 + ((w 2 - w 1) * sSix h) / 6
theorem lev_X (w : Nat → Int32) (hour v : Int32) : fX3_levelBehind (w 1) (w 2) hour v = some (sLev w (hour + v)) := by
  unfold fX3_levelBehind fX3_levelBehind_J24 sLev sSix
  by_cases h : 6 < ((hour + v) - (hour + v) / 12 * 12)
  · rw [if_pos h, if_pos h]
  · rw [if_neg h, if_neg h]
theorem lev_M (w : Nat → Int32) (h : Int32) : fX9_levelBy w h = some (sLev w h) := by
  unfold fX9_levelBy fX9_levelBy_J19 sLev sSix
  have e1 : (1 : Int32).toNatClampNeg = 1 := rfl
  have e2 : (2 : Int32).toNatClampNeg = 2 := rfl
  by_cases q : 6 < h - h / 12 * 12
  · rw [if_pos q, if_neg (by rw [Int32.not_le]; exact q), e1, e2]
  · rw [if_neg q, if_pos (by rw [← Int32.not_lt]; exact q), e1, e2]
/-- what is dry at an hour -/
def sDry (w : Nat → Int32) (h : Int32) (c : Nat) : Bool := decide (sLev w h < w (6 + c))
theorem ite_le_bI {x y : Int32} : (if x ≤ y then some (0 : Int32) else some 1) = some (bI (y < x)) := by
  by_cases h : x ≤ y
  · rw [if_pos h, bI_f (by rw [Int32.not_lt]; exact h)]
  · rw [if_neg h, bI_t (by rw [← Int32.not_le]; exact h)]
theorem dry_X (w heights : Nat → Int32) (hour v : Int32) {c : Nat} (hc : c < 15) (hh : heights c = w (6 + c)) : fX3_isDryBehind (w 1) (w 2) hour heights v (nI c) = some (bI (sDry w (hour + v) c = true)) := by
  unfold fX3_isDryBehind
  rw [chk_t (nI_in hc (by decide)), lev_X, bd1_some, nI_clamp (by omega), hh, ite_le_bI]
  exact congrArg some (bI_cg (by unfold sDry; rw [decide_eq_true_iff]))
theorem six_c {c : Nat} (hc : c < 15) : (6 : Int32) + nI c = nI (6 + c) := nI_add 6 c
theorem hold_c {c : Nat} (hc : c < 15) : (21 : Int32) + nI c = nI (21 + c) := nI_add 21 c
theorem dry_M (w : Nat → Int32) {c : Nat} (hc : c < 15) : fX9_isDry w (nI c) = some (bI (sDry w (w 5) c = true)) := by
  unfold fX9_isDry
  have e5 : (5 : Int32).toNatClampNeg = 5 := rfl
  rw [six_c hc, chk_t (nI_in (show 6 + c < 51 by omega) (by decide)), e5, lev_M, bd1_some, nI_clamp (by omega), ite_le_bI]
  exact congrArg some (bI_cg (by unfold sDry; rw [decide_eq_true_iff]))
/-- what a kind pays -/
def sCost (w : Nat → Int32) (k : Int32) (c : Nat) : Int32 :=
  if k = 1 then w 3 * w (6 + c) else if k = 2 then w 3 * w (6 + c) / 2 else if k = 3 then w 3 * w (6 + c) + 1 else if k = 4 then w 3 else 0
theorem cost_M (w : Nat → Int32) (k : Int32) {c : Nat} (hc : c < 15) : fX9_priceBy w k (nI c) = some (sCost w k c) := by
  unfold fX9_priceBy sCost
  have e3 : (3 : Int32).toNatClampNeg = 3 := rfl
  rw [six_c hc, chk_t (nI_in (show 6 + c < 51 by omega) (by decide)), nI_clamp (by omega), e3]
  repeat (split <;> try rfl)
theorem cost_K (w : Nat → Int32) {k : Int32} (hk : k = 1 ∨ k = 2 ∨ k = 3 ∨ k = 4 ∨ k = 5) (c : Nat) : fX4_cost k (w 3) (w (6 + c)) = some (sCost w k c) := by
  unfold fX4_cost sCost
  rcases hk with rfl | rfl | rfl | rfl | rfl <;> rfl
theorem cost_X (w heights : Nat → Int32) {k : Int32} (hk : k = 1 ∨ k = 2 ∨ k = 3 ∨ k = 4 ∨ k = 5) {c : Nat} (hc : c < 15) (hh : heights c = w (6 + c)) : fX3_cost (w 3) heights k (nI c) = some (sCost w k c) := by
  unfold fX3_cost
  rw [chk_t (nI_in hc (by decide)), nI_clamp (by omega), hh, cost_K w hk c]
  rfl
theorem kind_of {x : Int32} (h : 1 ≤ x.toInt ∧ x.toInt ≤ 5) : x = 1 ∨ x = 2 ∨ x = 3 ∨ x = 4 ∨ x = 5 := by
  have e : ∀ z : Int32, x.toInt = z.toInt → x = z := fun z q => Int32.toInt_inj.mp q
  have h1 := e 1
  have h2 := e 2
  have h3 := e 3
  have h4 := e 4
  have h5 := e 5
  have q : x.toInt = 1 ∨ x.toInt = 2 ∨ x.toInt = 3 ∨ x.toInt = 4 ∨ x.toInt = 5 := by omega
  rcases q with q | q | q | q | q
  · exact Or.inl (h1 q)
  · exact Or.inr (Or.inl (h2 q))
  · exact Or.inr (Or.inr (Or.inl (h3 q)))
  · exact Or.inr (Or.inr (Or.inr (Or.inl (h4 q))))
  · exact Or.inr (Or.inr (Or.inr (Or.inr (h5 q))))
theorem costTo_X (w heights kinds : Nat → Int32) {j c : Nat} (hj : j < 5) (hc : c < 15) (hh : heights c = w (6 + c)) (hk : kinds j = w (36 + 3 * j)) (hr : 1 ≤ (w (36 + 3 * j)).toInt ∧ (w (36 + 3 * j)).toInt ≤ 5) : fX3_costTo (w 3) heights kinds (nI j) (nI c) = some (sCost w (w (36 + 3 * j)) c) := by
  unfold fX3_costTo
  rw [chk_t (nI_in hj (by decide)), nI_clamp (by omega), hk, cost_X w heights (kind_of hr) hc hh]
  rfl
/-- who can have it as it is -/
def sHave (w : Nat → Int32) (k : Int32) (h : Int32) (c : Nat) : Bool := if k = 5 then !sDry w h c else sDry w h c
theorem takes_e (k : Int32) (d : Bool) : fX4_takes k (bI (d = true)) = some (bI ((if k = 5 then !d else d) = true)) := by
  unfold fX4_takes
  by_cases h : k = 5
  · rw [if_pos h, if_pos h]; cases d <;> rfl
  · rw [if_neg h, if_neg h]; cases d <;> rfl
theorem have_X (w heights kinds : Nat → Int32) (hour : Int32) {j c : Nat} (hj : j < 5) (hc : c < 15) (hh : heights c = w (6 + c)) : fX3_canHave (w 1) (w 2) hour heights kinds (nI j) (nI c) = some (bI (sHave w (kinds j) (hour + 0) c = true)) := by
  unfold fX3_canHave
  rw [chk_t (nI_in hj (by decide)), dry_X w heights hour 0 hc hh, bd1_some, nI_clamp (by omega), takes_e, bd1_some, chk_t bI_01]
  rfl
theorem have_M (w : Nat → Int32) {j c : Nat} (hj : j < 5) (hc : c < 15) : fX9_mayHave w (nI j) (nI c) = some (bI (sHave w (w (36 + 3 * j)) (w 5) c = true)) := by
  unfold fX9_mayHave
  rw [dry_M w hc, bd1_some, e_of0 w j hj, bd1_some]
  exact takes_e (w (36 + 3 * j)) (sDry w (w 5) c)
theorem add0 (x : Int32) : x + 0 = x := by
  apply Int32.toBitVec_inj.mp
  simp

