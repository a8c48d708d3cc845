/-! the tide's hour; copies of an isle; what is ahead -/
theorem cfill (b : Nat) (src f : Nat → Int32) : ∀ n x, itr (fun k a => upd a (b + k) (src k)) n f x = if b ≤ x ∧ x < b + n then src (x - b) else f x
  | 0, x => by rw [if_neg (by omega)]; rfl
  | n + 1, x => by
    show upd (itr _ n f) (b + n) (src n) x = _
    by_cases e : x = b + n
    · rw [e, pk_us, if_pos (by omega), Nat.add_sub_cancel_left]
    · rw [pk_un e, cfill b src f n x]
      by_cases h : b ≤ x ∧ x < b + n
      · rw [if_pos h, if_pos (by omega)]
      · rw [if_neg h, if_neg (by omega)]
theorem layThen_M (w th : Nat → Int32) : ∃ t, fX9_layThen w th = some t ∧ ∀ i : Nat, i < 51 → t i = w i := by
  refine ⟨itr (fun k a => upd a (0 + k) (w k)) 51 th, ?_, fun i hi => by rw [cfill, if_pos (by omega), Nat.sub_zero]⟩
  refine (for_loop (fun n a i => fX9_layThen_L2 w n i a) 51 (fun k a => upd a (0 + k) (w k)) some (fun _ _ => True) (fun n k a hk _ => ⟨?_, trivial⟩) (fun n a _ => ?_) th trivial FU (fu_big (by decide))).1
  · show fX9_layThen_L2 w (n + 1) (nI k) a = _
    rw [fX9_layThen_L2.eq_2, if_neg (show ¬ (51 : Int32) ≤ nI k from nI_ge hk (by decide)), chk_t (nI_in hk (by decide)), chk_t (nI_in hk (by decide)), nI_clamp (by omega), nI_succ, Nat.zero_add]
  · show fX9_layThen_L2 w (n + 1) (nI 51) a = _
    rw [fX9_layThen_L2.eq_2, if_pos (by decide)]
theorem layHour_M (w th : Nat → Int32) (v : Int32) : ∃ t, fX9_layHour w th v = some t ∧ t 5 = w 5 + v ∧ ∀ i : Nat, i < 51 → i ≠ 5 → t i = w i := by
  obtain ⟨t, e, h⟩ := layThen_M w th
  unfold fX9_layHour
  rw [e, bd1_some, show (5 : Int32).toNatClampNeg = 5 from rfl]
  exact ⟨_, rfl, by rw [pk_us, h 5 (by decide)], fun i hi h5 => by rw [pk_un h5, h i hi]⟩
theorem sLev_cg {w t : Nat → Int32} (h1 : t 1 = w 1) (h2 : t 2 = w 2) (h : Int32) : sLev t h = sLev w h := by unfold sLev; rw [h1, h2]
theorem sDry_cg {w t : Nat → Int32} (h1 : t 1 = w 1) (h2 : t 2 = w 2) {c : Nat} (hc : t (6 + c) = w (6 + c)) (h : Int32) : sDry t h c = sDry w h c := by unfold sDry; rw [sLev_cg h1 h2, hc]
/-- what a kind loses -/
def sLost (w : Nat → Int32) (k h : Int32) (c : Nat) : Bool := if k = 5 then sDry w h c else if k = 3 then !decide (sLev w h - w (6 + c) < 2) else !sDry w h c
theorem loses_e (w : Nat → Int32) (k h : Int32) (c : Nat) : fX4_loses k (sLev w h) (w (6 + c)) = some (bI (sLost w k h c = true)) := by
  unfold fX4_loses sLost sDry
  by_cases h3 : k = 3
  · rw [if_pos h3, if_neg (show ¬ k = 5 by rw [h3]; decide), if_pos h3]
    by_cases q : sLev w h - w (6 + c) < 2
    · rw [if_pos q, decide_eq_true q]; rfl
    · rw [if_neg q, decide_eq_false q]; rfl
  · rw [if_neg h3]
    by_cases h5 : k = 5
    · rw [if_pos h5, if_pos h5, ite_le_bI]
      exact congrArg some (bI_cg (by rw [decide_eq_true_iff]))
    · rw [if_neg h5, if_neg h5, if_neg h3]
      by_cases q : sLev w h < w (6 + c)
      · rw [if_pos q, decide_eq_true q]; rfl
      · rw [if_neg q, decide_eq_false q]; rfl
theorem lost_M {B : Nat} {w : Nat → Int32} (hO : OkH B w) (hB : B < 2 ^ 30) (k : Int32) {c : Nat} (hc : c < 15) : fX9_isLostBy w k (nI c) = some (bI (sLost w k (w 5) c = true)) := by
  obtain ⟨n, hn, en⟩ := hour_nat hO hB
  obtain ⟨v, hv, elv⟩ := lev_nat hO (n := n) (by omega)
  obtain ⟨q0, q1⟩ := hO.2.2.2.2.2.1 c hc
  obtain ⟨x, hx, ex⟩ := nat_of (n := 9) q0 (by omega) (by decide)
  unfold fX9_isLostBy sLost
  rw [dry_M w hc, bd1_some]
  by_cases h5 : k = 5
  · rw [if_pos h5, if_pos h5, chk_t bI_01]
  · rw [if_neg h5, if_neg h5]
    by_cases h3 : k = 3
    · rw [if_pos h3, if_pos h3]
      unfold fX9_deepOf
      rw [dry_M w hc, bd1_some, if_bI, show (5 : Int32).toNatClampNeg = 5 from rfl, lev_M, bd1_some, six_c hc, chk_t (nI_in (show 6 + c < 51 by omega) (by decide)), nI_clamp (by omega)]
      unfold sDry
      rw [en, elv, ex]
      by_cases hd : nI v < nI x
      · have hd2 := (nI_ltI (by omega) (by omega)).mp hd
        have hneg := pk_sneg (a := v) (b := x) (by omega) hd2
        have h2 : nI v - nI x < 2 := Int32.lt_trans hneg (by decide)
        rw [if_pos (decide_eq_true hd), bd1_some, if_pos (by decide), decide_eq_true h2]; rfl
      · rw [if_neg (by rw [decide_eq_true_iff]; exact hd), bd1_some]
        by_cases h2 : nI v - nI x < 2
        · rw [if_pos h2, decide_eq_true h2]; rfl
        · rw [if_neg h2, decide_eq_false h2]; rfl
    · rw [if_neg h3, if_neg h3, if_bI]
      cases sDry w (w 5) c <;> rfl
/-- whose a cell is, as a place among the bidders -/
def sWho (w : Nat → Int32) (c : Nat) : Nat := (w (21 + c)).toInt.toNat - 1
/-- an hour of the tide -/
def sHour (w : Nat → Int32) : Nat → Int32 := fun i =>
  if i = 5 then w 5 + 1 else if 21 ≤ i ∧ i < 36 ∧ w i ≠ 0 ∧ sLost w (w (36 + 3 * sWho w (i - 21))) (w 5 + 1) (i - 21) = true then 0 else w i
theorem okH_5 {B : Int} {w t : Nat → Int32} (hO : OkH B w) {B2 : Int} (h5 : 0 ≤ (t 5).toInt ∧ (t 5).toInt ≤ B2) (hi : ∀ i : Nat, i < 51 → i ≠ 5 → t i = w i) : OkH B2 t := by
  obtain ⟨a, b, c, d, e, f, g, h⟩ := hO
  have i0 := hi 0 (by decide) (by decide)
  have i1 := hi 1 (by decide) (by decide)
  have i2 := hi 2 (by decide) (by decide)
  have i3 := hi 3 (by decide) (by decide)
  have i4 := hi 4 (by decide) (by decide)
  unfold OkH
  rw [i0, i1, i2, i3, i4]
  refine ⟨a, b, c, d, h5, fun q hq => ?_, fun q hq => ?_, fun q hq => ?_⟩
  · rw [hi (6 + q) (by omega) (by omega)]; exact f q hq
  · rw [hi (21 + q) (by omega) (by omega)]; exact g q hq
  · have := b.2
    rw [hi (36 + 3 * q) (by omega) (by omega), hi (37 + 3 * q) (by omega) (by omega), hi (38 + 3 * q) (by omega) (by omega)]; exact h q hq
theorem who_of {B : Int} {w : Nat → Int32} (hO : OkH B w) {c : Nat} (hc : c < 15) (h0 : w (21 + c) ≠ 0) : sWho w c < 5 ∧ (sWho w c : Int) < (w 4).toInt ∧ w (21 + c) - 1 = nI (sWho w c) ∧ w (21 + c) = nI (sWho w c + 1) := by
  obtain ⟨a, b⟩ := hO.2.2.2.2.2.2.1 c hc
  have h5 := hO.2.1.2
  have hp : 0 < (w (21 + c)).toInt := by
    rcases Int.lt_or_eq_of_le a with q | q
    · exact q
    · exact absurd (Int32.toInt_inj.mp (by rw [← q, Int32.toInt_zero])) h0
  obtain ⟨k, hk, e⟩ := nat_of (n := 5) a (by omega) (by decide)
  have hk1 : (w (21 + c)).toInt = k := by rw [e, nI_toInt (by omega)]
  have hs : sWho w c = k - 1 := by unfold sWho; rw [hk1]; omega
  rw [hs]
  refine ⟨by omega, by omega, ?_, ?_⟩
  · rw [e, show (1 : Int32) = nI 1 from rfl, pk_sub (by omega)]
  · rw [e, show k - 1 + 1 = k by omega]
theorem hour_M {B : Nat} {w : Nat → Int32} (hO : OkH B w) (hB : B < 2 ^ 29) : fX9_hour w = some (sHour w) := by
  unfold fX9_hour
  rw [show (5 : Int32).toNatClampNeg = 5 from rfl]
  let G : Nat → Nat → Int32 := fun k i => if i = 5 then w 5 + 1 else if 21 ≤ i ∧ i < 21 + k ∧ w i ≠ 0 ∧ sLost w (w (36 + 3 * sWho w (i - 21))) (w 5 + 1) (i - 21) = true then 0 else w i
  have h0 : upd w 5 (w 5 + 1) = G 0 := by
    funext i
    by_cases e : i = 5
    · show upd w 5 (w 5 + 1) i = if i = 5 then w 5 + 1 else _
      rw [e, pk_us, if_pos rfl]
    · show upd w 5 (w 5 + 1) i = if i = 5 then w 5 + 1 else if _ then 0 else w i
      rw [pk_un e, if_neg e, if_neg (by omega)]
  obtain ⟨n5, hn5, e5⟩ := hour_nat hO (by omega)
  have okG : ∀ k, k ≤ 15 → OkH ((B + 1 : Nat) : Int) (G k) := by
    intro k hk
    have g5 : G k 5 = w 5 + 1 := if_pos rfl
    obtain ⟨a, b, c, d, e, f, g, h⟩ := hO
    have gi : ∀ i : Nat, i ≠ 5 → (i < 21 ∨ 36 ≤ i) → G k i = w i := fun i h5 h21 => by
      show (if i = 5 then w 5 + 1 else if 21 ≤ i ∧ i < 21 + k ∧ w i ≠ 0 ∧ sLost w (w (36 + 3 * sWho w (i - 21))) (w 5 + 1) (i - 21) = true then 0 else w i) = w i
      rw [if_neg h5, if_neg (by omega)]
    unfold OkH
    rw [gi 0 (by decide) (by decide), gi 1 (by decide) (by decide), gi 2 (by decide) (by decide), gi 3 (by decide) (by decide), gi 4 (by decide) (by decide), g5]
    refine ⟨a, b, c, d, ?_, fun q hq => ?_, fun q hq => ?_, fun q hq => ?_⟩
    · rw [e5, nI_1, nI_toInt (by omega)]; omega
    · rw [gi (6 + q) (by omega) (by omega)]; exact f q hq
    · show 0 ≤ (if 21 + q = 5 then w 5 + 1 else if _ then 0 else w (21 + q)).toInt ∧ (if 21 + q = 5 then w 5 + 1 else if _ then 0 else w (21 + q)).toInt ≤ _
      rw [if_neg (by omega)]
      split
      · rw [Int32.toInt_zero]; exact ⟨by omega, b.1⟩
      · exact g q hq
    · rw [gi (36 + 3 * q) (by omega) (by omega), gi (37 + 3 * q) (by omega) (by omega), gi (38 + 3 * q) (by omega) (by omega)]; exact h q hq
  rw [h0]
  have key := (for_loop (fun n a i => fX9_hour_L9 n i a) 15 (fun k a => G (k + 1)) some (fun k a => a = G k) (fun n k a hk ha => ⟨?_, rfl⟩) (fun n a _ => ?_) (G 0) rfl FU (fu_big (by decide)))
  · obtain ⟨k1, k2⟩ := key
    have k1' : fX9_hour_L9 FU 0 (G 0) = some (itr (fun k a => G (k + 1)) 15 (G 0)) := k1
    rw [k1', k2]
    rfl
  · subst ha
    show fX9_hour_L9 (n + 1) (nI k) (G k) = _
    have gk : G k (21 + k) = w (21 + k) := by
      show (if 21 + k = 5 then w 5 + 1 else if 21 ≤ 21 + k ∧ 21 + k < 21 + k ∧ _ then 0 else w (21 + k)) = _
      rw [if_neg (by omega), if_neg (by omega)]
    have same : ∀ x, x = w (21 + k) → (w (21 + k) ≠ 0 → sLost w (w (36 + 3 * sWho w k)) (w 5 + 1) k = true → False) → upd (G k) (21 + k) x = G (k + 1) := by
      intro x hx hno
      funext i
      by_cases e : i = 21 + k
      · rw [e, pk_us, hx]
        show w (21 + k) = (if 21 + k = 5 then w 5 + 1 else if 21 ≤ 21 + k ∧ 21 + k < 21 + (k + 1) ∧ w (21 + k) ≠ 0 ∧ sLost w (w (36 + 3 * sWho w (21 + k - 21))) (w 5 + 1) (21 + k - 21) = true then 0 else w (21 + k))
        rw [if_neg (by omega), Nat.add_sub_cancel_left, if_neg (fun q => hno q.2.2.1 q.2.2.2)]
      · rw [pk_un e]
        show (if i = 5 then w 5 + 1 else if 21 ≤ i ∧ i < 21 + k ∧ w i ≠ 0 ∧ _ then 0 else w i) = (if i = 5 then w 5 + 1 else if 21 ≤ i ∧ i < 21 + (k + 1) ∧ w i ≠ 0 ∧ _ then 0 else w i)
        by_cases e5 : i = 5
        · rw [if_pos e5, if_pos e5]
        · rw [if_neg e5, if_neg e5]
          by_cases q : 21 ≤ i ∧ i < 21 + k ∧ w i ≠ 0 ∧ sLost w (w (36 + 3 * sWho w (i - 21))) (w 5 + 1) (i - 21) = true
          · rw [if_pos q, if_pos ⟨q.1, by omega, q.2.2⟩]
          · rw [if_neg q, if_neg (fun z => q ⟨z.1, by omega, z.2.2⟩)]
    rw [fX9_hour_L9.eq_2, if_neg (le15 hk), hold_c hk]
    simp only [chk_nI2 (show 21 + k < 51 by omega) (show 51 < 2 ^ 31 by decide), nI_clamp (show 21 + k < 2 ^ 31 by omega), gk]
    rw [← nI_succ]
    by_cases hz : w (21 + k) = 0
    · rw [if_pos (by rw [hz]; decide), same _ rfl (fun q => absurd hz q)]
    · obtain ⟨w1, w2, w3, w4⟩ := who_of hO hk hz
      have gi : ∀ i : Nat, i ≠ 5 → (i < 21 ∨ 36 ≤ i) → G k i = w i := fun i h5 h21 => by
        show (if i = 5 then w 5 + 1 else if 21 ≤ i ∧ i < 21 + k ∧ w i ≠ 0 ∧ sLost w (w (36 + 3 * sWho w (i - 21))) (w 5 + 1) (i - 21) = true then 0 else w i) = w i
        rw [if_neg h5, if_neg (by omega)]
      have g5 : G k 5 = w 5 + 1 := if_pos rfl
      have lo : sLost (G k) (w (36 + 3 * sWho w k)) (w 5 + 1) k = sLost w (w (36 + 3 * sWho w k)) (w 5 + 1) k := by
        unfold sLost
        rw [sDry_cg (gi 1 (by decide) (by decide)) (gi 2 (by decide) (by decide)) (gi (6 + k) (by omega) (by omega)), sLev_cg (gi 1 (by decide) (by decide)) (gi 2 (by decide) (by decide)), gi (6 + k) (by omega) (by omega)]
      rw [w3, if_neg (nI_pos (by omega)), e_of0 _ _ w1, bd1_some, gi (36 + 3 * sWho w k) (by omega) (by omega), lost_M (okG k (by omega)) (by omega) _ hk, bd1_some, if_bI, g5, lo]
      by_cases hl : sLost w (w (36 + 3 * sWho w k)) (w 5 + 1) k = true
      · rw [if_pos hl]
        refine congrArg (fX9_hour_L9 n (nI (k + 1))) ?_
        funext i
        by_cases e : i = 21 + k
        · rw [e, pk_us]
          show (0 : Int32) = (if 21 + k = 5 then w 5 + 1 else if 21 ≤ 21 + k ∧ 21 + k < 21 + (k + 1) ∧ w (21 + k) ≠ 0 ∧ sLost w (w (36 + 3 * sWho w (21 + k - 21))) (w 5 + 1) (21 + k - 21) = true then 0 else w (21 + k))
          rw [if_neg (by omega), Nat.add_sub_cancel_left, if_pos ⟨by omega, by omega, hz, hl⟩]
        · rw [pk_un e]
          show (if i = 5 then w 5 + 1 else if 21 ≤ i ∧ i < 21 + k ∧ w i ≠ 0 ∧ _ then 0 else w i) = (if i = 5 then w 5 + 1 else if 21 ≤ i ∧ i < 21 + (k + 1) ∧ w i ≠ 0 ∧ _ then 0 else w i)
          by_cases e5 : i = 5
          · rw [if_pos e5, if_pos e5]
          · rw [if_neg e5, if_neg e5]
            by_cases q : 21 ≤ i ∧ i < 21 + k ∧ w i ≠ 0 ∧ sLost w (w (36 + 3 * sWho w (i - 21))) (w 5 + 1) (i - 21) = true
            · rw [if_pos q, if_pos ⟨q.1, by omega, q.2.2⟩]
            · rw [if_neg q, if_neg (fun z => q ⟨z.1, by omega, z.2.2⟩)]
      · rw [if_neg hl, same _ rfl (fun _ q => hl q)]
  · show fX9_hour_L9 (n + 1) (nI 15) a = _
    rw [fX9_hour_L9.eq_2, if_pos ge15]

