/-! behind the heights: the bidders, and the end of the tape -/
def kI (isle : Nat → Int32) (acts latest : Int32) : (Nat → Int32) → Int32 → Int32 → Int32 → Int32 → Int32 → Int32 → Option (Int32 × Int32 × (Nat → Int32) × (Nat → Int32) × Int32 × Int32 × Int32 × Int32 × Int32 × Int32 × Int32 × Int32 × Int32) := fun fr cu st tk va f fa => bd5 (fX9_failed st tk f fa latest) (fun r2 taped f2 fa2 l2 => (if r2 = 0 then (fX9_isle_L244 fr (fun w => some ((w (4 : Int32).toNatClampNeg), 0, w, fr, 0, taped, cu, st, tk, va, f2, fa2, l2)) FU 0 isle) else some (((-1000100) - fa2), 0, isle, fr, acts, taped, cu, st, tk, va, f2, fa2, l2)))
theorem J208_e (isle : Nat → Int32) (acts : Int32) (t : Nat → Int32) (l latest : Int32) (fr : Nat → Int32) (cu st tk va f fa : Int32) : fX9_isle_J208 isle acts t l latest fr cu st tk va f fa = fX9_isle_L208 t l (kI isle acts latest) FU fr cu st tk va f fa := rfl
theorem kI_f {isle : Nat → Int32} {acts latest : Int32} {fr : Nat → Int32} {cu st tk va f fa f0 q : Int32} (h : fX9_failed st tk f0 fa latest = some (1, 0, f, q, f)) : kI isle acts latest fr cu st tk va f0 fa = some ((-1000100) - q, 0, isle, fr, acts, 0, cu, st, tk, va, f, q, f) := by
  unfold kI
  rw [h, a_bd5, if_neg n10]
theorem copy_L (fr isle : Nat → Int32) (k : (Nat → Int32) → Option (Int32 × Int32 × (Nat → Int32) × (Nat → Int32) × Int32 × Int32 × Int32 × Int32 × Int32 × Int32 × Int32 × Int32 × Int32)) : ∃ w, fX9_isle_L244 fr k FU 0 isle = k w ∧ ∀ i : Nat, i < 51 → w i = fr i := by
  have key := for_loop (fun n z i => fX9_isle_L244 fr k n i z) 51 (fun i z => upd z (0 + i) (fr i)) k (fun _ _ => True) (fun n j z hj hz => ⟨?_, trivial⟩) (fun n z _ => ?_) isle trivial FU (fu_big (by decide))
  · exact ⟨_, key.1, fun i hi => by rw [cfill, if_pos (by omega), Nat.sub_zero]⟩
  · show fX9_isle_L244 fr k (n + 1) (nI j) z = _
    rw [fX9_isle_L244.eq_2, if_neg (show ¬ (51 : Int32) ≤ nI j from nI_ge hj (by decide)), chk_t (nI_in hj (by decide)), chk_t (nI_in hj (by decide)), nI_clamp (by omega), nI_succ, Nat.zero_add]
  · show fX9_isle_L244 fr k (n + 1) (nI 51) z = _
    rw [fX9_isle_L244.eq_2, if_pos (by decide)]
theorem zero_L (fr : Nat → Int32) (k : (Nat → Int32) → Option (Int32 × Int32 × (Nat → Int32) × (Nat → Int32) × Int32 × Int32 × Int32 × Int32 × Int32 × Int32 × Int32 × Int32 × Int32)) : ∃ w, fX9_isle_L11 k FU 0 fr = k w ∧ ∀ i : Nat, i < 51 → w i = 0 := by
  have key := for_loop (fun n z i => fX9_isle_L11 k n i z) 51 (fun i z => upd z (0 + i) ((fun _ => (0 : Int32)) i)) k (fun _ _ => True) (fun n j z hj hz => ⟨?_, trivial⟩) (fun n z _ => ?_) fr trivial FU (fu_big (by decide))
  · exact ⟨_, key.1, fun i hi => by rw [cfill (0 : Nat) (fun _ => (0 : Int32)), if_pos (by omega)]⟩
  · show fX9_isle_L11 k (n + 1) (nI j) z = _
    rw [fX9_isle_L11.eq_2, if_neg (show ¬ (51 : Int32) ≤ nI j from nI_ge hj (by decide)), chk_t (nI_in hj (by decide)), nI_clamp (by omega), nI_succ, Nat.zero_add]
  · show fX9_isle_L11 k (n + 1) (nI 51) z = _
    rw [fX9_isle_L11.eq_2, if_pos (by decide)]
theorem kI_0 {isle : Nat → Int32} {acts latest : Int32} {fr : Nat → Int32} {cu st tk va fa : Int32} (h : fX9_failed st tk 0 fa latest = some (0, 0, 0, fa, latest)) : ∃ w, kI isle acts latest fr cu st tk va 0 fa = some (w 4, 0, w, fr, 0, 0, cu, st, tk, va, 0, fa, latest) ∧ ∀ i : Nat, i < 51 → w i = fr i := by
  obtain ⟨w, w1, w2⟩ := copy_L fr isle (fun w => some ((w (4 : Int32).toNatClampNeg), 0, w, fr, 0, 0, cu, st, tk, va, 0, fa, latest))
  refine ⟨w, ?_, w2⟩
  unfold kI
  rw [h, a_bd5, if_pos rfl, w1]
  rfl
theorem leave_L (z0 : Nat → Int32) : ∃ z : Nat → Int32, fX3_leaveAll z0 = some z ∧ ∀ r : Nat, r < 15 → z r = -1 := by
  have h := for_loop (fun n a i => fX3_leaveAll_L2 n i a) 15 (fun k a => upd a k (-1)) some (fun k a => ∀ r : Nat, r < k → a r = -1)
    (fun n k a hk hi => by
      refine ⟨?_, fun r hr => ?_⟩
      · show fX3_leaveAll_L2 (n + 1) (nI k) a = _
        rw [fX3_leaveAll_L2.eq_2, if_neg (show ¬ (15 : Int32) ≤ nI k from nI_ge hk (by decide)), chk_t (nI_in hk (by decide)), nI_clamp (by omega), nI_succ]
      · by_cases e : r = k
        · rw [e]; exact pk_us
        · rw [pk_un e]; exact hi r (by omega))
    (fun n a _ => by
      show fX3_leaveAll_L2 (n + 1) (nI 15) a = _
      rw [fX3_leaveAll_L2.eq_2, if_pos (by decide)]) z0 (fun r hr => absurd hr (Nat.not_lt_zero r)) FU (fu_big (by decide))
  exact ⟨_, h.1, h.2⟩
theorem bids_cg {n : Nat} {kinds purses homes fr w : Nat → Int32} (h : Bids n kinds purses homes fr) (hw : ∀ i : Nat, i < 51 → w i = fr i) : Bids n kinds purses homes w := by
  have hn := h.1
  refine ⟨hn, by rw [hw 4 (by decide)]; exact h.2.1, fun b hb => ?_⟩
  rw [hw (36 + 3 * b) (by omega), hw (37 + 3 * b) (by omega), hw (38 + 3 * b) (by omega)]
  exact h.2.2 b hb
theorem tail_both {b t : Nat → Int32} {L p : Nat} (hb : ∀ i : Nat, i < L → b i = t i) (hL : L ≤ 100) {cu st tk va : Int32} (hA : At t L p cu st tk va) (isle : Nat → Int32) (acts nm fn fa latest : Int32) (kinds purses homes : Nat → Int32) {fr : Nat → Int32} (h4 : fr 4 = nI 0) :
    (∃ nm2 n2 kinds2 purses2 homes2 w fr2 cu2 st2 tk2 va2, fX7_readBidders b (nI L) (nI p) nm fn 0 kinds purses homes = some (1, nI L, nm2, fn, nI n2, kinds2, purses2, homes2) ∧ bd1 (fX9_isSort tk va 0) (fun r_24 => (if r_24 = 0 then bd2 (fX9_bad st 0 fa 1) (fun s_fault_34 s_faultAt_34 => (fX9_isle_J208 isle acts t (nI L) latest fr cu st tk va s_fault_34 s_faultAt_34)) else (fX9_isle_J208 isle acts t (nI L) latest fr cu st tk va 0 fa))) = some (w 4, 0, w, fr2, 0, 0, cu2, st2, tk2, va2, 0, fa, latest) ∧ 1 ≤ n2 ∧ Bids n2 kinds2 purses2 homes2 w ∧ ∀ z : Nat, z < 36 → z ≠ 4 → w z = fr z) ∨
    (∃ f q nm2 n2 kinds2 purses2 homes2 fr2 cu2 st2 tk2 va2, fX7_readBidders b (nI L) (nI p) nm fn 0 kinds purses homes = some (0, nI q, nm2, f, n2, kinds2, purses2, homes2) ∧ bd1 (fX9_isSort tk va 0) (fun r_24 => (if r_24 = 0 then bd2 (fX9_bad st 0 fa 1) (fun s_fault_34 s_faultAt_34 => (fX9_isle_J208 isle acts t (nI L) latest fr cu st tk va s_fault_34 s_faultAt_34)) else (fX9_isle_J208 isle acts t (nI L) latest fr cu st tk va 0 fa))) = some ((-1000100) - nI q, 0, isle, fr2, acts, 0, cu2, st2, tk2, va2, f, nI q, f)) := by
  have hst := (at_all hL hA).1
  have hB0 : Bids 0 kinds purses homes fr := ⟨Nat.zero_le _, h4, fun b hb => absurd hb (Nat.not_lt_zero b)⟩
  rw [J208_e]
  rcases sort_both hL hA with ⟨k, hp, hk, kx, kM, kl, ks⟩ | ⟨kx, ks, k1, k2⟩
  · rw [ks, bd1_some, if_neg n10]
    unfold fX7_readBidders
    have hM : ∀ X : Option (Int32 × Int32 × (Nat → Int32) × (Nat → Int32) × Int32 × Int32 × Int32 × Int32 × Int32 × Int32 × Int32 × Int32 × Int32), bd7 (fX9_readBidder fr t (nI L) cu st tk va 0 fa) (fun fr2 cu2 st2 tk2 va2 f2 fa2 => fX9_isle_L208 t (nI L) (kI isle acts latest) 39999 fr2 cu2 st2 tk2 va2 f2 fa2) = X → fX9_isle_L208 t (nI L) (kI isle acts latest) FU fr cu st tk va 0 fa = X := fun X hX => by
      rw [show FU = 39999 + 1 from rfl, fX9_isle_L208.eq_2, ks, bd1_some, if_neg n10]
      exact hX
    rcases bidder_both hb hL hA hp hk kx kM kl hB0 nm fn fa with ⟨q, nm2, kinds2, purses2, homes2, fr2, cu2, st2, tk2, va2, a1, a2, a3, a4, a5, a6⟩ | ⟨f, q, nm2, n2, kinds2, purses2, homes2, fr2, cu2, st2, tk2, va2, hf, a1, a2⟩
    · rw [show fX7_readBidder b (nI L) (nI p) nm fn 0 kinds purses homes = _ from a1, a_bd8, if_neg n10]
      have hqL := a3.1
      rcases bidders_both hb hL (kI isle acts latest) fn fa latest fr2 (L - q) q 0 FU 39999 (0 + 1) nm2 cu2 st2 tk2 va2 kinds2 purses2 homes2 fr2 (by omega) (by omega) (fu_big (by omega)) (by omega) (by omega) a3 a5 (fun z _ _ => rfl) with ⟨nm3, n3, kinds3, purses3, homes3, fr3, cu3, st3, tk3, va3, b1, b2, b3, b4, b5, b6⟩ | ⟨f, q3, nm3, n3, kinds3, purses3, homes3, fr3, cu3, st3, tk3, va3, f0, fa0, b1, b2, b3⟩
      · obtain ⟨w, w1, w2⟩ := kI_0 (isle := isle) (acts := acts) (fr := fr3) (cu := cu3) (va := va3) b3
        refine Or.inl ⟨nm3, n3, kinds3, purses3, homes3, w, fr3, cu3, st3, tk3, va3, b1, hM _ ?_, b4, bids_cg b5 w2, fun z hz hz4 => ?_⟩
        · rw [a2, a_bd7, b2, w1]
        · rw [w2 z (by omega), b6 z hz hz4, a6 z hz hz4]
      · refine Or.inr ⟨f, q3, nm3, n3, kinds3, purses3, homes3, fr3, cu3, st3, tk3, va3, b1, hM _ ?_⟩
        rw [a2, a_bd7, b2, kI_f b3]
    · rw [show fX7_readBidder b (nI L) (nI p) nm fn 0 kinds purses homes = _ from a1, a_bd8, if_pos rfl]
      refine Or.inr ⟨f, q, nm2, n2, kinds2, purses2, homes2, fr2, cu2, st2, tk2, va2, rfl, hM _ ?_⟩
      rw [a2, a_bd7, show (39999 : Nat) = 39998 + 1 from rfl, fX9_isle_L208.eq_2, fz_sort (fnum_0 hf), bd1_some, if_pos rfl, kI_f (fail_f hf _ _ _ _)]
  · refine Or.inr ⟨1, p, nm, 0, kinds, purses, homes, fr, cu, st, tk, va, ?_, ?_⟩
    · unfold fX7_readBidders fX7_readBidder fX7_fails
      rw [next_X hb hL hA.1, bd1_some, kx, bd1_some, if_pos rfl, a_bd2, chk_t (Or.inl rfl), a_bd8, if_pos rfl]
    · rw [ks, bd1_some, if_pos rfl, show fX9_bad st 0 fa 1 = some (1, st) from if_pos rfl, a_bd2, J208_e, show FU = 39999 + 1 from rfl, fX9_isle_L208.eq_2, fz_sort n10, bd1_some, if_pos rfl, kI_f (fail_f (Or.inl rfl) _ _ _ _), hst]

