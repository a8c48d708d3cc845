/-! the bidders -/
theorem kind_both (x : Int32) : (∃ k : Nat, 1 ≤ k ∧ k ≤ 5 ∧ fX4_told x = some (nI k) ∧ fX9_kindBy x = some (nI k) ∧ ltr x) ∨ (fX4_told x = some (-1) ∧ fX9_kindBy x = some (-1000000)) := by
  unfold fX4_told fX9_kindBy
  by_cases h1 : x = 97
  · subst h1; exact Or.inl ⟨2, by decide, by decide, rfl, rfl, by decide⟩
  by_cases h2 : x = 98
  · subst h2; exact Or.inl ⟨1, by decide, by decide, rfl, rfl, by decide⟩
  by_cases h3 : x = 103
  · subst h3; exact Or.inl ⟨4, by decide, by decide, rfl, rfl, by decide⟩
  by_cases h4 : x = 108
  · subst h4; exact Or.inl ⟨5, by decide, by decide, rfl, rfl, by decide⟩
  by_cases h5 : x = 122
  · subst h5; exact Or.inl ⟨3, by decide, by decide, rfl, rfl, by decide⟩
  · exact Or.inr ⟨by rw [if_neg h1, if_neg h2, if_neg h3, if_neg h4, if_neg h5], by rw [if_neg h2, if_neg h1, if_neg h5, if_neg h3, if_neg h4]⟩
/-- what is told of the bidders so far -/
def Bids (n : Nat) (kinds purses homes fr : Nat → Int32) : Prop := n ≤ 5 ∧ fr 4 = nI n ∧ ∀ b : Nat, b < n → (kinds b = fr (36 + 3 * b) ∧ purses b = fr (37 + 3 * b) ∧ homes b = fr (38 + 3 * b)) ∧ (1 ≤ (fr (36 + 3 * b)).toInt ∧ (fr (36 + 3 * b)).toInt ≤ 5) ∧ (0 ≤ (fr (37 + 3 * b)).toInt ∧ (fr (37 + 3 * b)).toInt ≤ 99) ∧ (0 ≤ (fr (38 + 3 * b)).toInt ∧ (fr (38 + 3 * b)).toInt ≤ 14)
theorem bids_more {n k v1 v2 : Nat} {kinds purses homes fr : Nat → Int32} (h : Bids n kinds purses homes fr) (hn : n < 5) (hk : 1 ≤ k ∧ k ≤ 5) (h1 : v1 ≤ 99) (h2 : v2 ≤ 14) : Bids (n + 1) (upd kinds n (nI k)) (upd purses n (nI v1)) (upd homes n (nI v2)) (upd (upd (upd (upd fr (36 + 3 * n) (nI k)) (37 + 3 * n) (nI v1)) (38 + 3 * n) (nI v2)) 4 (nI (n + 1))) := by
  refine ⟨by omega, pk_us, fun b hb => ?_⟩
  rw [pk_un (show 36 + 3 * b ≠ 4 by omega), pk_un (show 37 + 3 * b ≠ 4 by omega), pk_un (show 38 + 3 * b ≠ 4 by omega), pk_un (show 36 + 3 * b ≠ 38 + 3 * n by omega), pk_un (show 37 + 3 * b ≠ 38 + 3 * n by omega), pk_un (show 36 + 3 * b ≠ 37 + 3 * n by omega)]
  by_cases e : b = n
  · subst e
    rw [pk_us, pk_us, pk_us, pk_us, pk_us, pk_us, nI_toInt (by omega), nI_toInt (by omega), nI_toInt (by omega)]
    exact ⟨⟨rfl, rfl, rfl⟩, by omega, by omega, by omega⟩
  · obtain ⟨a1, a2⟩ := h.2.2 b (by omega)
    rw [pk_un e, pk_un e, pk_un e, pk_un (show 38 + 3 * b ≠ 38 + 3 * n by omega), pk_un (show 38 + 3 * b ≠ 37 + 3 * n by omega), pk_un (show 38 + 3 * b ≠ 36 + 3 * n by omega), pk_un (show 37 + 3 * b ≠ 37 + 3 * n by omega), pk_un (show 37 + 3 * b ≠ 36 + 3 * n by omega), pk_un (show 36 + 3 * b ≠ 36 + 3 * n by omega)]
    exact ⟨a1, a2⟩
theorem fz_J23 {f : Int32} (hf : f ≠ 0) (fr t : Nat → Int32) (l cu st tk va k fa : Int32) : fX9_readBidder_J23 fr t l cu st tk va k f fa = some (fr, cu, st, tk, va, f, fa) := by
  unfold fX9_readBidder_J23
  rw [fz_must hf, a_bd6, fz_number hf, a_bd7, fz_sign hf, a_bd6, fz_number hf, a_bd7, fz_sign hf, a_bd6, if_neg hf]
theorem bidder_both {b t : Nat → Int32} {L p n k : Nat} {cu st tk va : Int32} {kinds purses homes fr : Nat → Int32} (hb : ∀ i : Nat, i < L → b i = t i) (hL : L ≤ 100) (hA : At t L p cu st tk va) (hp : p < L) (hk : 1 ≤ k ∧ k ≤ 5) (hx : fX4_told (t p) = some (nI k)) (hm : fX9_kindBy (t p) = some (nI k)) (hl : ltr (t p)) (hB : Bids n kinds purses homes fr) (nm fn fa : Int32) :
    (∃ q nm2 kinds2 purses2 homes2 fr2 cu2 st2 tk2 va2, fX7_readBidder b (nI L) (nI p) nm fn (nI n) kinds purses homes = some (1, nI q, nm2, fn, nI (n + 1), kinds2, purses2, homes2) ∧ fX9_readBidder fr t (nI L) cu st tk va 0 fa = some (fr2, cu2, st2, tk2, va2, 0, fa) ∧ At t L q cu2 st2 tk2 va2 ∧ p < q ∧ Bids (n + 1) kinds2 purses2 homes2 fr2 ∧ ∀ x : Nat, x < 36 → x ≠ 4 → fr2 x = fr x) ∨ (∃ f q nm2 n2 kinds2 purses2 homes2 fr2 cu2 st2 tk2 va2, fnum f ∧ fX7_readBidder b (nI L) (nI p) nm fn (nI n) kinds purses homes = some (0, nI q, nm2, f, n2, kinds2, purses2, homes2) ∧ fX9_readBidder fr t (nI L) cu st tk va 0 fa = some (fr2, cu2, st2, tk2, va2, f, nI q)) := by
  have hn5 := hB.1
  obtain ⟨hst, hcs⟩ := at_all hL hA
  have hva : va = t p ∧ cu = nI (p + 1) := by
    rcases hcs with ⟨e, _⟩ | ⟨_, ⟨_, _, a3, a4⟩ | ⟨a1, _⟩ | ⟨r, a1, a2, _⟩ | ⟨a1, _⟩⟩
    · omega
    · exact ⟨a3, a4⟩
    · rcases a1 with q | q <;> (rw [q] at hl; exact absurd hl (by decide))
    · have hf : fig (t p) := (a1.1 0 (by omega)).2
      omega
    · exact absurd hl a1
  unfold fX7_readBidder fX9_readBidder
  rw [next_X hb hL (by omega), if_pos hp, bd1_some, hx, bd1_some, if_neg (show ¬ nI k = -1 from fun z => nI_pos (show k < 2 ^ 31 by omega) (by rw [z]; decide)), show fX3_bidders (nI n) = some (nI n) from rfl, bd1_some, hva.1, hm, bd1_some, show (4 : Int32).toNatClampNeg = 4 from rfl, hB.2.1, hva.2, nI_1]
  by_cases h5 : n = 5
  · refine Or.inr ⟨3, p, nm, nI n, kinds, purses, homes, fr, nI (p + 1), st, tk, t p, Or.inr (Or.inr rfl), ?_, ?_⟩
    · unfold fX7_fails
      rw [h5, if_neg (by decide), a_bd2, chk_t (Or.inl rfl)]
    · unfold fX9_bad
      rw [h5, if_pos rfl, if_pos (show nI 5 = 5 from rfl), a_bd2, fz_J23 (by decide), hst]
  have hn : n < 5 := by omega
  rw [if_pos (show nI n < 5 from nI_lt (b := 5) hn (by decide)), if_neg (show ¬ nI n = 5 from fun z => h5 ((nI_eq (b := 5) (by omega) (by decide)).mp z))]
  unfold fX9_readBidder_J23
  obtain ⟨c1, s1, t1, v1, m1, A1⟩ := must_1 hL (show p + 1 ≤ L by omega) st tk (t p) fa
  rw [m1, a_bd6]
  rcases num_step hb hL (l := 0) (h := 99) (by decide) (by decide) A1 nm fn fa with ⟨q2, w1, c2, s2, t2, v2, x2, y2, A2, _, w1h, g2⟩ | ⟨f, hf, x2, y2⟩
  rotate_left 1
  · have hf0 := fnum_0 hf
    refine Or.inr ⟨f, p + 1, nm, nI n, kinds, purses, homes, fr, c1, s1, t1, v1, hf, ?_, ?_⟩
    · rw [show fX7_readNumber b (nI L) (nI (p + 1)) nm fn 0 99 = _ from x2, a_bd4, if_pos rfl]
    · rw [show fX9_number t (nI L) c1 s1 t1 v1 0 fa 0 99 = _ from y2, a_bd7, fz_sign hf0, a_bd6, fz_number hf0, a_bd7, fz_sign hf0, a_bd6, if_neg hf0]
  rw [show fX7_readNumber b (nI L) (nI (p + 1)) nm fn 0 99 = _ from x2, a_bd4, if_neg n10, show fX9_number t (nI L) c1 s1 t1 v1 0 fa 0 99 = _ from y2, a_bd7]
  rcases sign_step hb hL (c := 44) (Or.inl rfl) A2 fn fa with ⟨g3, x3, c3, s3, t3, v3, y3, A3⟩ | ⟨x3, y3⟩
  rotate_left 1
  · refine Or.inr ⟨1, q2, nI w1, nI n, kinds, purses, homes, fr, c2, s2, t2, v2, Or.inl rfl, ?_, ?_⟩
    · rw [x3, a_bd3, if_pos rfl]
    · rw [y3, a_bd6, fz_number n10, a_bd7, fz_sign n10, a_bd6, if_neg n10]
  rw [x3, a_bd3, if_neg n10, y3, a_bd6]
  rcases num_step hb hL (l := 0) (h := 14) (by decide) (by decide) A3 (nI w1) fn fa with ⟨q4, w2, c4, s4, t4, v4, x4, y4, A4, _, w2h, g4⟩ | ⟨f, hf, x4, y4⟩
  rotate_left 1
  · have hf0 := fnum_0 hf
    refine Or.inr ⟨f, q2 + 1, nI w1, nI n, kinds, purses, homes, fr, c3, s3, t3, v3, hf, ?_, ?_⟩
    · rw [show fX7_readNumber b (nI L) (nI (q2 + 1)) (nI w1) fn 0 14 = _ from x4, a_bd4, if_pos rfl]
    · rw [show fX9_number t (nI L) c3 s3 t3 v3 0 fa 0 14 = _ from y4, a_bd7, fz_sign hf0, a_bd6, if_neg hf0]
  have htell : fX3_tellBidder (nI n) kinds purses homes (nI k) (nI w1) (nI w2) = some (nI (n + 1), upd kinds n (nI k), upd purses n (nI w1), upd homes n (nI w2)) := by
    unfold fX3_tellBidder
    rw [if_neg (show ¬ (5 : Int32) ≤ nI n from nI_ge (b := 5) hn (by decide)), nI_clamp (by omega)]
    simp only [chk_nI2 hn (show 5 < 2 ^ 31 by decide)]
    rw [nI_1]
  rw [show fX7_readNumber b (nI L) (nI (q2 + 1)) (nI w1) fn 0 14 = _ from x4, a_bd4, if_neg n10, htell, a_bd4, show fX9_number t (nI L) c3 s3 t3 v3 0 fa 0 14 = _ from y4, a_bd7]
  rcases sign_step hb hL (c := 59) (Or.inr rfl) A4 fn fa with ⟨g5, x5, c5, s5, t5, v5, y5, A5⟩ | ⟨x5, y5⟩
  rotate_left 1
  · refine Or.inr ⟨1, q4, nI w2, nI (n + 1), upd kinds n (nI k), upd purses n (nI w1), upd homes n (nI w2), fr, c4, s4, t4, v4, Or.inl rfl, ?_, ?_⟩
    · rw [x5, a_bd3, chk_t (Or.inl rfl)]
    · rw [y5, a_bd6, if_neg n10]
  have i0 : 36 + 3 * nI n = nI (36 + 3 * n) := by
    rw [show (36 : Int32) = nI 36 from rfl, show (3 : Int32) = nI 3 from rfl, pk_mul, nI_add]
  have i1 : nI (36 + 3 * n) + 1 = nI (37 + 3 * n) := by rw [nI_1]; exact congrArg nI (by omega)
  have i2 : nI (36 + 3 * n) + 2 = nI (38 + 3 * n) := by
    rw [show (2 : Int32) = nI 2 from rfl, nI_add]; exact congrArg nI (by omega)
  refine Or.inl ⟨q4 + 1, nI w2, upd kinds n (nI k), upd purses n (nI w1), upd homes n (nI w2), upd (upd (upd (upd fr (36 + 3 * n) (nI k)) (37 + 3 * n) (nI w1)) (38 + 3 * n) (nI w2)) 4 (nI (n + 1)), c5, s5, t5, v5, by rw [x5, a_bd3, chk_t (Or.inr rfl)], ?_, A5, by omega, bids_more hB hn hk w1h w2h, fun x hx h4 => ?_⟩
  · rw [y5, a_bd6, if_pos rfl, show (4 : Int32).toNatClampNeg = 4 from rfl, hB.2.1, i0, i1, i2, chk_t (nI_in (show 36 + 3 * n < 51 by omega) (by decide)), chk_t (nI_in (show 37 + 3 * n < 51 by omega) (by decide)), chk_t (nI_in (show 38 + 3 * n < 51 by omega) (by decide)), nI_clamp (n := 36 + 3 * n) (by omega), nI_clamp (n := 37 + 3 * n) (by omega), nI_clamp (n := 38 + 3 * n) (by omega), pk_un (show 4 ≠ 38 + 3 * n by omega), pk_un (show 4 ≠ 37 + 3 * n by omega), pk_un (show 4 ≠ 36 + 3 * n by omega), hB.2.1, nI_1]
  · rw [pk_un h4, pk_un (by omega), pk_un (by omega), pk_un (by omega)]
/-- where the bidders end: both found a fault, or both are at the end -/
theorem fail_f {f : Int32} (hf : fnum f) (st tk fa latest : Int32) : fX9_failed st tk f fa latest = some (1, 0, f, fa, f) := by
  unfold fX9_failed fX9_failed_J20
  rcases hf with rfl | rfl | rfl <;> rfl
theorem fail_1 {tk : Int32} (h : tk ≠ 1) (st fa latest : Int32) : fX9_failed st tk 0 fa latest = some (1, 0, 1, st, 1) := by
  unfold fX9_failed fX9_bad fX9_failed_J20
  rw [if_pos rfl, if_neg h, if_pos rfl, a_bd2]
  rfl
theorem fail_0 (st fa latest : Int32) : fX9_failed st 1 0 fa latest = some (0, 0, 0, fa, latest) := by
  unfold fX9_failed fX9_failed_J20
  rfl
theorem sort_t {tk va : Int32} {k : Nat} (h2 : tk = 2) (hk : k < 2 ^ 31) (h : fX9_kindBy va = some (nI k)) : fX9_isSort tk va 0 = some 1 := by
  unfold fX9_isSort
  rw [if_pos rfl, if_pos h2, h, bd1_some, if_neg (nI_none hk)]
theorem sort_f {tk va : Int32} (h : tk = 2 → fX9_kindBy va = some (-1000000)) : fX9_isSort tk va 0 = some 0 := by
  unfold fX9_isSort
  rw [if_pos rfl]
  by_cases h2 : tk = 2
  · rw [if_pos h2, h h2, bd1_some, if_pos rfl]
  · rw [if_neg h2]
/-- at a place: a sort of a bidder for both, or for none -/
theorem sort_both {t : Nat → Int32} {L p : Nat} {cu st tk va : Int32} (hL : L ≤ 100) (hA : At t L p cu st tk va) : (∃ k : Nat, p < L ∧ (1 ≤ k ∧ k ≤ 5) ∧ fX4_told (t p) = some (nI k) ∧ fX9_kindBy (t p) = some (nI k) ∧ ltr (t p) ∧ fX9_isSort tk va 0 = some 1) ∨ (fX4_told (if p < L then t p else -1) = some (-1) ∧ fX9_isSort tk va 0 = some 0 ∧ (p < L → tk ≠ 1) ∧ (p = L → tk = 1)) := by
  obtain ⟨hst, hcs⟩ := at_all hL hA
  rcases hcs with ⟨e, h1⟩ | ⟨hp, hcs⟩
  · refine Or.inr ⟨?_, sort_f (fun z => by rw [h1] at z; exact absurd z (by decide)), fun z => by omega, fun _ => h1⟩
    rw [if_neg (by omega)]
    decide
  rw [if_pos hp]
  rcases kind_both (t p) with ⟨k, k1, k5, kx, km, kl⟩ | ⟨kx, km⟩
  · rcases hcs with ⟨a1, a2, a3, _⟩ | ⟨a1, _⟩ | ⟨r, a1, a2, _⟩ | ⟨a1, _⟩
    · exact Or.inl ⟨k, hp, ⟨k1, k5⟩, kx, km, kl, sort_t (k := k) a2 (by omega) (by rw [a3]; exact km)⟩
    · rcases a1 with q | q <;> (rw [q] at kl; exact absurd kl (by decide))
    · have hf : fig (t p) := (a1.1 0 (by omega)).2
      omega
    · exact absurd kl a1
  · refine Or.inr ⟨kx, ?_, fun _ => ?_, fun z => by omega⟩
    · rcases hcs with ⟨_, _, a3, _⟩ | ⟨_, a2, _⟩ | ⟨r, _, _, _, ⟨_, a2, _⟩ | ⟨_, a2⟩⟩ | ⟨_, _, _, a2⟩
      · exact sort_f (fun _ => by rw [a3]; exact km)
      · exact sort_f (fun z => by rw [a2] at z; exact absurd z (by decide))
      · exact sort_f (fun z => by rw [a2] at z; exact absurd z (by decide))
      · exact sort_f (fun z => by rw [a2] at z; exact absurd z (by decide))
      · exact sort_f (fun z => by rw [a2] at z; exact absurd z (by decide))
    · rcases hcs with ⟨_, a2, _⟩ | ⟨_, a2, _⟩ | ⟨r, _, _, _, ⟨_, a2, _⟩ | ⟨_, a2⟩⟩ | ⟨_, _, _, a2⟩ <;> (rw [a2]; decide)
theorem bidders_both {b t : Nat → Int32} {L : Nat} (hb : ∀ i : Nat, i < L → b i = t i) (hL : L ≤ 100) (km : (Nat → Int32) → Int32 → Int32 → Int32 → Int32 → Int32 → Int32 → Option (Int32 × Int32 × (Nat → Int32) × (Nat → Int32) × Int32 × Int32 × Int32 × Int32 × Int32 × Int32 × Int32 × Int32 × Int32)) (fn fa latest : Int32) (fr0 : Nat → Int32) : ∀ (i p x m m' n : Nat) (nm cu st tk va : Int32) (kinds purses homes fr : Nat → Int32), p + i = L → x ≤ p → i < m → i < m' → 1 ≤ n → At t L p cu st tk va → Bids n kinds purses homes fr → (∀ z : Nat, z < 36 → z ≠ 4 → fr z = fr0 z) →
    (∃ nm2 n2 kinds2 purses2 homes2 fr2 cu2 st2 tk2 va2, fX7_readBidders_L12 b (nI L) m (nI x) (nI p) nm fn (nI n) kinds purses homes = some (1, nI L, nm2, fn, nI n2, kinds2, purses2, homes2) ∧ fX9_isle_L208 t (nI L) km m' fr cu st tk va 0 fa = km fr2 cu2 st2 tk2 va2 0 fa ∧ fX9_failed st2 tk2 0 fa latest = some (0, 0, 0, fa, latest) ∧ 1 ≤ n2 ∧ Bids n2 kinds2 purses2 homes2 fr2 ∧ ∀ z : Nat, z < 36 → z ≠ 4 → fr2 z = fr0 z) ∨ (∃ f q nm2 n2 kinds2 purses2 homes2 fr2 cu2 st2 tk2 va2 f0 fa0, fX7_readBidders_L12 b (nI L) m (nI x) (nI p) nm fn (nI n) kinds purses homes = some (0, nI q, nm2, f, n2, kinds2, purses2, homes2) ∧ fX9_isle_L208 t (nI L) km m' fr cu st tk va 0 fa = km fr2 cu2 st2 tk2 va2 f0 fa0 ∧ fX9_failed st2 tk2 f0 fa0 latest = some (1, 0, f, nI q, f)) := by
  intro i
  induction i using Nat.strongRecOn with
  | ind i ih =>
    intro p x m m' n nm cu st tk va kinds purses homes fr hi hx hm hm' hn hA hB hfr
    obtain ⟨m, rfl⟩ : ∃ z, m = z + 1 := ⟨m - 1, by omega⟩
    obtain ⟨m', rfl⟩ : ∃ z, m' = z + 1 := ⟨m' - 1, by omega⟩
    have hst := (at_all hL hA).1
    rw [fX7_readBidders_L12.eq_2, fX9_isle_L208.eq_2]
    rcases sort_both hL hA with ⟨k, hp, hk, kx, kM, kl, ks⟩ | ⟨kx, ks, k1, k2⟩
    · rw [if_neg (show ¬ (100 : Int32) ≤ nI x from nI_ge (b := 100) (by omega) (by decide)), if_neg (nI_ge hp (by omega)), ks, bd1_some, if_neg n10]
      rcases bidder_both hb hL hA hp hk kx kM kl hB nm fn fa with ⟨q, nm2, kinds2, purses2, homes2, fr2, cu2, st2, tk2, va2, a1, a2, a3, a4, a5, a6⟩ | ⟨f, q, nm2, n2, kinds2, purses2, homes2, fr2, cu2, st2, tk2, va2, hf, a1, a2⟩
      · rw [a1, a_bd8, if_neg n10, a2, a_bd7, nI_1]
        have hqL := a3.1
        exact ih (L - q) (by omega) q (x + 1) m m' (n + 1) nm2 cu2 st2 tk2 va2 kinds2 purses2 homes2 fr2 (by omega) (by omega) (by omega) (by omega) (by omega) a3 a5 (fun z hz h4 => (a6 z hz h4).trans (hfr z hz h4))
      · obtain ⟨m', rfl⟩ : ∃ z, m' = z + 1 := ⟨m' - 1, by omega⟩
        rw [a1, a_bd8, if_pos rfl, a2, a_bd7, fX9_isle_L208.eq_2, fz_sort (fnum_0 hf), bd1_some, if_pos rfl]
        exact Or.inr ⟨f, q, nm2, n2, kinds2, purses2, homes2, fr2, cu2, st2, tk2, va2, f, nI q, rfl, rfl, fail_f hf _ _ _ _⟩
    · rw [ks, bd1_some, if_pos rfl]
      by_cases hp : p < L
      · rw [if_pos hp] at kx
        have e : fX7_readBidder b (nI L) (nI p) nm fn (nI n) kinds purses homes = some (0, nI p, nm, 1, nI n, kinds, purses, homes) := by
          unfold fX7_readBidder fX7_fails
          rw [next_X hb hL hA.1, if_pos hp, bd1_some, kx, bd1_some, if_pos rfl, a_bd2, chk_t (Or.inl rfl)]
        rw [if_neg (show ¬ (100 : Int32) ≤ nI x from nI_ge (b := 100) (by omega) (by decide)), if_neg (nI_ge hp (by omega)), e, a_bd8, if_pos rfl]
        exact Or.inr ⟨1, p, nm, nI n, kinds, purses, homes, fr, cu, st, tk, va, 0, fa, rfl, rfl, by rw [fail_1 (k1 hp), hst]⟩
      · have e : p = L := by have := hA.1; omega
        subst e
        have e2 := k2 rfl
        subst e2
        refine Or.inl ⟨nm, n, kinds, purses, homes, fr, cu, st, 1, va, ?_, rfl, fail_0 _ _ _, hn, hB, hfr⟩
        rw [if_pos (Int32.le_refl _), ite_self]

