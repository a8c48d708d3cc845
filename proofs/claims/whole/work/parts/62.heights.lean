/-! the heights -/
theorem hts_both {b t : Nat → Int32} {L : Nat} (hb : ∀ i : Nat, i < L → b i = t i) (hL : L ≤ 100) (kx ke : Int32 → (Nat → Int32) → Option (Int32 × Int32 × Int32 × (Nat → Int32))) (km : (Nat → Int32) → Int32 → Int32 → Int32 → Int32 → Int32 → Int32 → Option (Int32 × Int32 × (Nat → Int32) × (Nat → Int32) × Int32 × Int32 × Int32 × Int32 × Int32 × Int32 × Int32 × Int32 × Int32)) (fa : Int32) (fr0 : Nat → Int32) : ∀ (i c m m' p : Nat) (hts fr : Nat → Int32) (cu st tk va : Int32), c + i = 15 → i < m → i < m' → At t L p cu st tk va → (∀ x : Nat, x < c → hts x = fr (6 + x) ∧ 0 ≤ (fr (6 + x)).toInt ∧ (fr (6 + x)).toInt ≤ 9) → (∀ x : Nat, x < 6 ∨ 21 ≤ x → fr x = fr0 x) →
    (∃ q hts2 fr2 cu2 st2 tk2 va2, fX7_readHeights_L13 b (nI L) kx ke m (nI c) (nI p) hts = kx (nI q) hts2 ∧ fX9_isle_L121 t (nI L) km m' (nI c) fr cu st tk va 0 fa = km fr2 cu2 st2 tk2 va2 0 fa ∧ At t L q cu2 st2 tk2 va2 ∧ p ≤ q ∧ (∀ x : Nat, x < 15 → hts2 x = fr2 (6 + x) ∧ 0 ≤ (fr2 (6 + x)).toInt ∧ (fr2 (6 + x)).toInt ≤ 9) ∧ (∀ x : Nat, x < 6 ∨ 21 ≤ x → fr2 x = fr0 x)) ∨ (∃ q hts2 fr2 cu2 st2 tk2 va2, fX7_readHeights_L13 b (nI L) kx ke m (nI c) (nI p) hts = ke (nI q) hts2 ∧ fX9_isle_L121 t (nI L) km m' (nI c) fr cu st tk va 0 fa = km fr2 cu2 st2 tk2 va2 1 (nI q))
  | i, c, m, m', p, hts, fr, cu, st, tk, va, hc, hm, hm', hA, h1, h2 => by
    obtain ⟨m, rfl⟩ : ∃ z, m = z + 1 := ⟨m - 1, by omega⟩
    obtain ⟨m', rfl⟩ : ∃ z, m' = z + 1 := ⟨m' - 1, by omega⟩
    rw [fX7_readHeights_L13.eq_2, fX9_isle_L121.eq_2]
    match i, hc, hm, hm' with
    | 0, hc, hm, hm' =>
      have e : c = 15 := by omega
      subst e
      rw [if_pos ge15, if_pos ge15]
      exact Or.inl ⟨p, hts, fr, cu, st, tk, va, rfl, rfl, hA, Nat.le_refl _, h1, h2⟩
    | i + 1, hc, hm, hm' =>
      have hc5 : c < 15 := by omega
      obtain ⟨hst, hcs⟩ := at_all hL hA
      obtain ⟨m', rfl⟩ : ∃ z, m' = z + 1 := ⟨m' - 1, by omega⟩
      have hin : fX9_in va.toInt64 97 106 = some (bI ((97 : Int32).toInt ≤ va.toInt ∧ va.toInt ≤ (106 : Int32).toInt)) := in_lit (B := 97) (C := 106) va 97 106 rfl rfl
      have fin : ∀ fr2 : Nat → Int32, fX9_isle_L121 t (nI L) km (m' + 1) (nI (c + 1)) fr2 cu st tk va 1 st = km fr2 cu st tk va 1 (nI p) := fun fr2 => by
        rw [fX9_isle_L121.eq_2, if_neg n10, ite_self, hst]
      have eN := next_X hb hL hA.1
      have hX : ¬ (p < L ∧ 97 ≤ (t p).toInt ∧ (t p).toInt ≤ 106) → ∀ r : Int32, r = (if p < L then t p else -1) → ∀ A B : Option (Int32 × Int32 × Int32 × (Nat → Int32)), (if r < 97 then A else if r ≤ 106 then B else A) = A := fun hn r hr A B => by
        by_cases q : p < L
        · rw [if_pos q] at hr
          subst hr
          by_cases z : t p < 97
          · rw [if_pos z]
          · rw [if_neg z, if_neg (fun y => hn ⟨q, by
              rw [Int32.lt_iff_toInt_lt] at z
              rw [Int32.le_iff_toInt_le] at y
              have e1 : (97 : Int32).toInt = 97 := rfl
              have e2 : (106 : Int32).toInt = 106 := rfl
              omega⟩)]
        · rw [if_neg q] at hr
          subst hr
          rw [if_pos (by decide)]
      rw [if_neg (le15 hc5), if_neg (le15 hc5), if_pos rfl, six_c hc5, chk_t (nI_in (show 6 + c < 51 by omega) (by decide)), nI_clamp (n := 6 + c) (by omega), eN, bd1_some, hin, bd1_some, if_bI, must_0, a_bd6, nI_1 c, nI_1 p, fin]
      by_cases hg : p < L ∧ 97 ≤ (t p).toInt ∧ (t p).toInt ≤ 106
      · obtain ⟨hp, g1, g2⟩ := hg
        have hlt : ltr (t p) := by omega
        have htk : tk = 2 ∧ va = t p ∧ cu = nI (p + 1) := by
          rcases hcs with ⟨e, _⟩ | ⟨_, ⟨_, a2, a3, a4⟩ | ⟨a1, _⟩ | ⟨r, a1, a2, _⟩ | ⟨a1, _⟩⟩
          · omega
          · exact ⟨a2, a3, a4⟩
          · rcases a1 with q | q <;> (rw [q] at hlt; exact absurd hlt (by decide))
          · have hf : fig (t p) := (a1.1 0 (by omega)).2
            omega
          · exact absurd hlt a1
        obtain ⟨k, hk, ek⟩ := nat_of (x := t p) (n := 106) (by omega) (by omega) (by decide)
        rw [ek, nI_toInt (by omega)] at g1 g2
        obtain ⟨cu2, st2, tk2, va2, m1, m2⟩ := must_1 hL (show p + 1 ≤ L by omega) st tk va fa
        have e97 : nI k - 97 = nI (k - 97) := by rw [show (97 : Int32) = nI 97 from rfl, pk_sub (by omega)]
        have hte : fX3_tellHeight hts (nI c) (nI k - 97) = some (upd hts c (nI (k - 97))) := by
          unfold fX3_tellHeight
          rw [chk_t (nI_in hc5 (by decide)), nI_clamp (by omega), e97]
        rw [if_pos hp, if_pos htk.1, htk.2.1, ek, if_pos (show (97 : Int32).toInt ≤ (nI k).toInt ∧ (nI k).toInt ≤ (106 : Int32).toInt by
          rw [nI_toInt (by omega)]
          have e1 : (97 : Int32).toInt = 97 := rfl
          have e2 : (106 : Int32).toInt = 106 := rfl
          omega), if_neg (show ¬ nI k < 97 from nI_nlt (b := 97) (by omega) (by omega)), if_pos (show nI k ≤ 106 from nI_le (b := 106) (by omega) (by decide)), hte, bd1_some, htk.2.2, ← ek, ← htk.2.1, m1, a_bd6, htk.2.1, ek, e97]
        have hrec := hts_both hb hL kx ke km fa fr0 i (c + 1) m (m' + 1) (p + 1) (upd hts c (nI (k - 97))) (upd fr (6 + c) (nI (k - 97))) cu2 st2 tk2 va2 (by omega) (by omega) (by omega) m2 (fun x hx => by
          by_cases e : x = c
          · rw [e, pk_us, pk_us, nI_toInt (by omega)]
            exact ⟨rfl, by omega, by omega⟩
          · rw [pk_un e, pk_un (by omega)]
            exact h1 x (by omega)) (fun x hx => by rw [pk_un (by omega)]; exact h2 x hx)
        rcases hrec with ⟨q, a1, a2, a3, a4, a5, a6, a7, a8, a9, a10, a11, a12⟩ | ⟨q, a1, a2, a3, a4, a5, a6, a7, a8⟩
        · exact Or.inl ⟨q, a1, a2, a3, a4, a5, a6, a7, a8, a9, by omega, a11, a12⟩
        · exact Or.inr ⟨q, a1, a2, a3, a4, a5, a6, a7, a8⟩
      · rw [hX hg _ rfl]
        refine Or.inr ⟨p, hts, upd fr (6 + c) (va - 97), cu, st, tk, va, rfl, ?_⟩
        by_cases q : tk = 2
        · rw [if_pos q, if_neg (fun z => hg ?_)]
          have hva : p < L ∧ va = t p := by
            rcases hcs with ⟨_, a1⟩ | ⟨hp, ⟨_, _, a3, _⟩ | ⟨_, a2, _⟩ | ⟨r, _, _, _, ⟨_, a2, _⟩ | ⟨_, a2⟩⟩ | ⟨_, _, _, a2⟩⟩
            · rw [q] at a1; exact absurd a1 (by decide)
            · exact ⟨hp, a3⟩
            · rw [q] at a2; exact absurd a2 (by decide)
            · rw [q] at a2; exact absurd a2 (by decide)
            · rw [q] at a2; exact absurd a2 (by decide)
            · rw [q] at a2; exact absurd a2 (by decide)
          rw [hva.2] at z
          exact ⟨hva.1, z.1, z.2⟩
        · rw [if_neg q]

