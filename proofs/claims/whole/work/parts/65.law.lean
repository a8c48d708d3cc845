/-! an isle: law, heights, bidders, both readers -/
abbrev kH (s_isle : Nat → Int32) (s_acts : Int32) (s_tape : Nat → Int32) (s_taped s_latest : Int32) : (Nat → Int32) → Int32 → Int32 → Int32 → Int32 → Int32 → Int32 → Option (Int32 × Int32 × (Nat → Int32) × (Nat → Int32) × Int32 × Int32 × Int32 × Int32 × Int32 × Int32 × Int32 × Int32 × Int32) := (fun s_fresh_e190 s_cursor_e190 s_start_e190 s_token_e190 s_value_e190 s_fault_e190 s_faultAt_e190 => bd6 (fX9_mustSign s_tape s_taped s_cursor_e190 s_start_e190 s_token_e190 s_value_e190 s_fault_e190 s_faultAt_e190 59) (fun s_cursor_23 s_start_23 s_token_23 s_value_23 s_fault_23 s_faultAt_23 => bd1 (fX9_isSort s_token_23 s_value_23 s_fault_23) (fun r_24 => (if r_24 = 0 then bd2 (fX9_bad s_start_23 s_fault_23 s_faultAt_23 1) (fun s_fault_34 s_faultAt_34 => (fX9_isle_J208 s_isle s_acts s_tape s_taped s_latest s_fresh_e190 s_cursor_23 s_start_23 s_token_23 s_value_23 s_fault_34 s_faultAt_34)) else (fX9_isle_J208 s_isle s_acts s_tape s_taped s_latest s_fresh_e190 s_cursor_23 s_start_23 s_token_23 s_value_23 s_fault_23 s_faultAt_23)))))
abbrev kL (s_isle : Nat → Int32) (s_acts : Int32) (s_tape : Nat → Int32) (s_taped s_faultAt s_latest s_cursor_1 s_start_1 s_token_1 s_value_1 s_fault_1 : Int32) : (Nat → Int32) → Option (Int32 × Int32 × (Nat → Int32) × (Nat → Int32) × Int32 × Int32 × Int32 × Int32 × Int32 × Int32 × Int32 × Int32 × Int32) := (fun s_fresh_e30 => bd1 (fX9_isLetter s_token_1 s_value_1 s_fault_1 105) (fun r_4 => bd6 (fX9_must s_tape s_taped s_cursor_1 s_start_1 s_token_1 s_value_1 s_fault_1 s_faultAt r_4) (fun s_cursor_5 s_start_5 s_token_5 s_value_5 s_fault_5 s_faultAt_5 => bd7 (fX9_number s_tape s_taped s_cursor_5 s_start_5 s_token_5 s_value_5 s_fault_5 s_faultAt_5 0 9) (fun r_6 s_cursor_6 s_start_6 s_token_6 s_value_6 s_fault_6 s_faultAt_6 => bd6 (fX9_mustSign s_tape s_taped s_cursor_6 s_start_6 s_token_6 s_value_6 s_fault_6 s_faultAt_6 44) (fun s_cursor_7 s_start_7 s_token_7 s_value_7 s_fault_7 s_faultAt_7 => bd7 (fX9_number s_tape s_taped s_cursor_7 s_start_7 s_token_7 s_value_7 s_fault_7 s_faultAt_7 ((upd (upd s_fresh_e30 (0 : Int32).toNatClampNeg 1) (1 : Int32).toNatClampNeg r_6) (1 : Int32).toNatClampNeg) 9) (fun r_8 s_cursor_8 s_start_8 s_token_8 s_value_8 s_fault_8 s_faultAt_8 => bd6 (fX9_mustSign s_tape s_taped s_cursor_8 s_start_8 s_token_8 s_value_8 s_fault_8 s_faultAt_8 44) (fun s_cursor_9 s_start_9 s_token_9 s_value_9 s_fault_9 s_faultAt_9 => bd7 (fX9_number s_tape s_taped s_cursor_9 s_start_9 s_token_9 s_value_9 s_fault_9 s_faultAt_9 1 9) (fun r_10 s_cursor_10 s_start_10 s_token_10 s_value_10 s_fault_10 s_faultAt_10 => bd6 (fX9_mustSign s_tape s_taped s_cursor_10 s_start_10 s_token_10 s_value_10 s_fault_10 s_faultAt_10 59) (fun s_cursor_11 s_start_11 s_token_11 s_value_11 s_fault_11 s_faultAt_11 => bd1 (fX9_isLetter s_token_11 s_value_11 s_fault_11 104) (fun r_12 => bd6 (fX9_must s_tape s_taped s_cursor_11 s_start_11 s_token_11 s_value_11 s_fault_11 s_faultAt_11 r_12) (fun s_cursor_13 s_start_13 s_token_13 s_value_13 s_fault_13 s_faultAt_13 => (fX9_isle_L121 s_tape s_taped (kH s_isle s_acts s_tape s_taped s_latest) FU 0 (upd (upd (upd (upd s_fresh_e30 (0 : Int32).toNatClampNeg 1) (1 : Int32).toNatClampNeg r_6) (2 : Int32).toNatClampNeg r_8) (3 : Int32).toNatClampNeg r_10) s_cursor_13 s_start_13 s_token_13 s_value_13 s_fault_13 s_faultAt_13))))))))))))
theorem isle_e (s_isle s_fresh : Nat → Int32) (s_acts : Int32) (s_tape : Nat → Int32) (s_taped s_faultAt s_latest : Int32) : fX9_isle s_isle s_fresh s_acts s_tape s_taped s_faultAt s_latest = bd5 (fX9_begin s_tape s_taped) (fun s_cursor_1 s_start_1 s_token_1 s_value_1 s_fault_1 => (fX9_isle_L11 (kL s_isle s_acts s_tape s_taped s_faultAt s_latest s_cursor_1 s_start_1 s_token_1 s_value_1 s_fault_1) FU 0 s_fresh)) := rfl
abbrev kX67 (b : Nat → Int32) (l fn : Int32) : Int32 → (Nat → Int32) → Option (Int32 × Int32 × Int32 × (Nat → Int32)) := fun s_at_e67 o_heights_e67 => bd3 (fX7_readSign b l s_at_e67 fn 59) (fun r_8 s_at_8 s_faultNumber_8 => chk (r_8 = 0 ∨ r_8 = 1) (some (r_8, s_at_8, s_faultNumber_8, o_heights_e67)))
abbrev kX36 : Int32 → (Nat → Int32) → Option (Int32 × Int32 × Int32 × (Nat → Int32)) := fun s_at_e36 o_heights_e36 => bd2 (fX7_fails 1) (fun r_10 s_faultNumber_10 => chk (r_10 = 0 ∨ r_10 = 1) (some (r_10, s_at_e36, s_faultNumber_10, o_heights_e36)))
theorem rh_e (b : Nat → Int32) (l px fn : Int32) (h : Nat → Int32) : fX7_readHeights b l px fn h = bd3 (fX7_readSign b l px fn 104) (fun r a f => (if r = 0 then some (0, a, f, h) else (fX7_readHeights_L13 b l (kX67 b l f) kX36 FU 0 a h))) := rfl
theorem fz_L121 {f : Int32} (hf : f ≠ 0) (t : Nat → Int32) (l : Int32) (km : (Nat → Int32) → Int32 → Int32 → Int32 → Int32 → Int32 → Int32 → Option (Int32 × Int32 × (Nat → Int32) × (Nat → Int32) × Int32 × Int32 × Int32 × Int32 × Int32 × Int32 × Int32 × Int32 × Int32)) (i : Int32) (fr : Nat → Int32) (cu st tk va fa : Int32) : fX9_isle_L121 t l km FU i fr cu st tk va f fa = km fr cu st tk va f fa := by
  rw [show FU = 39999 + 1 from rfl, fX9_isle_L121.eq_2, if_neg hf, ite_self]
theorem fz_kH {f : Int32} (hf : fnum f) (isle : Nat → Int32) (acts : Int32) (t : Nat → Int32) (l latest : Int32) (fr : Nat → Int32) (cu st tk va fa : Int32) : kH isle acts t l latest fr cu st tk va f fa = some ((-1000100) - fa, 0, isle, fr, acts, 0, cu, st, tk, va, f, fa, f) := by
  have hf0 := fnum_0 hf
  show bd6 (fX9_mustSign t l cu st tk va f fa 59) _ = _
  rw [fz_sign hf0, a_bd6, fz_sort hf0, bd1_some, if_pos rfl, fz_bad hf0, a_bd2, J208_e, show FU = 39999 + 1 from rfl, fX9_isle_L208.eq_2, fz_sort hf0, bd1_some, if_pos rfl, kI_f (fail_f hf _ _ _ _)]
/-- both tell a fault -/
def OutF (isle : Nat → Int32) (acts : Int32) (X : Option (Int32 × Int32 × Int32 × Int32 × Int32 × Int32 × Int32 × Int32 × Int32 × Int32 × (Nat → Int32) × (Nat → Int32) × (Nat → Int32) × (Nat → Int32) × (Nat → Int32))) (M : Option (Int32 × Int32 × (Nat → Int32) × (Nat → Int32) × Int32 × Int32 × Int32 × Int32 × Int32 × Int32 × Int32 × Int32 × Int32)) : Prop :=
  ∃ (f : Int32) (q : Nat) (nm told low high price hour bidders : Int32) (hts hd kd ps hm : Nat → Int32) (cu st tk va : Int32), X = some (0, nI q, nm, f, told, low, high, price, hour, bidders, hts, hd, kd, ps, hm) ∧ ∃ fr : Nat → Int32, M = some ((-1000100) - nI q, 0, isle, fr, acts, 0, cu, st, tk, va, f, nI q, f)
/-- both read an isle -/
def OutS (fn fa latest : Int32) (X : Option (Int32 × Int32 × Int32 × Int32 × Int32 × Int32 × Int32 × Int32 × Int32 × Int32 × (Nat → Int32) × (Nat → Int32) × (Nat → Int32) × (Nat → Int32) × (Nat → Int32))) (M : Option (Int32 × Int32 × (Nat → Int32) × (Nat → Int32) × Int32 × Int32 × Int32 × Int32 × Int32 × Int32 × Int32 × Int32 × Int32)) : Prop :=
  ∃ (px nm low high price bidders : Int32) (hts hd kd ps hm w fr : Nat → Int32) (cu st tk va : Int32), X = some (1, px, nm, fn, 1, low, high, price, 0, bidders, hts, hd, kd, ps, hm) ∧ M = some (w 4, 0, w, fr, 0, 0, cu, st, tk, va, 0, fa, latest) ∧ RIsle 1 low high price 0 bidders hts hd kd ps hm w ∧ OkI w
theorem isle_both {b t : Nat → Int32} {L : Nat} (hb : ∀ i : Nat, i < L → b i = t i) (hL : L ≤ 100) (isle fresh : Nat → Int32) (acts nm fn fa latest lo0 hi0 pr0 : Int32) (hts0 hd0 kd0 ps0 hm0 : Nat → Int32) :
    OutF isle acts (fX7_readInto b (nI L) nm fn lo0 hi0 pr0 hts0 hd0 kd0 ps0 hm0) (fX9_isle isle fresh acts t (nI L) fa latest) ∨ OutS fn fa latest (fX7_readInto b (nI L) nm fn lo0 hi0 pr0 hts0 hd0 kd0 ps0 hm0) (fX9_isle isle fresh acts t (nI L) fa latest) := by
  obtain ⟨hd, hd1, hd2⟩ := leave_L hd0
  obtain ⟨c0, s0, t0, v0, A0⟩ := at_ex t hL (Nat.zero_le L)
  obtain ⟨fr, fr1, fr2⟩ := zero_L fresh (kL isle acts t (nI L) fa latest c0 s0 t0 v0 0)
  have hbeg : fX9_begin t (nI L) = some (c0, s0, t0, v0, 0) := by
    unfold fX9_begin
    rw [show fX9_nextToken t (nI L) 0 = _ from A0.2, a_bd4]
  rw [isle_e, hbeg, a_bd5, fr1]
  unfold fX7_readInto fX3_begin
  rw [hd1, bd1_some, a_bd4]
  unfold fX7_readLaw kL
  have l105 : ltr 105 := by decide
  have l104 : ltr 104 := by decide
  -- i
  rcases letter_step hb hL l105 A0 fn fa with ⟨g1, x1, y1, c1, s1, t1, v1, m1, A1⟩ | ⟨x1, y1, m1⟩
  rotate_left 1
  · refine Or.inl ⟨1, 0, nm, 0, lo0, hi0, pr0, 0, 0, hts0, hd, kd0, ps0, hm0, c0, s0, t0, v0, ?_, ?_⟩
    · rw [show fX7_readSign b (nI L) 0 fn 105 = _ from x1, a_bd3, if_pos rfl, a_bd8, if_pos rfl]
    · simp only [y1, bd1_some, m1, a_bd6, a_bd7, fz_must n10, fz_number n10, fz_sign n10, fz_letter n10, fz_L121 n10]
      exact ⟨_, fz_kH (Or.inl rfl) _ _ _ _ _ _ _ _ _ _ _⟩
  rw [show fX7_readSign b (nI L) 0 fn 105 = _ from x1, a_bd3, if_neg n10, y1, bd1_some, m1, a_bd6]
  -- low
  rcases num_step hb hL (l := 0) (h := 9) (by decide) (by decide) A1 nm fn fa with ⟨q2, w1, c2, s2, t2, v2, x2, y2, A2, _, w1h, g2⟩ | ⟨f, hf, x2, y2⟩
  rotate_left 1
  · have hf0 := fnum_0 hf
    refine Or.inl ⟨f, 0 + 1, nm, 0, lo0, hi0, pr0, 0, 0, hts0, hd, kd0, ps0, hm0, c1, s1, t1, v1, ?_, ?_⟩
    · rw [show fX7_readNumber b (nI L) (nI (0 + 1)) nm fn 0 9 = _ from x2, a_bd4, if_pos rfl, a_bd8, if_pos rfl]
    · rw [show fX9_number t (nI L) c1 s1 t1 v1 0 fa 0 9 = _ from y2, a_bd7]
      simp only [bd1_some, a_bd6, a_bd7, fz_must hf0, fz_number hf0, fz_sign hf0, fz_letter hf0, fz_L121 hf0]
      exact ⟨_, fz_kH hf _ _ _ _ _ _ _ _ _ _ _⟩
  rw [show fX7_readNumber b (nI L) (nI (0 + 1)) nm fn 0 9 = _ from x2, a_bd4, if_neg n10, show fX9_number t (nI L) c1 s1 t1 v1 0 fa 0 9 = _ from y2, a_bd7]
  -- ,
  rcases sign_step hb hL (c := 44) (Or.inl rfl) A2 fn fa with ⟨g3, x3, c3, s3, t3, v3, y3, A3⟩ | ⟨x3, y3⟩
  rotate_left 1
  · refine Or.inl ⟨1, q2, nI w1, 0, lo0, hi0, pr0, 0, 0, hts0, hd, kd0, ps0, hm0, c2, s2, t2, v2, ?_, ?_⟩
    · rw [x3, a_bd3, if_pos rfl, a_bd8, if_pos rfl]
    · rw [y3, a_bd6]
      simp only [bd1_some, a_bd6, a_bd7, fz_must n10, fz_number n10, fz_sign n10, fz_letter n10, fz_L121 n10]
      exact ⟨_, fz_kH (Or.inl rfl) _ _ _ _ _ _ _ _ _ _ _⟩
  rw [x3, a_bd3, if_neg n10, y3, a_bd6]
  -- high
  have elow : upd (upd fr (0 : Int32).toNatClampNeg 1) (1 : Int32).toNatClampNeg (nI w1) (1 : Int32).toNatClampNeg = nI w1 := pk_us
  rw [elow]
  rcases num_step hb hL (l := w1) (h := 9) (by omega) (by decide) A3 (nI w1) fn fa with ⟨q4, w2, c4, s4, t4, v4, x4, y4, A4, w2l, w2h, g4⟩ | ⟨f, hf, x4, y4⟩
  rotate_left 1
  · have hf0 := fnum_0 hf
    refine Or.inl ⟨f, q2 + 1, nI w1, 0, lo0, hi0, pr0, 0, 0, hts0, hd, kd0, ps0, hm0, c3, s3, t3, v3, ?_, ?_⟩
    · rw [show fX7_readNumber b (nI L) (nI (q2 + 1)) (nI w1) fn (nI w1) 9 = _ from x4, a_bd4, if_pos rfl, a_bd8, if_pos rfl]
    · rw [show fX9_number t (nI L) c3 s3 t3 v3 0 fa (nI w1) 9 = _ from y4, a_bd7]
      simp only [bd1_some, a_bd6, a_bd7, fz_must hf0, fz_number hf0, fz_sign hf0, fz_letter hf0, fz_L121 hf0]
      exact ⟨_, fz_kH hf _ _ _ _ _ _ _ _ _ _ _⟩
  rw [show fX7_readNumber b (nI L) (nI (q2 + 1)) (nI w1) fn (nI w1) 9 = _ from x4, a_bd4, if_neg n10, show fX9_number t (nI L) c3 s3 t3 v3 0 fa (nI w1) 9 = _ from y4, a_bd7]
  -- ,
  rcases sign_step hb hL (c := 44) (Or.inl rfl) A4 fn fa with ⟨g5, x5, c5, s5, t5, v5, y5, A5⟩ | ⟨x5, y5⟩
  rotate_left 1
  · refine Or.inl ⟨1, q4, nI w2, 0, lo0, hi0, pr0, 0, 0, hts0, hd, kd0, ps0, hm0, c4, s4, t4, v4, ?_, ?_⟩
    · rw [x5, a_bd3, if_pos rfl, a_bd8, if_pos rfl]
    · rw [y5, a_bd6]
      simp only [bd1_some, a_bd6, a_bd7, fz_must n10, fz_number n10, fz_sign n10, fz_letter n10, fz_L121 n10]
      exact ⟨_, fz_kH (Or.inl rfl) _ _ _ _ _ _ _ _ _ _ _⟩
  rw [x5, a_bd3, if_neg n10, y5, a_bd6]
  -- price
  rcases num_step hb hL (l := 1) (h := 9) (by decide) (by decide) A5 (nI w2) fn fa with ⟨q6, w3, c6, s6, t6, v6, x6, y6, A6, w3l, w3h, g6⟩ | ⟨f, hf, x6, y6⟩
  rotate_left 1
  · have hf0 := fnum_0 hf
    refine Or.inl ⟨f, q4 + 1, nI w2, 0, lo0, hi0, pr0, 0, 0, hts0, hd, kd0, ps0, hm0, c5, s5, t5, v5, ?_, ?_⟩
    · rw [show fX7_readNumber b (nI L) (nI (q4 + 1)) (nI w2) fn 1 9 = _ from x6, a_bd4, if_pos rfl, a_bd8, if_pos rfl]
    · rw [show fX9_number t (nI L) c5 s5 t5 v5 0 fa 1 9 = _ from y6, a_bd7]
      simp only [bd1_some, a_bd6, a_bd7, fz_must hf0, fz_number hf0, fz_sign hf0, fz_letter hf0, fz_L121 hf0]
      exact ⟨_, fz_kH hf _ _ _ _ _ _ _ _ _ _ _⟩
  rw [show fX7_readNumber b (nI L) (nI (q4 + 1)) (nI w2) fn 1 9 = _ from x6, a_bd4, if_neg n10, show fX9_number t (nI L) c5 s5 t5 v5 0 fa 1 9 = _ from y6, a_bd7, show fX3_tellLaw (nI w1) (nI w2) (nI w3) = some (1, nI w1, nI w2, nI w3) from rfl, a_bd4]
  -- ;
  rcases sign_step hb hL (c := 59) (Or.inr rfl) A6 fn fa with ⟨g7, x7, c7, s7, t7, v7, y7, A7⟩ | ⟨x7, y7⟩
  rotate_left 1
  · refine Or.inl ⟨1, q6, nI w3, 1, nI w1, nI w2, nI w3, 0, 0, hts0, hd, kd0, ps0, hm0, c6, s6, t6, v6, ?_, ?_⟩
    · rw [x7, a_bd3, chk_t (Or.inl rfl), a_bd8, if_pos rfl]
    · rw [y7, a_bd6]
      simp only [bd1_some, a_bd6, a_bd7, fz_must n10, fz_number n10, fz_sign n10, fz_letter n10, fz_L121 n10]
      exact ⟨_, fz_kH (Or.inl rfl) _ _ _ _ _ _ _ _ _ _ _⟩
  rw [x7, a_bd3, chk_t (Or.inr rfl), a_bd8, if_neg n10, y7, a_bd6, rh_e]
  -- h
  rcases letter_step hb hL l104 A7 fn fa with ⟨g8, x8, y8, c8, s8, t8, v8, m8, A8⟩ | ⟨x8, y8, m8⟩
  rotate_left 1
  · refine Or.inl ⟨1, q6 + 1, nI w3, 1, nI w1, nI w2, nI w3, 0, 0, hts0, hd, kd0, ps0, hm0, c7, s7, t7, v7, ?_, ?_⟩
    · rw [x8, a_bd3, if_pos rfl, a_bd4, if_pos rfl]
    · rw [y8, bd1_some, m8, a_bd6]
      simp only [bd1_some, a_bd6, a_bd7, fz_must n10, fz_number n10, fz_sign n10, fz_letter n10, fz_L121 n10]
      exact ⟨_, fz_kH (Or.inl rfl) _ _ _ _ _ _ _ _ _ _ _⟩
  rw [x8, a_bd3, if_neg n10, y8, bd1_some, m8, a_bd6]
  generalize hfr4 : upd (upd (upd (upd fr (0 : Int32).toNatClampNeg 1) (1 : Int32).toNatClampNeg (nI w1)) (2 : Int32).toNatClampNeg (nI w2)) (3 : Int32).toNatClampNeg (nI w3) = fr4
  have f4 : fr4 0 = 1 ∧ fr4 1 = nI w1 ∧ fr4 2 = nI w2 ∧ fr4 3 = nI w3 ∧ ∀ z : Nat, 4 ≤ z → z < 51 → fr4 z = 0 := by
    rw [← hfr4, show (0 : Int32).toNatClampNeg = 0 from rfl, show (1 : Int32).toNatClampNeg = 1 from rfl, show (2 : Int32).toNatClampNeg = 2 from rfl, show (3 : Int32).toNatClampNeg = 3 from rfl]
    refine ⟨?_, ?_, ?_, pk_us, fun z h1 h2 => ?_⟩
    · rw [pk_un (by decide), pk_un (by decide), pk_un (by decide), pk_us]
    · rw [pk_un (by decide), pk_un (by decide), pk_us]
    · rw [pk_un (by decide), pk_us]
    · rw [pk_un (by omega), pk_un (by omega), pk_un (by omega), pk_un (by omega), fr2 z h2]
  -- heights
  rcases hts_both hb hL (kX67 b (nI L) fn) kX36 (kH isle acts t (nI L) latest) fa fr4 15 0 FU FU (q6 + 1 + 1) hts0 fr4 c8 s8 t8 v8 rfl (fu_big (by decide)) (fu_big (by decide)) A8 (fun x hx => absurd hx (Nat.not_lt_zero x)) (fun x _ => rfl) with ⟨q9, hts, fr9, c9, s9, t9, v9, x9, y9, A9, g9, h9, e9⟩ | ⟨q9, hts, fr9, c9, s9, t9, v9, x9, y9⟩
  rotate_left 1
  · refine Or.inl ⟨1, q9, nI w3, 1, nI w1, nI w2, nI w3, 0, 0, hts, hd, kd0, ps0, hm0, c9, s9, t9, v9, ?_, ?_⟩
    · rw [show fX7_readHeights_L13 b (nI L) (kX67 b (nI L) fn) kX36 FU 0 (nI (q6 + 1 + 1)) hts0 = some (0, nI q9, 1, hts) from x9, a_bd4, if_pos rfl]
    · exact ⟨fr9, y9.trans (fz_kH (Or.inl rfl) _ _ _ _ _ _ _ _ _ _ _)⟩
  -- ;
  rcases sign_step hb hL (c := 59) (Or.inr rfl) A9 fn fa with ⟨g10, x10, c10, s10, t10, v10, y10, A10⟩ | ⟨x10, y10⟩
  rotate_left 1
  · have x9' : fX7_readHeights_L13 b (nI L) (kX67 b (nI L) fn) kX36 FU 0 (nI (q6 + 1 + 1)) hts0 = some (0, nI q9, 1, hts) := x9.trans (by
      show bd3 (fX7_readSign b (nI L) (nI q9) fn 59) _ = _
      rw [x10, a_bd3, chk_t (Or.inl rfl)])
    refine Or.inl ⟨1, q9, nI w3, 1, nI w1, nI w2, nI w3, 0, 0, hts, hd, kd0, ps0, hm0, c9, s9, t9, v9, ?_, fr9, y9.trans ?_⟩
    · rw [x9', a_bd4, if_pos rfl]
    · show bd6 (fX9_mustSign t (nI L) c9 s9 t9 v9 0 fa 59) _ = _
      rw [y10, a_bd6, fz_sort n10, bd1_some, if_pos rfl, fz_bad n10, a_bd2, J208_e, show FU = 39999 + 1 from rfl, fX9_isle_L208.eq_2, fz_sort n10, bd1_some, if_pos rfl, kI_f (fail_f (Or.inl rfl) _ _ _ _)]
  have x9' : fX7_readHeights_L13 b (nI L) (kX67 b (nI L) fn) kX36 FU 0 (nI (q6 + 1 + 1)) hts0 = some (1, nI (q9 + 1), fn, hts) := x9.trans (by
    show bd3 (fX7_readSign b (nI L) (nI q9) fn 59) _ = _
    rw [x10, a_bd3, chk_t (Or.inr rfl)])
  have e94 : fr9 4 = nI 0 := (e9 4 (by decide)).trans (f4.2.2.2.2 4 (by decide) (by decide))
  have yM : ∀ M, bd1 (fX9_isSort t10 v10 0) (fun r_24 => (if r_24 = 0 then bd2 (fX9_bad s10 0 fa 1) (fun s_fault_34 s_faultAt_34 => (fX9_isle_J208 isle acts t (nI L) latest fr9 c10 s10 t10 v10 s_fault_34 s_faultAt_34)) else (fX9_isle_J208 isle acts t (nI L) latest fr9 c10 s10 t10 v10 0 fa))) = M → kH isle acts t (nI L) latest fr9 c9 s9 t9 v9 0 fa = M := fun M hM => by
    show bd6 (fX9_mustSign t (nI L) c9 s9 t9 v9 0 fa 59) _ = _
    rw [y10, a_bd6]
    exact hM
  rw [x9', a_bd4, if_neg n10]
  -- bidders
  rcases tail_both hb hL A10 isle acts (nI w3) fn fa latest kd0 ps0 hm0 e94 with ⟨nm2, n2, kd, ps, hm, w, fr11, c11, s11, t11, v11, x11, y11, hn2, hB, hw⟩ | ⟨f, q, nm2, n2, kd, ps, hm, fr11, c11, s11, t11, v11, x11, y11⟩
  rotate_left 1
  · refine Or.inl ⟨f, q, nm2, 1, nI w1, nI w2, nI w3, 0, n2, hts, hd, kd, ps, hm, c11, s11, t11, v11, ?_, fr11, y9.trans (yM _ y11)⟩
    rw [x11, a_bd8, if_pos rfl]
  have hn5 := hB.1
  have hw4 : w 4 = nI n2 := hB.2.1
  have hwl : ∀ z : Nat, z < 6 ∨ 21 ≤ z → z < 36 → z ≠ 4 → w z = fr4 z := fun z h1 h2 h3 => (hw z h2 h3).trans (e9 z h1)
  have w0 : w 0 = 1 := (hwl 0 (by decide) (by decide) (by decide)).trans f4.1
  have w1' : w 1 = nI w1 := (hwl 1 (by decide) (by decide) (by decide)).trans f4.2.1
  have w2' : w 2 = nI w2 := (hwl 2 (by decide) (by decide) (by decide)).trans f4.2.2.1
  have w3' : w 3 = nI w3 := (hwl 3 (by decide) (by decide) (by decide)).trans f4.2.2.2.1
  have w5' : w 5 = 0 := (hwl 5 (by decide) (by decide) (by decide)).trans (f4.2.2.2.2 5 (by decide) (by decide))
  have wh : ∀ c : Nat, c < 15 → hts c = w (6 + c) ∧ 0 ≤ (w (6 + c)).toInt ∧ (w (6 + c)).toInt ≤ 9 := fun c hc => by
    rw [hw (6 + c) (by omega) (by omega)]
    exact h9 c hc
  have wo : ∀ c : Nat, c < 15 → w (21 + c) = 0 := fun c hc => (hwl (21 + c) (by omega) (by omega) (by omega)).trans (f4.2.2.2.2 _ (by omega) (by omega))
  refine Or.inr ⟨nI L, nm2, nI w1, nI w2, nI w3, nI n2, hts, hd, kd, ps, hm, w, fr11, c11, s11, t11, v11, ?_, y9.trans (yM _ y11), ?_, ?_⟩
  · rw [x11, a_bd8, if_neg n10]
  · refine ⟨w0.symm, w1'.symm, w2'.symm, w3'.symm, w5'.symm, hw4.symm, fun c hc => (wh c hc).1, fun c hc => ?_, fun q hq => ?_⟩
    · rw [wo c hc, hd2 c hc]
      rfl
    · rw [hw4, nI_toInt (by omega)] at hq
      exact (hB.2.2 q (by omega)).1
  · refine ⟨Or.inr ⟨w0, by rw [hw4, nI_toInt (by omega)]; omega⟩, by rw [hw4, nI_toInt (by omega)]; omega, by rw [w1', w2', nI_toInt (by omega), nI_toInt (by omega)]; omega, by rw [w3', nI_toInt (by omega)]; omega, by rw [w5']; decide, fun c hc => (wh c hc).2, fun c hc => by rw [wo c hc, hw4, nI_toInt (by omega), Int32.toInt_zero]; omega, fun q hq => ?_⟩
    rw [hw4, nI_toInt (by omega)] at hq
    exact (hB.2.2 q (by omega)).2

