def fX8_found (v1 : Int32) : Option (Int32 × Int32) :=
  some (((-1000010) - v1), v1)
abbrev rmX8_found : Room := { frames := 0, cells := 0, slots := 0, locals := 0 }
theorem ddX8_found : yX8_found.cls ≠ "java/lang/invoke/MethodHandle" ∧ yX8_found.cls ≠ "java/lang/invoke/VarHandle" ∧ (parseMethodDescriptor yX8_found.desc).map (fun d => d.parameters.length) = some 1 := by decide +kernel
set_option maxHeartbeats 4000000 in
set_option maxRecDepth 100000 in
theorem m_X8_found (l : Launch) (dC : Nat → ClassId) (dI : Nat → Nat → Nat) (cI cZ : ClassId) (q_s q_rows q_tape q_land q_spare q_firstImage q_secondImage q_acts q_basket q_asks : Nat) (s_finding : Int32) (v1 : Int32) (sz : Nat) (res : Int32 × Int32) (hf : fX8_found v1 = some res) : Met l yX8_found wsX8_found rmX8_found (mtPc (dC, dI) (tyZ cI cZ) ((W_X cI cZ q_s q_rows q_tape q_land q_spare q_firstImage q_secondImage q_acts q_basket q_asks s_finding)) [.ref q_s, .int v1] sz) (mtQi (dC, dI) (tyZ cI cZ) ((W_X cI cZ q_s q_rows q_tape q_land q_spare q_firstImage q_secondImage q_acts q_basket q_asks s_finding)) ((W_X cI cZ q_s q_rows q_tape q_land q_spare q_firstImage q_secondImage q_acts q_basket q_asks res.2)) res.1 sz) 0 0 (va_A ((W_X cI cZ q_s q_rows q_tape q_land q_spare q_firstImage q_secondImage q_acts q_basket q_asks s_finding)) sz) := by
  refine Met.ofW (cc := cX8_found) (maxL := 2) (ret := (some .int)) (by decide) rfl ?_
  intro p e s m args below meth c s₁ B hml hv
  obtain ⟨rfl, hsz, hP, hK, hD0⟩ := hv
  have hx := B.exec
  have hb := B.bytes
  have hr := B.returns
  have hts := atoms_spec (ws := wsX8_found) B.pre
  have hown : s.vm.findClass RX8 = some m.cls := findClass_of_methodNamed B.named
  have hlocks := B.notSynchronized
  subst hsz
  have hD := hD0.self (sz := s.heap.size)
  obtain ⟨A, hAe⟩ : ∃ A, A = va_A ((W_X cI cZ q_s q_rows q_tape q_land q_spare q_firstImage q_secondImage q_acts q_basket q_asks s_finding)) s.heap.size := ⟨_, rfl⟩
  rw [← hAe] at hD
  have hA : ∀ q : Nat, s.heap.size ≤ q → A q := fun q h => by rw [hAe]; exact Or.inr h
  have hS : va_S A s.heap s.heap [] := va_S.rf
  have hl := lv_entry ([.ref q_s, .int v1]) (n := 2) (Nat.le_of_ble_eq_true rfl)
  rw [lg_entry_eq]
  generalize (lg_sl ([.ref q_s, .int v1]) ++ List.replicate (2 - (lg_sl ([.ref q_s, .int v1])).length) Slot.unset).toArray = ls at hl ⊢
  have hl : lv_has ls 2 [(0, .ref q_s), (1, .int v1)] := hl
  obtain ⟨QQ, hQQ⟩ : ∃ Q, Q = MQ below (mtQi (dC, dI) (tyZ cI cZ) ((W_X cI cZ q_s q_rows q_tape q_land q_spare q_firstImage q_secondImage q_acts q_basket q_asks s_finding)) ((W_X cI cZ q_s q_rows q_tape q_land q_spare q_firstImage q_secondImage q_acts q_basket q_asks res.2)) res.1 s.heap.size) ([.ref q_s, .int v1] : List Value).toArray s 0 0 (va_A ((W_X cI cZ q_s q_rows q_tape q_land q_spare q_firstImage q_secondImage q_acts q_basket q_asks s_finding)) s.heap.size) := ⟨_, rfl⟩
  rw [← hQQ]
  have w_0 := hts (Cond.fieldLink RX8 60 "TideInches" "finding" "I") (List.mem_of_getElem? (i := 1) rfl)
  have w_1 := (fun w hw => List.mem_cons_of_mem _ (List.mem_append_right _ hw) : ∀ w ∈ wsX80, w ∈ wsX8_found)
  have w_2 := hts (Cond.constant RX8 316 (-1000010)) (List.mem_of_getElem? (i := 2) rfl)
  have h := hf
  unfold fX8_found at h
  refine lv_aload_n hx hb dX8_found_0 rfl (lv_at hl 0 rfl) ?_
  refine lv_iload_n hx hb dX8_found_1 rfl (lv_at hl 1 rfl) ?_
  refine va_put (D := (dC, dI)) (ci := 6) (v := .int v1) (ty := .int) (C := RX8) (T := TX8) (N := 10) hx hb hts w_1 tyX8 tyX8_ok nmX8 hown hK hP hD hS 0 rfl rfl 9 (by decide) w_0 (fun _ h9 => h9) rfl (by decide +kernel) rfl rfl (Nat.le_of_ble_eq_true rfl) dX8_found_2 (fun H locs hP hD hS => ?_)
  have hP : va_P (dC, dI) vwCl ((W_X cI cZ q_s q_rows q_tape q_land q_spare q_firstImage q_secondImage q_acts q_basket q_asks v1)) H := hP
  have hD : va_D A ((W_X cI cZ q_s q_rows q_tape q_land q_spare q_firstImage q_secondImage q_acts q_basket q_asks v1)) := hD
  refine lv_ldcw hx hb hown w_2 dX8_found_5 ?_
  refine lv_iload_n hx hb dX8_found_8 rfl (lv_at hl 1 rfl) ?_
  refine lv_isub hx hb dX8_found_9 ?_
  have h := Option.some.inj h
  subst h
  rw [hQQ]
  subst hAe
  exact W.iret (v := ((-1000010) - v1)) hx hb hr (fun t ht hW => ⟨⟨_, (), rfl, rfl, by rw [ht]; exact hP, va_K.moved hW.alike hK, hD⟩, hS.F ht⟩) hS.2.2 dX8_found_10
def fX8_unfound (v1 : Int32) : Option (Int32 × Int32) :=
  some (v1, 0)
abbrev rmX8_unfound : Room := { frames := 0, cells := 0, slots := 0, locals := 0 }
theorem ddX8_unfound : yX8_unfound.cls ≠ "java/lang/invoke/MethodHandle" ∧ yX8_unfound.cls ≠ "java/lang/invoke/VarHandle" ∧ (parseMethodDescriptor yX8_unfound.desc).map (fun d => d.parameters.length) = some 1 := by decide +kernel
set_option maxHeartbeats 4000000 in
set_option maxRecDepth 100000 in
theorem m_X8_unfound (l : Launch) (dC : Nat → ClassId) (dI : Nat → Nat → Nat) (cI cZ : ClassId) (q_s q_rows q_tape q_land q_spare q_firstImage q_secondImage q_acts q_basket q_asks : Nat) (s_finding : Int32) (v1 : Int32) (sz : Nat) (res : Int32 × Int32) (hf : fX8_unfound v1 = some res) : Met l yX8_unfound wsX8_unfound rmX8_unfound (mtPc (dC, dI) (tyZ cI cZ) ((W_X cI cZ q_s q_rows q_tape q_land q_spare q_firstImage q_secondImage q_acts q_basket q_asks s_finding)) [.ref q_s, .int v1] sz) (mtQi (dC, dI) (tyZ cI cZ) ((W_X cI cZ q_s q_rows q_tape q_land q_spare q_firstImage q_secondImage q_acts q_basket q_asks s_finding)) ((W_X cI cZ q_s q_rows q_tape q_land q_spare q_firstImage q_secondImage q_acts q_basket q_asks res.2)) res.1 sz) 0 0 (va_A ((W_X cI cZ q_s q_rows q_tape q_land q_spare q_firstImage q_secondImage q_acts q_basket q_asks s_finding)) sz) := by
  refine Met.ofW (cc := cX8_unfound) (maxL := 2) (ret := (some .int)) (by decide) rfl ?_
  intro p e s m args below meth c s₁ B hml hv
  obtain ⟨rfl, hsz, hP, hK, hD0⟩ := hv
  have hx := B.exec
  have hb := B.bytes
  have hr := B.returns
  have hts := atoms_spec (ws := wsX8_unfound) B.pre
  have hown : s.vm.findClass RX8 = some m.cls := findClass_of_methodNamed B.named
  have hlocks := B.notSynchronized
  subst hsz
  have hD := hD0.self (sz := s.heap.size)
  obtain ⟨A, hAe⟩ : ∃ A, A = va_A ((W_X cI cZ q_s q_rows q_tape q_land q_spare q_firstImage q_secondImage q_acts q_basket q_asks s_finding)) s.heap.size := ⟨_, rfl⟩
  rw [← hAe] at hD
  have hA : ∀ q : Nat, s.heap.size ≤ q → A q := fun q h => by rw [hAe]; exact Or.inr h
  have hS : va_S A s.heap s.heap [] := va_S.rf
  have hl := lv_entry ([.ref q_s, .int v1]) (n := 2) (Nat.le_of_ble_eq_true rfl)
  rw [lg_entry_eq]
  generalize (lg_sl ([.ref q_s, .int v1]) ++ List.replicate (2 - (lg_sl ([.ref q_s, .int v1])).length) Slot.unset).toArray = ls at hl ⊢
  have hl : lv_has ls 2 [(0, .ref q_s), (1, .int v1)] := hl
  obtain ⟨QQ, hQQ⟩ : ∃ Q, Q = MQ below (mtQi (dC, dI) (tyZ cI cZ) ((W_X cI cZ q_s q_rows q_tape q_land q_spare q_firstImage q_secondImage q_acts q_basket q_asks s_finding)) ((W_X cI cZ q_s q_rows q_tape q_land q_spare q_firstImage q_secondImage q_acts q_basket q_asks res.2)) res.1 s.heap.size) ([.ref q_s, .int v1] : List Value).toArray s 0 0 (va_A ((W_X cI cZ q_s q_rows q_tape q_land q_spare q_firstImage q_secondImage q_acts q_basket q_asks s_finding)) s.heap.size) := ⟨_, rfl⟩
  rw [← hQQ]
  have w_0 := hts (Cond.fieldLink RX8 60 "TideInches" "finding" "I") (List.mem_of_getElem? (i := 1) rfl)
  have w_1 := (fun w hw => List.mem_cons_of_mem _ (List.mem_append_right _ hw) : ∀ w ∈ wsX80, w ∈ wsX8_unfound)
  have h := hf
  unfold fX8_unfound at h
  refine lv_aload_n hx hb dX8_unfound_0 rfl (lv_at hl 0 rfl) ?_
  refine lv_iconst (v := 0) hx hb dX8_unfound_1 (by decide) ?_
  refine va_put (D := (dC, dI)) (ci := 6) (v := .int 0) (ty := .int) (C := RX8) (T := TX8) (N := 10) hx hb hts w_1 tyX8 tyX8_ok nmX8 hown hK hP hD hS 0 rfl rfl 9 (by decide) w_0 (fun _ h9 => h9) rfl (by decide +kernel) rfl rfl (Nat.le_of_ble_eq_true rfl) dX8_unfound_2 (fun H locs hP hD hS => ?_)
  have hP : va_P (dC, dI) vwCl ((W_X cI cZ q_s q_rows q_tape q_land q_spare q_firstImage q_secondImage q_acts q_basket q_asks 0)) H := hP
  have hD : va_D A ((W_X cI cZ q_s q_rows q_tape q_land q_spare q_firstImage q_secondImage q_acts q_basket q_asks 0)) := hD
  refine lv_iload_n hx hb dX8_unfound_5 rfl (lv_at hl 1 rfl) ?_
  have h := Option.some.inj h
  subst h
  rw [hQQ]
  subst hAe
  exact W.iret (v := v1) hx hb hr (fun t ht hW => ⟨⟨_, (), rfl, rfl, by rw [ht]; exact hP, va_K.moved hW.alike hK, hD⟩, hS.F ht⟩) hS.2.2 dX8_unfound_6
def fX8_row (s_finding : Int32) (rows_lanes : (Nat → Int32)) (rows_lengths : (Nat → Int32)) (rows_items : (Nat → Int32)) (v1 : Int32) (v2 : Int32) (v3 : Int32) : Option (Int32 × Int32 × (Nat → Int32) × (Nat → Int32) × (Nat → Int32)) :=
  bd1 (fX5_isRow v1) (fun r_1 => (if r_1 = 0 then some ((-1000001), s_finding, rows_lanes, rows_lengths, rows_items) else (if v2 < 0 then some ((-1000001), s_finding, rows_lanes, rows_lengths, rows_items) else (if 2 < v2 then some ((-1000001), s_finding, rows_lanes, rows_lengths, rows_items) else (if v3 ≤ 40 then (if 0 ≤ v3 then bd3 (fX5_make rows_lanes rows_lengths rows_items v1 v2 v3) (fun rows_lanes_7 rows_lengths_7 rows_items_7 => bd2 (fX8_unfound v3) (fun r_8 s_finding_8 => some (r_8, s_finding_8, rows_lanes_7, rows_lengths_7, rows_items_7))) else bd2 (fX8_found 4) (fun r_9 s_finding_9 => some (r_9, s_finding_9, rows_lanes, rows_lengths, rows_items))) else some ((-1000001), s_finding, rows_lanes, rows_lengths, rows_items))))))
abbrev rmX8_row : Room := { frames := 1, cells := 0, slots := 0, locals := 24 }
theorem ddX8_row : yX8_row.cls ≠ "java/lang/invoke/MethodHandle" ∧ yX8_row.cls ≠ "java/lang/invoke/VarHandle" ∧ (parseMethodDescriptor yX8_row.desc).map (fun d => d.parameters.length) = some 3 := by decide +kernel
set_option maxHeartbeats 4000000 in
set_option maxRecDepth 100000 in
theorem m_X8_row (l : Launch) (dC : Nat → ClassId) (dI : Nat → Nat → Nat) (cI cZ : ClassId) (q_s q_rows q_tape q_land q_spare q_firstImage q_secondImage q_acts q_basket q_asks q_rows q_rows_lanes q_rows_lengths q_rows_items : Nat) (s_finding : Int32) (rows_lanes : (Nat → Int32)) (rows_lengths : (Nat → Int32)) (rows_items : (Nat → Int32)) (v1 : Int32) (v2 : Int32) (v3 : Int32) (sz : Nat) (res : Int32 × Int32 × (Nat → Int32) × (Nat → Int32) × (Nat → Int32)) (hf : fX8_row s_finding rows_lanes rows_lengths rows_items v1 v2 v3 = some res) : Met l yX8_row wsX8_row rmX8_row (mtPc (dC, dI) (tyZ cI cZ) ((W_X cI cZ q_s q_rows q_tape q_land q_spare q_firstImage q_secondImage q_acts q_basket q_asks s_finding) ++ ((W_Rows cI cZ q_rows q_rows_lanes q_rows_lengths q_rows_items rows_lanes rows_lengths rows_items))) [.ref q_s, .int v1, .int v2, .int v3] sz) (mtQi (dC, dI) (tyZ cI cZ) ((W_X cI cZ q_s q_rows q_tape q_land q_spare q_firstImage q_secondImage q_acts q_basket q_asks s_finding) ++ ((W_Rows cI cZ q_rows q_rows_lanes q_rows_lengths q_rows_items rows_lanes rows_lengths rows_items))) ((W_X cI cZ q_s q_rows q_tape q_land q_spare q_firstImage q_secondImage q_acts q_basket q_asks res.2.1) ++ ((W_Rows cI cZ q_rows q_rows_lanes q_rows_lengths q_rows_items res.2.2.1 res.2.2.2.1 res.2.2.2.2))) res.1 sz) 0 0 (va_A ((W_X cI cZ q_s q_rows q_tape q_land q_spare q_firstImage q_secondImage q_acts q_basket q_asks s_finding) ++ ((W_Rows cI cZ q_rows q_rows_lanes q_rows_lengths q_rows_items rows_lanes rows_lengths rows_items))) sz) := by
  refine Met.ofW (cc := cX8_row) (maxL := 4) (ret := (some .int)) (by decide) rfl ?_
  intro p e s m args below meth c s₁ B hml hv
  obtain ⟨rfl, hsz, hP, hK, hD0⟩ := hv
  have hx := B.exec
  have hb := B.bytes
  have hr := B.returns
  have hts := atoms_spec (ws := wsX8_row) B.pre
  have hown : s.vm.findClass RX8 = some m.cls := findClass_of_methodNamed B.named
  have hlocks := B.notSynchronized
  subst hsz
  have hD := hD0.self (sz := s.heap.size)
  obtain ⟨A, hAe⟩ : ∃ A, A = va_A ((W_X cI cZ q_s q_rows q_tape q_land q_spare q_firstImage q_secondImage q_acts q_basket q_asks s_finding) ++ ((W_Rows cI cZ q_rows q_rows_lanes q_rows_lengths q_rows_items rows_lanes rows_lengths rows_items))) s.heap.size := ⟨_, rfl⟩
  rw [← hAe] at hD
  have hA : ∀ q : Nat, s.heap.size ≤ q → A q := fun q h => by rw [hAe]; exact Or.inr h
  have hS : va_S A s.heap s.heap [] := va_S.rf
  have hl := lv_entry ([.ref q_s, .int v1, .int v2, .int v3]) (n := 4) (Nat.le_of_ble_eq_true rfl)
  rw [lg_entry_eq]
  generalize (lg_sl ([.ref q_s, .int v1, .int v2, .int v3]) ++ List.replicate (4 - (lg_sl ([.ref q_s, .int v1, .int v2, .int v3])).length) Slot.unset).toArray = ls at hl ⊢
  have hl : lv_has ls 4 [(0, .ref q_s), (1, .int v1), (2, .int v2), (3, .int v3)] := hl
  obtain ⟨QQ, hQQ⟩ : ∃ Q, Q = MQ below (mtQi (dC, dI) (tyZ cI cZ) ((W_X cI cZ q_s q_rows q_tape q_land q_spare q_firstImage q_secondImage q_acts q_basket q_asks s_finding) ++ ((W_Rows cI cZ q_rows q_rows_lanes q_rows_lengths q_rows_items rows_lanes rows_lengths rows_items))) ((W_X cI cZ q_s q_rows q_tape q_land q_spare q_firstImage q_secondImage q_acts q_basket q_asks res.2.1) ++ ((W_Rows cI cZ q_rows q_rows_lanes q_rows_lengths q_rows_items res.2.2.1 res.2.2.2.1 res.2.2.2.2))) res.1 s.heap.size) ([.ref q_s, .int v1, .int v2, .int v3] : List Value).toArray s 0 0 (va_A ((W_X cI cZ q_s q_rows q_tape q_land q_spare q_firstImage q_secondImage q_acts q_basket q_asks s_finding) ++ ((W_Rows cI cZ q_rows q_rows_lanes q_rows_lengths q_rows_items rows_lanes rows_lengths rows_items))) s.heap.size) := ⟨_, rfl⟩
  rw [← hQQ]
  have w_0 := hts (Cond.constant RX8 68 (-1000001)) (List.mem_of_getElem? (i := 1) rfl)
  have w_1 := hts (Cond.fieldLink RX8 12 "TideInches" "rows" "LTideInches$Rows;") (List.mem_of_getElem? (i := 2) rfl)
  have w_2 := (fun w hw => List.mem_cons_of_mem _ (List.mem_append_left _ (List.mem_append_right _ hw)) : ∀ w ∈ wsX80, w ∈ wsX8_row)
  have h := hf
  unfold fX8_row at h
  refine lv_iload_n hx hb dX8_row_0 rfl (lv_at hl 1 rfl) ?_
  obtain ⟨r_1, hc_1, h⟩ := bd1_of h
  refine cl_pS (As := [.int v1]) (rest := []) ⟨hx, hb, hml, hown, hts⟩ (m_X5_isRow l v1 (r_1) hc_1) (va_cwS 1 hts gX8_row_X5_isRow rfl rfl rfl ddX5_isRow ⟨Nat.le_of_ble_eq_true rfl, Nat.le_of_ble_eq_true rfl⟩) rfl rfl hl.1 (Nat.le_of_ble_eq_true rfl) ⟨Nat.zero_le _, Nat.zero_le _⟩ dX8_row_1 ?_
  refine lv_if_eq (tgt := 22) hx hb dX8_row_4 (by decide) (fun c_2 => ?_) (fun c_2 => ?_)
  · have h := (if_pos c_2).symm.trans h
    refine lv_ldc hx hb hown w_0 dX8_row_22 ?_
    have h := Option.some.inj h
    subst h
    rw [hQQ]
    subst hAe
    exact W.iret (v := (-1000001)) hx hb hr (fun t ht hW => ⟨⟨_, (), rfl, rfl, by rw [ht]; exact hP, va_K.moved hW.alike hK, hD⟩, hS.F ht⟩) hS.2.2 dX8_row_24
  · have h := (if_neg c_2).symm.trans h
    refine lv_iload_n hx hb dX8_row_7 rfl (lv_at hl 2 rfl) ?_
    refine lv_if_lt (tgt := 22) hx hb dX8_row_8 (by decide) (fun c_3 => ?_) (fun c_3 => ?_)
    · have h := (if_pos c_3).symm.trans h
      refine lv_ldc hx hb hown w_0 dX8_row_22 ?_
      have h := Option.some.inj h
      subst h
      rw [hQQ]
      subst hAe
      exact W.iret (v := (-1000001)) hx hb hr (fun t ht hW => ⟨⟨_, (), rfl, rfl, by rw [ht]; exact hP, va_K.moved hW.alike hK, hD⟩, hS.F ht⟩) hS.2.2 dX8_row_24
    · have h := (if_neg c_3).symm.trans h
      refine lv_iload_n hx hb dX8_row_11 rfl (lv_at hl 2 rfl) ?_
      refine lv_iconst (v := 2) hx hb dX8_row_12 (by decide) ?_
      refine lv_icmp_gt (tgt := 22) hx hb dX8_row_13 (by decide) (fun c_4 => ?_) (fun c_4 => ?_)
      · have h := (if_pos c_4).symm.trans h
        refine lv_ldc hx hb hown w_0 dX8_row_22 ?_
        have h := Option.some.inj h
        subst h
        rw [hQQ]
        subst hAe
        exact W.iret (v := (-1000001)) hx hb hr (fun t ht hW => ⟨⟨_, (), rfl, rfl, by rw [ht]; exact hP, va_K.moved hW.alike hK, hD⟩, hS.F ht⟩) hS.2.2 dX8_row_24
      · have h := (if_neg c_4).symm.trans h
        refine lv_iload_n hx hb dX8_row_16 rfl (lv_at hl 3 rfl) ?_
        refine lv_bipush (v := 40) hx hb dX8_row_17 (by decide) ?_
        refine lv_icmp_le (tgt := 25) hx hb dX8_row_19 (by decide) (fun c_5 => ?_) (fun c_5 => ?_)
        · have h := (if_pos c_5).symm.trans h
          refine lv_iload_n hx hb dX8_row_25 rfl (lv_at hl 3 rfl) ?_
          refine lv_if_ge (tgt := 35) hx hb dX8_row_26 (by decide) (fun c_6 => ?_) (fun c_6 => ?_)
          · have h := (if_pos c_6).symm.trans h
            refine lv_aload_n hx hb dX8_row_35 rfl (lv_at hl 0 rfl) ?_
            refine va_get (D := (dC, dI)) (ci := 6) (v := .ref q_rows) (C := RX8) (T := TX8) (N := 10) hx hb hts w_2 hown hK hP 0 rfl rfl 0 (by decide) w_1 (fun _ h9 => h9) rfl dX8_row_36 ?_
            refine lv_iload_n hx hb dX8_row_39 rfl (lv_at hl 1 rfl) ?_
            refine lv_iload_n hx hb dX8_row_40 rfl (lv_at hl 2 rfl) ?_
            refine lv_iload_n hx hb dX8_row_41 rfl (lv_at hl 3 rfl) ?_
            obtain ⟨rows_lanes_7, rows_lengths_7, rows_items_7, hc_7, h⟩ := bd3_of h
            refine cl_mVv (As := [.int v1, .int v2, .int v3]) (rest := []) (ws' := (W_X cI cZ q_s q_rows q_tape q_land q_spare q_firstImage q_secondImage q_acts q_basket q_asks s_finding) ++ ((W_Rows cI cZ q_rows q_rows_lanes q_rows_lengths q_rows_items rows_lanes_7 rows_lengths_7 rows_items_7))) (wr := (W_X cI cZ q_s q_rows q_tape q_land q_spare q_firstImage q_secondImage q_acts q_basket q_asks s_finding)) ⟨hx, hb, hml, hown, hts⟩ (m_X5_make l dC dI cI cZ q_rows q_rows_lanes q_rows_lengths q_rows_items rows_lanes rows_lengths rows_items v1 v2 v3 _ (rows_lanes_7, rows_lengths_7, rows_items_7) hc_7) (cwV 3 hts gX8_row_X5_make rfl rfl rfl ⟨rfl, ddX5_make⟩ ⟨Nat.le_of_ble_eq_true rfl, Nat.le_of_ble_eq_true rfl⟩) hK hP hD hS hA [1, 2, 3, 4] [0] rfl rfl rfl rfl (by decide) [0, 1, 2, 3, 4] rfl rfl rfl rfl rfl rfl rfl hl.1 (Nat.le_of_ble_eq_true rfl) ⟨Nat.zero_le _, Nat.zero_le _⟩ dX8_row_42 (fun H locs hP hD hS => ?_)
            refine lv_aload_n hx hb dX8_row_45 rfl (lv_at hl 0 rfl) ?_
            refine lv_iload_n hx hb dX8_row_46 rfl (lv_at hl 3 rfl) ?_
            obtain ⟨r_8, s_finding_8, hc_8, h⟩ := bd2_of h
            refine cl_mVi (As := [.int v3]) (rest := []) (ws' := (W_X cI cZ q_s q_rows q_tape q_land q_spare q_firstImage q_secondImage q_acts q_basket q_asks s_finding_8) ++ ((W_Rows cI cZ q_rows q_rows_lanes q_rows_lengths q_rows_items rows_lanes_7 rows_lengths_7 rows_items_7))) (wr := (W_Rows cI cZ q_rows q_rows_lanes q_rows_lengths q_rows_items rows_lanes_7 rows_lengths_7 rows_items_7)) ⟨hx, hb, hml, hown, hts⟩ (m_X8_unfound l dC dI cI cZ q_s q_rows q_tape q_land q_spare q_firstImage q_secondImage q_acts q_basket q_asks s_finding v3 _ (r_8, s_finding_8) hc_8) (cwV 1 hts gX8_row_X8_unfound rfl rfl rfl ⟨rfl, ddX8_unfound⟩ ⟨Nat.le_of_ble_eq_true rfl, Nat.le_of_ble_eq_true rfl⟩) hK hP hD hS hA [0] [1, 2, 3, 4] rfl rfl rfl rfl (by decide) [4, 0, 1, 2, 3] rfl rfl rfl rfl rfl rfl rfl hl.1 (Nat.le_of_ble_eq_true rfl) ⟨Nat.zero_le _, Nat.zero_le _⟩ dX8_row_47 (fun H locs hP hD hS => ?_)
            have h := Option.some.inj h
            subst h
            rw [hQQ]
            subst hAe
            exact W.iret (v := r_8) hx hb hr (fun t ht hW => ⟨⟨_, (), rfl, rfl, by rw [ht]; exact hP, va_K.moved hW.alike hK, hD⟩, hS.F ht⟩) hS.2.2 dX8_row_50
          · have h := (if_neg c_6).symm.trans h
            refine lv_aload_n hx hb dX8_row_29 rfl (lv_at hl 0 rfl) ?_
            refine lv_iconst (v := 4) hx hb dX8_row_30 (by decide) ?_
            obtain ⟨r_9, s_finding_9, hc_9, h⟩ := bd2_of h
            refine cl_mVi (As := [.int 4]) (rest := []) (ws' := (W_X cI cZ q_s q_rows q_tape q_land q_spare q_firstImage q_secondImage q_acts q_basket q_asks s_finding_9) ++ ((W_Rows cI cZ q_rows q_rows_lanes q_rows_lengths q_rows_items rows_lanes rows_lengths rows_items))) (wr := (W_Rows cI cZ q_rows q_rows_lanes q_rows_lengths q_rows_items rows_lanes rows_lengths rows_items)) ⟨hx, hb, hml, hown, hts⟩ (m_X8_found l dC dI cI cZ q_s q_rows q_tape q_land q_spare q_firstImage q_secondImage q_acts q_basket q_asks s_finding 4 _ (r_9, s_finding_9) hc_9) (cwV 1 hts gX8_row_X8_found rfl rfl rfl ⟨rfl, ddX8_found⟩ ⟨Nat.le_of_ble_eq_true rfl, Nat.le_of_ble_eq_true rfl⟩) hK hP hD hS hA [0] [1, 2, 3, 4] rfl rfl rfl rfl (by decide) [4, 0, 1, 2, 3] rfl rfl rfl rfl rfl rfl rfl hl.1 (Nat.le_of_ble_eq_true rfl) ⟨Nat.zero_le _, Nat.zero_le _⟩ dX8_row_31 (fun H locs hP hD hS => ?_)
            have h := Option.some.inj h
            subst h
            rw [hQQ]
            subst hAe
            exact W.iret (v := r_9) hx hb hr (fun t ht hW => ⟨⟨_, (), rfl, rfl, by rw [ht]; exact hP, va_K.moved hW.alike hK, hD⟩, hS.F ht⟩) hS.2.2 dX8_row_34
        · have h := (if_neg c_5).symm.trans h
          refine lv_ldc hx hb hown w_0 dX8_row_22 ?_
          have h := Option.some.inj h
          subst h
          rw [hQQ]
          subst hAe
          exact W.iret (v := (-1000001)) hx hb hr (fun t ht hW => ⟨⟨_, (), rfl, rfl, by rw [ht]; exact hP, va_K.moved hW.alike hK, hD⟩, hS.F ht⟩) hS.2.2 dX8_row_24
def fX8_set (s_finding : Int32) (rows_lanes : (Nat → Int32)) (rows_lengths : (Nat → Int32)) (rows_items : (Nat → Int32)) (v1 : Int32) (v2 : Int32) (v3 : Int32) : Option (Int32 × Int32 × (Nat → Int32)) :=
  bd1 (fX5_isRow v1) (fun r_1 => (if r_1 = 0 then some ((-1000001), s_finding, rows_items) else bd1 (fX5_isMissing rows_lanes v1) (fun r_3 => (if r_3 = 0 then bd1 (fX5_hasPlaces rows_lengths v1 v2 1) (fun r_5 => (if r_5 = 0 then bd2 (fX8_found 2) (fun r_9 s_finding_9 => some (r_9, s_finding_9, rows_items)) else bd2 (fX5_put rows_lanes rows_items v1 v2 v3) (fun r_7 rows_items_7 => bd2 (fX8_unfound r_7) (fun r_8 s_finding_8 => some (r_8, s_finding_8, rows_items_7))))) else bd2 (fX8_found 1) (fun r_10 s_finding_10 => some (r_10, s_finding_10, rows_items))))))
abbrev rmX8_set : Room := { frames := 1, cells := 0, slots := 0, locals := 24 }
theorem ddX8_set : yX8_set.cls ≠ "java/lang/invoke/MethodHandle" ∧ yX8_set.cls ≠ "java/lang/invoke/VarHandle" ∧ (parseMethodDescriptor yX8_set.desc).map (fun d => d.parameters.length) = some 3 := by decide +kernel
set_option maxHeartbeats 4000000 in
set_option maxRecDepth 100000 in
theorem m_X8_set (l : Launch) (dC : Nat → ClassId) (dI : Nat → Nat → Nat) (cI cZ : ClassId) (q_s q_rows q_tape q_land q_spare q_firstImage q_secondImage q_acts q_basket q_asks q_rows q_rows_lanes q_rows_lengths q_rows_items : Nat) (s_finding : Int32) (rows_lanes : (Nat → Int32)) (rows_lengths : (Nat → Int32)) (rows_items : (Nat → Int32)) (v1 : Int32) (v2 : Int32) (v3 : Int32) (sz : Nat) (res : Int32 × Int32 × (Nat → Int32)) (hf : fX8_set s_finding rows_lanes rows_lengths rows_items v1 v2 v3 = some res) : Met l yX8_set wsX8_set rmX8_set (mtPc (dC, dI) (tyZ cI cZ) ((W_X cI cZ q_s q_rows q_tape q_land q_spare q_firstImage q_secondImage q_acts q_basket q_asks s_finding) ++ ((W_Rows cI cZ q_rows q_rows_lanes q_rows_lengths q_rows_items rows_lanes rows_lengths rows_items))) [.ref q_s, .int v1, .int v2, .int v3] sz) (mtQi (dC, dI) (tyZ cI cZ) ((W_X cI cZ q_s q_rows q_tape q_land q_spare q_firstImage q_secondImage q_acts q_basket q_asks s_finding) ++ ((W_Rows cI cZ q_rows q_rows_lanes q_rows_lengths q_rows_items rows_lanes rows_lengths rows_items))) ((W_X cI cZ q_s q_rows q_tape q_land q_spare q_firstImage q_secondImage q_acts q_basket q_asks res.2.1) ++ ((W_Rows cI cZ q_rows q_rows_lanes q_rows_lengths q_rows_items rows_lanes rows_lengths res.2.2))) res.1 sz) 0 0 (va_A ((W_X cI cZ q_s q_rows q_tape q_land q_spare q_firstImage q_secondImage q_acts q_basket q_asks s_finding) ++ ((W_Rows cI cZ q_rows q_rows_lanes q_rows_lengths q_rows_items rows_lanes rows_lengths rows_items))) sz) := by
  refine Met.ofW (cc := cX8_set) (maxL := 4) (ret := (some .int)) (by decide) rfl ?_
  intro p e s m args below meth c s₁ B hml hv
  obtain ⟨rfl, hsz, hP, hK, hD0⟩ := hv
  have hx := B.exec
  have hb := B.bytes
  have hr := B.returns
  have hts := atoms_spec (ws := wsX8_set) B.pre
  have hown : s.vm.findClass RX8 = some m.cls := findClass_of_methodNamed B.named
  have hlocks := B.notSynchronized
  subst hsz
  have hD := hD0.self (sz := s.heap.size)
  obtain ⟨A, hAe⟩ : ∃ A, A = va_A ((W_X cI cZ q_s q_rows q_tape q_land q_spare q_firstImage q_secondImage q_acts q_basket q_asks s_finding) ++ ((W_Rows cI cZ q_rows q_rows_lanes q_rows_lengths q_rows_items rows_lanes rows_lengths rows_items))) s.heap.size := ⟨_, rfl⟩
  rw [← hAe] at hD
  have hA : ∀ q : Nat, s.heap.size ≤ q → A q := fun q h => by rw [hAe]; exact Or.inr h
  have hS : va_S A s.heap s.heap [] := va_S.rf
  have hl := lv_entry ([.ref q_s, .int v1, .int v2, .int v3]) (n := 4) (Nat.le_of_ble_eq_true rfl)
  rw [lg_entry_eq]
  generalize (lg_sl ([.ref q_s, .int v1, .int v2, .int v3]) ++ List.replicate (4 - (lg_sl ([.ref q_s, .int v1, .int v2, .int v3])).length) Slot.unset).toArray = ls at hl ⊢
  have hl : lv_has ls 4 [(0, .ref q_s), (1, .int v1), (2, .int v2), (3, .int v3)] := hl
  obtain ⟨QQ, hQQ⟩ : ∃ Q, Q = MQ below (mtQi (dC, dI) (tyZ cI cZ) ((W_X cI cZ q_s q_rows q_tape q_land q_spare q_firstImage q_secondImage q_acts q_basket q_asks s_finding) ++ ((W_Rows cI cZ q_rows q_rows_lanes q_rows_lengths q_rows_items rows_lanes rows_lengths rows_items))) ((W_X cI cZ q_s q_rows q_tape q_land q_spare q_firstImage q_secondImage q_acts q_basket q_asks res.2.1) ++ ((W_Rows cI cZ q_rows q_rows_lanes q_rows_lengths q_rows_items rows_lanes rows_lengths res.2.2))) res.1 s.heap.size) ([.ref q_s, .int v1, .int v2, .int v3] : List Value).toArray s 0 0 (va_A ((W_X cI cZ q_s q_rows q_tape q_land q_spare q_firstImage q_secondImage q_acts q_basket q_asks s_finding) ++ ((W_Rows cI cZ q_rows q_rows_lanes q_rows_lengths q_rows_items rows_lanes rows_lengths rows_items))) s.heap.size) := ⟨_, rfl⟩
  rw [← hQQ]
  have w_0 := hts (Cond.fieldLink RX8 12 "TideInches" "rows" "LTideInches$Rows;") (List.mem_of_getElem? (i := 2) rfl)
  have w_1 := (fun w hw => List.mem_cons_of_mem _ (List.mem_append_left _ (List.mem_append_right _ hw)) : ∀ w ∈ wsX80, w ∈ wsX8_set)
  have w_2 := hts (Cond.constant RX8 68 (-1000001)) (List.mem_of_getElem? (i := 1) rfl)
  have h := hf
  unfold fX8_set at h
  refine lv_iload_n hx hb dX8_set_0 rfl (lv_at hl 1 rfl) ?_
  obtain ⟨r_1, hc_1, h⟩ := bd1_of h
  refine cl_pS (As := [.int v1]) (rest := []) ⟨hx, hb, hml, hown, hts⟩ (m_X5_isRow l v1 (r_1) hc_1) (va_cwS 1 hts gX8_set_X5_isRow rfl rfl rfl ddX5_isRow ⟨Nat.le_of_ble_eq_true rfl, Nat.le_of_ble_eq_true rfl⟩) rfl rfl hl.1 (Nat.le_of_ble_eq_true rfl) ⟨Nat.zero_le _, Nat.zero_le _⟩ dX8_set_1 ?_
  refine lv_if_ne (tgt := 10) hx hb dX8_set_4 (by decide) (fun c_2 => ?_) (fun c_2 => ?_)
  · have h := (if_neg c_2).symm.trans h
    refine lv_aload_n hx hb dX8_set_10 rfl (lv_at hl 0 rfl) ?_
    refine va_get (D := (dC, dI)) (ci := 6) (v := .ref q_rows) (C := RX8) (T := TX8) (N := 10) hx hb hts w_1 hown hK hP 0 rfl rfl 0 (by decide) w_0 (fun _ h9 => h9) rfl dX8_set_11 ?_
    refine lv_iload_n hx hb dX8_set_14 rfl (lv_at hl 1 rfl) ?_
    obtain ⟨r_3, hc_3, h⟩ := bd1_of h
    refine cl_rV (As := [.int v1]) (rest := []) ⟨hx, hb, hml, hown, hts⟩ (m_X5_isMissing l dC dI cI cZ q_rows q_rows_lanes q_rows_lengths q_rows_items rows_lanes rows_lengths rows_items v1 (r_3) hc_3) (cwV 1 hts gX8_set_X5_isMissing rfl rfl rfl ⟨rfl, ddX5_isMissing⟩ ⟨Nat.le_of_ble_eq_true rfl, Nat.le_of_ble_eq_true rfl⟩) hK hP [1, 2, 3, 4] rfl rfl rfl rfl rfl hl.1 (Nat.le_of_ble_eq_true rfl) ⟨Nat.zero_le _, Nat.zero_le _⟩ dX8_set_15 ?_
    refine lv_if_eq (tgt := 27) hx hb dX8_set_18 (by decide) (fun c_4 => ?_) (fun c_4 => ?_)
    · have h := (if_pos c_4).symm.trans h
      refine lv_aload_n hx hb dX8_set_27 rfl (lv_at hl 0 rfl) ?_
      refine va_get (D := (dC, dI)) (ci := 6) (v := .ref q_rows) (C := RX8) (T := TX8) (N := 10) hx hb hts w_1 hown hK hP 0 rfl rfl 0 (by decide) w_0 (fun _ h9 => h9) rfl dX8_set_28 ?_
      refine lv_iload_n hx hb dX8_set_31 rfl (lv_at hl 1 rfl) ?_
      refine lv_iload_n hx hb dX8_set_32 rfl (lv_at hl 2 rfl) ?_
      refine lv_iconst (v := 1) hx hb dX8_set_33 (by decide) ?_
      obtain ⟨r_5, hc_5, h⟩ := bd1_of h
      refine cl_rV (As := [.int v1, .int v2, .int 1]) (rest := []) ⟨hx, hb, hml, hown, hts⟩ (m_X5_hasPlaces l dC dI cI cZ q_rows q_rows_lanes q_rows_lengths q_rows_items rows_lanes rows_lengths rows_items v1 v2 1 (r_5) hc_5) (cwV 3 hts gX8_set_X5_hasPlaces rfl rfl rfl ⟨rfl, ddX5_hasPlaces⟩ ⟨Nat.le_of_ble_eq_true rfl, Nat.le_of_ble_eq_true rfl⟩) hK hP [1, 2, 3, 4] rfl rfl rfl rfl rfl hl.1 (Nat.le_of_ble_eq_true rfl) ⟨Nat.zero_le _, Nat.zero_le _⟩ dX8_set_34 ?_
      refine lv_if_ne (tgt := 46) hx hb dX8_set_37 (by decide) (fun c_6 => ?_) (fun c_6 => ?_)
      · have h := (if_neg c_6).symm.trans h
        refine lv_aload_n hx hb dX8_set_46 rfl (lv_at hl 0 rfl) ?_
        refine lv_aload_n hx hb dX8_set_47 rfl (lv_at hl 0 rfl) ?_
        refine va_get (D := (dC, dI)) (ci := 6) (v := .ref q_rows) (C := RX8) (T := TX8) (N := 10) hx hb hts w_1 hown hK hP 0 rfl rfl 0 (by decide) w_0 (fun _ h9 => h9) rfl dX8_set_48 ?_
        refine lv_iload_n hx hb dX8_set_51 rfl (lv_at hl 1 rfl) ?_
        refine lv_iload_n hx hb dX8_set_52 rfl (lv_at hl 2 rfl) ?_
        refine lv_iload_n hx hb dX8_set_53 rfl (lv_at hl 3 rfl) ?_
        obtain ⟨r_7, rows_items_7, hc_7, h⟩ := bd2_of h
        refine cl_mVi (As := [.int v1, .int v2, .int v3]) (rest := [.ref q_s]) (ws' := (W_X cI cZ q_s q_rows q_tape q_land q_spare q_firstImage q_secondImage q_acts q_basket q_asks s_finding) ++ ((W_Rows cI cZ q_rows q_rows_lanes q_rows_lengths q_rows_items rows_lanes rows_lengths rows_items_7))) (wr := (W_X cI cZ q_s q_rows q_tape q_land q_spare q_firstImage q_secondImage q_acts q_basket q_asks s_finding)) ⟨hx, hb, hml, hown, hts⟩ (m_X5_put l dC dI cI cZ q_rows q_rows_lanes q_rows_lengths q_rows_items rows_lanes rows_lengths rows_items v1 v2 v3 _ (r_7, rows_items_7) hc_7) (cwV 3 hts gX8_set_X5_put rfl rfl rfl ⟨rfl, ddX5_put⟩ ⟨Nat.le_of_ble_eq_true rfl, Nat.le_of_ble_eq_true rfl⟩) hK hP hD hS hA [1, 2, 3, 4] [0] rfl rfl rfl rfl (by decide) [0, 1, 2, 3, 4] rfl rfl rfl rfl rfl rfl rfl hl.1 (Nat.le_of_ble_eq_true rfl) ⟨Nat.zero_le _, Nat.zero_le _⟩ dX8_set_54 (fun H locs hP hD hS => ?_)
        obtain ⟨r_8, s_finding_8, hc_8, h⟩ := bd2_of h
        refine cl_mVi (As := [.int r_7]) (rest := []) (ws' := (W_X cI cZ q_s q_rows q_tape q_land q_spare q_firstImage q_secondImage q_acts q_basket q_asks s_finding_8) ++ ((W_Rows cI cZ q_rows q_rows_lanes q_rows_lengths q_rows_items rows_lanes rows_lengths rows_items_7))) (wr := (W_Rows cI cZ q_rows q_rows_lanes q_rows_lengths q_rows_items rows_lanes rows_lengths rows_items_7)) ⟨hx, hb, hml, hown, hts⟩ (m_X8_unfound l dC dI cI cZ q_s q_rows q_tape q_land q_spare q_firstImage q_secondImage q_acts q_basket q_asks s_finding r_7 _ (r_8, s_finding_8) hc_8) (cwV 1 hts gX8_set_X8_unfound rfl rfl rfl ⟨rfl, ddX8_unfound⟩ ⟨Nat.le_of_ble_eq_true rfl, Nat.le_of_ble_eq_true rfl⟩) hK hP hD hS hA [0] [1, 2, 3, 4] rfl rfl rfl rfl (by decide) [4, 0, 1, 2, 3] rfl rfl rfl rfl rfl rfl rfl hl.1 (Nat.le_of_ble_eq_true rfl) ⟨Nat.zero_le _, Nat.zero_le _⟩ dX8_set_57 (fun H locs hP hD hS => ?_)
        have h := Option.some.inj h
        subst h
        rw [hQQ]
        subst hAe
        exact W.iret (v := r_8) hx hb hr (fun t ht hW => ⟨⟨_, (), rfl, rfl, by rw [ht]; exact hP, va_K.moved hW.alike hK, hD⟩, hS.F ht⟩) hS.2.2 dX8_set_60
      · have h := (if_pos c_6).symm.trans h
        refine lv_aload_n hx hb dX8_set_40 rfl (lv_at hl 0 rfl) ?_
        refine lv_iconst (v := 2) hx hb dX8_set_41 (by decide) ?_
        obtain ⟨r_9, s_finding_9, hc_9, h⟩ := bd2_of h
        refine cl_mVi (As := [.int 2]) (rest := []) (ws' := (W_X cI cZ q_s q_rows q_tape q_land q_spare q_firstImage q_secondImage q_acts q_basket q_asks s_finding_9) ++ ((W_Rows cI cZ q_rows q_rows_lanes q_rows_lengths q_rows_items rows_lanes rows_lengths rows_items))) (wr := (W_Rows cI cZ q_rows q_rows_lanes q_rows_lengths q_rows_items rows_lanes rows_lengths rows_items)) ⟨hx, hb, hml, hown, hts⟩ (m_X8_found l dC dI cI cZ q_s q_rows q_tape q_land q_spare q_firstImage q_secondImage q_acts q_basket q_asks s_finding 2 _ (r_9, s_finding_9) hc_9) (cwV 1 hts gX8_set_X8_found rfl rfl rfl ⟨rfl, ddX8_found⟩ ⟨Nat.le_of_ble_eq_true rfl, Nat.le_of_ble_eq_true rfl⟩) hK hP hD hS hA [0] [1, 2, 3, 4] rfl rfl rfl rfl (by decide) [4, 0, 1, 2, 3] rfl rfl rfl rfl rfl rfl rfl hl.1 (Nat.le_of_ble_eq_true rfl) ⟨Nat.zero_le _, Nat.zero_le _⟩ dX8_set_42 (fun H locs hP hD hS => ?_)
        have h := Option.some.inj h
        subst h
        rw [hQQ]
        subst hAe
        exact W.iret (v := r_9) hx hb hr (fun t ht hW => ⟨⟨_, (), rfl, rfl, by rw [ht]; exact hP, va_K.moved hW.alike hK, hD⟩, hS.F ht⟩) hS.2.2 dX8_set_45
    · have h := (if_neg c_4).symm.trans h
      refine lv_aload_n hx hb dX8_set_21 rfl (lv_at hl 0 rfl) ?_
      refine lv_iconst (v := 1) hx hb dX8_set_22 (by decide) ?_
      obtain ⟨r_10, s_finding_10, hc_10, h⟩ := bd2_of h
      refine cl_mVi (As := [.int 1]) (rest := []) (ws' := (W_X cI cZ q_s q_rows q_tape q_land q_spare q_firstImage q_secondImage q_acts q_basket q_asks s_finding_10) ++ ((W_Rows cI cZ q_rows q_rows_lanes q_rows_lengths q_rows_items rows_lanes rows_lengths rows_items))) (wr := (W_Rows cI cZ q_rows q_rows_lanes q_rows_lengths q_rows_items rows_lanes rows_lengths rows_items)) ⟨hx, hb, hml, hown, hts⟩ (m_X8_found l dC dI cI cZ q_s q_rows q_tape q_land q_spare q_firstImage q_secondImage q_acts q_basket q_asks s_finding 1 _ (r_10, s_finding_10) hc_10) (cwV 1 hts gX8_set_X8_found rfl rfl rfl ⟨rfl, ddX8_found⟩ ⟨Nat.le_of_ble_eq_true rfl, Nat.le_of_ble_eq_true rfl⟩) hK hP hD hS hA [0] [1, 2, 3, 4] rfl rfl rfl rfl (by decide) [4, 0, 1, 2, 3] rfl rfl rfl rfl rfl rfl rfl hl.1 (Nat.le_of_ble_eq_true rfl) ⟨Nat.zero_le _, Nat.zero_le _⟩ dX8_set_23 (fun H locs hP hD hS => ?_)
      have h := Option.some.inj h
      subst h
      rw [hQQ]
      subst hAe
      exact W.iret (v := r_10) hx hb hr (fun t ht hW => ⟨⟨_, (), rfl, rfl, by rw [ht]; exact hP, va_K.moved hW.alike hK, hD⟩, hS.F ht⟩) hS.2.2 dX8_set_26
  · have h := (if_pos c_2).symm.trans h
    refine lv_ldc hx hb hown w_2 dX8_set_7 ?_
    have h := Option.some.inj h
    subst h
    rw [hQQ]
    subst hAe
    exact W.iret (v := (-1000001)) hx hb hr (fun t ht hW => ⟨⟨_, (), rfl, rfl, by rw [ht]; exact hP, va_K.moved hW.alike hK, hD⟩, hS.F ht⟩) hS.2.2 dX8_set_9
def fX8_copy (s_finding : Int32) (rows_lanes : (Nat → Int32)) (rows_lengths : (Nat → Int32)) (rows_items : (Nat → Int32)) (v1 : Int32) (v2 : Int32) (v3 : Int32) (v4 : Int32) (v5 : Int32) : Option (Int32 × Int32 × (Nat → Int32)) :=
  bd1 (fX5_isRow v1) (fun r_1 => (if r_1 = 0 then some ((-1000001), s_finding, rows_items) else bd1 (fX5_isRow v3) (fun r_3 => (if r_3 = 0 then some ((-1000001), s_finding, rows_items) else bd1 (fX5_isMissing rows_lanes v1) (fun r_5 => (if r_5 = 0 then bd1 (fX5_isMissing rows_lanes v3) (fun r_8 => (if r_8 = 0 then bd1 (fX5_lane rows_lanes v1) (fun r_10 => bd1 (fX5_lane rows_lanes v3) (fun r_11 => (if r_10 = r_11 then bd1 (fX5_hasPlaces rows_lengths v1 v2 v5) (fun r_13 => (if r_13 = 0 then bd2 (fX8_found 2) (fun r_15 s_finding_15 => some (r_15, s_finding_15, rows_items)) else bd1 (fX5_hasPlaces rows_lengths v3 v4 v5) (fun r_16 => (if r_16 = 0 then bd2 (fX8_found 2) (fun r_20 s_finding_20 => some (r_20, s_finding_20, rows_items)) else bd1 (fX5_move rows_items v1 v2 v3 v4 v5) (fun rows_items_18 => bd2 (fX8_unfound v5) (fun r_19 s_finding_19 => some (r_19, s_finding_19, rows_items_18))))))) else bd2 (fX8_found 5) (fun r_21 s_finding_21 => some (r_21, s_finding_21, rows_items))))) else bd2 (fX8_found 1) (fun r_22 s_finding_22 => some (r_22, s_finding_22, rows_items)))) else bd2 (fX8_found 1) (fun r_7 s_finding_7 => some (r_7, s_finding_7, rows_items))))))))
abbrev rmX8_copy : Room := { frames := 2, cells := 0, slots := 0, locals := 65 }
theorem ddX8_copy : yX8_copy.cls ≠ "java/lang/invoke/MethodHandle" ∧ yX8_copy.cls ≠ "java/lang/invoke/VarHandle" ∧ (parseMethodDescriptor yX8_copy.desc).map (fun d => d.parameters.length) = some 5 := by decide +kernel
set_option maxHeartbeats 4000000 in
set_option maxRecDepth 100000 in
theorem m_X8_copy (l : Launch) (dC : Nat → ClassId) (dI : Nat → Nat → Nat) (cI cZ : ClassId) (q_s q_rows q_tape q_land q_spare q_firstImage q_secondImage q_acts q_basket q_asks q_rows q_rows_lanes q_rows_lengths q_rows_items : Nat) (s_finding : Int32) (rows_lanes : (Nat → Int32)) (rows_lengths : (Nat → Int32)) (rows_items : (Nat → Int32)) (v1 : Int32) (v2 : Int32) (v3 : Int32) (v4 : Int32) (v5 : Int32) (sz : Nat) (res : Int32 × Int32 × (Nat → Int32)) (hf : fX8_copy s_finding rows_lanes rows_lengths rows_items v1 v2 v3 v4 v5 = some res) : Met l yX8_copy wsX8_copy rmX8_copy (mtPc (dC, dI) (tyZ cI cZ) ((W_X cI cZ q_s q_rows q_tape q_land q_spare q_firstImage q_secondImage q_acts q_basket q_asks s_finding) ++ ((W_Rows cI cZ q_rows q_rows_lanes q_rows_lengths q_rows_items rows_lanes rows_lengths rows_items))) [.ref q_s, .int v1, .int v2, .int v3, .int v4, .int v5] sz) (mtQi (dC, dI) (tyZ cI cZ) ((W_X cI cZ q_s q_rows q_tape q_land q_spare q_firstImage q_secondImage q_acts q_basket q_asks s_finding) ++ ((W_Rows cI cZ q_rows q_rows_lanes q_rows_lengths q_rows_items rows_lanes rows_lengths rows_items))) ((W_X cI cZ q_s q_rows q_tape q_land q_spare q_firstImage q_secondImage q_acts q_basket q_asks res.2.1) ++ ((W_Rows cI cZ q_rows q_rows_lanes q_rows_lengths q_rows_items rows_lanes rows_lengths res.2.2))) res.1 sz) 0 0 (va_A ((W_X cI cZ q_s q_rows q_tape q_land q_spare q_firstImage q_secondImage q_acts q_basket q_asks s_finding) ++ ((W_Rows cI cZ q_rows q_rows_lanes q_rows_lengths q_rows_items rows_lanes rows_lengths rows_items))) sz) := by
  refine Met.ofW (cc := cX8_copy) (maxL := 6) (ret := (some .int)) (by decide) rfl ?_
  intro p e s m args below meth c s₁ B hml hv
  obtain ⟨rfl, hsz, hP, hK, hD0⟩ := hv
  have hx := B.exec
  have hb := B.bytes
  have hr := B.returns
  have hts := atoms_spec (ws := wsX8_copy) B.pre
  have hown : s.vm.findClass RX8 = some m.cls := findClass_of_methodNamed B.named
  have hlocks := B.notSynchronized
  subst hsz
  have hD := hD0.self (sz := s.heap.size)
  obtain ⟨A, hAe⟩ : ∃ A, A = va_A ((W_X cI cZ q_s q_rows q_tape q_land q_spare q_firstImage q_secondImage q_acts q_basket q_asks s_finding) ++ ((W_Rows cI cZ q_rows q_rows_lanes q_rows_lengths q_rows_items rows_lanes rows_lengths rows_items))) s.heap.size := ⟨_, rfl⟩
  rw [← hAe] at hD
  have hA : ∀ q : Nat, s.heap.size ≤ q → A q := fun q h => by rw [hAe]; exact Or.inr h
  have hS : va_S A s.heap s.heap [] := va_S.rf
  have hl := lv_entry ([.ref q_s, .int v1, .int v2, .int v3, .int v4, .int v5]) (n := 6) (Nat.le_of_ble_eq_true rfl)
  rw [lg_entry_eq]
  generalize (lg_sl ([.ref q_s, .int v1, .int v2, .int v3, .int v4, .int v5]) ++ List.replicate (6 - (lg_sl ([.ref q_s, .int v1, .int v2, .int v3, .int v4, .int v5])).length) Slot.unset).toArray = ls at hl ⊢
  have hl : lv_has ls 6 [(0, .ref q_s), (1, .int v1), (2, .int v2), (3, .int v3), (4, .int v4), (5, .int v5)] := hl
  obtain ⟨QQ, hQQ⟩ : ∃ Q, Q = MQ below (mtQi (dC, dI) (tyZ cI cZ) ((W_X cI cZ q_s q_rows q_tape q_land q_spare q_firstImage q_secondImage q_acts q_basket q_asks s_finding) ++ ((W_Rows cI cZ q_rows q_rows_lanes q_rows_lengths q_rows_items rows_lanes rows_lengths rows_items))) ((W_X cI cZ q_s q_rows q_tape q_land q_spare q_firstImage q_secondImage q_acts q_basket q_asks res.2.1) ++ ((W_Rows cI cZ q_rows q_rows_lanes q_rows_lengths q_rows_items rows_lanes rows_lengths res.2.2))) res.1 s.heap.size) ([.ref q_s, .int v1, .int v2, .int v3, .int v4, .int v5] : List Value).toArray s 0 0 (va_A ((W_X cI cZ q_s q_rows q_tape q_land q_spare q_firstImage q_secondImage q_acts q_basket q_asks s_finding) ++ ((W_Rows cI cZ q_rows q_rows_lanes q_rows_lengths q_rows_items rows_lanes rows_lengths rows_items))) s.heap.size) := ⟨_, rfl⟩
  rw [← hQQ]
  have w_0 := hts (Cond.constant RX8 68 (-1000001)) (List.mem_of_getElem? (i := 1) rfl)
  have w_1 := hts (Cond.fieldLink RX8 12 "TideInches" "rows" "LTideInches$Rows;") (List.mem_of_getElem? (i := 2) rfl)
  have w_2 := (fun w hw => List.mem_cons_of_mem _ (List.mem_append_left _ (List.mem_append_right _ hw)) : ∀ w ∈ wsX80, w ∈ wsX8_copy)
  have h := hf
  unfold fX8_copy at h
  refine lv_iload_n hx hb dX8_copy_0 rfl (lv_at hl 1 rfl) ?_
  obtain ⟨r_1, hc_1, h⟩ := bd1_of h
  refine cl_pS (As := [.int v1]) (rest := []) ⟨hx, hb, hml, hown, hts⟩ (m_X5_isRow l v1 (r_1) hc_1) (va_cwS 1 hts gX8_copy_X5_isRow rfl rfl rfl ddX5_isRow ⟨Nat.le_of_ble_eq_true rfl, Nat.le_of_ble_eq_true rfl⟩) rfl rfl hl.1 (Nat.le_of_ble_eq_true rfl) ⟨Nat.zero_le _, Nat.zero_le _⟩ dX8_copy_1 ?_
  refine lv_if_eq (tgt := 14) hx hb dX8_copy_4 (by decide) (fun c_2 => ?_) (fun c_2 => ?_)
  · have h := (if_pos c_2).symm.trans h
    refine lv_ldc hx hb hown w_0 dX8_copy_14 ?_
    have h := Option.some.inj h
    subst h
    rw [hQQ]
    subst hAe
    exact W.iret (v := (-1000001)) hx hb hr (fun t ht hW => ⟨⟨_, (), rfl, rfl, by rw [ht]; exact hP, va_K.moved hW.alike hK, hD⟩, hS.F ht⟩) hS.2.2 dX8_copy_16
  · have h := (if_neg c_2).symm.trans h
    refine lv_iload_n hx hb dX8_copy_7 rfl (lv_at hl 3 rfl) ?_
    obtain ⟨r_3, hc_3, h⟩ := bd1_of h
    refine cl_pS (As := [.int v3]) (rest := []) ⟨hx, hb, hml, hown, hts⟩ (m_X5_isRow l v3 (r_3) hc_3) (va_cwS 1 hts gX8_copy_X5_isRow rfl rfl rfl ddX5_isRow ⟨Nat.le_of_ble_eq_true rfl, Nat.le_of_ble_eq_true rfl⟩) rfl rfl hl.1 (Nat.le_of_ble_eq_true rfl) ⟨Nat.zero_le _, Nat.zero_le _⟩ dX8_copy_8 ?_
    refine lv_if_ne (tgt := 17) hx hb dX8_copy_11 (by decide) (fun c_4 => ?_) (fun c_4 => ?_)
    · have h := (if_neg c_4).symm.trans h
      refine lv_aload_n hx hb dX8_copy_17 rfl (lv_at hl 0 rfl) ?_
      refine va_get (D := (dC, dI)) (ci := 6) (v := .ref q_rows) (C := RX8) (T := TX8) (N := 10) hx hb hts w_2 hown hK hP 0 rfl rfl 0 (by decide) w_1 (fun _ h9 => h9) rfl dX8_copy_18 ?_
      refine lv_iload_n hx hb dX8_copy_21 rfl (lv_at hl 1 rfl) ?_
      obtain ⟨r_5, hc_5, h⟩ := bd1_of h
      refine cl_rV (As := [.int v1]) (rest := []) ⟨hx, hb, hml, hown, hts⟩ (m_X5_isMissing l dC dI cI cZ q_rows q_rows_lanes q_rows_lengths q_rows_items rows_lanes rows_lengths rows_items v1 (r_5) hc_5) (cwV 1 hts gX8_copy_X5_isMissing rfl rfl rfl ⟨rfl, ddX5_isMissing⟩ ⟨Nat.le_of_ble_eq_true rfl, Nat.le_of_ble_eq_true rfl⟩) hK hP [1, 2, 3, 4] rfl rfl rfl rfl rfl hl.1 (Nat.le_of_ble_eq_true rfl) ⟨Nat.zero_le _, Nat.zero_le _⟩ dX8_copy_22 ?_
      refine lv_if_ne (tgt := 39) hx hb dX8_copy_25 (by decide) (fun c_6 => ?_) (fun c_6 => ?_)
      · have h := (if_neg c_6).symm.trans h
        refine lv_aload_n hx hb dX8_copy_39 rfl (lv_at hl 0 rfl) ?_
        refine lv_iconst (v := 1) hx hb dX8_copy_40 (by decide) ?_
        obtain ⟨r_7, s_finding_7, hc_7, h⟩ := bd2_of h
        refine cl_mVi (As := [.int 1]) (rest := []) (ws' := (W_X cI cZ q_s q_rows q_tape q_land q_spare q_firstImage q_secondImage q_acts q_basket q_asks s_finding_7) ++ ((W_Rows cI cZ q_rows q_rows_lanes q_rows_lengths q_rows_items rows_lanes rows_lengths rows_items))) (wr := (W_Rows cI cZ q_rows q_rows_lanes q_rows_lengths q_rows_items rows_lanes rows_lengths rows_items)) ⟨hx, hb, hml, hown, hts⟩ (m_X8_found l dC dI cI cZ q_s q_rows q_tape q_land q_spare q_firstImage q_secondImage q_acts q_basket q_asks s_finding 1 _ (r_7, s_finding_7) hc_7) (cwV 1 hts gX8_copy_X8_found rfl rfl rfl ⟨rfl, ddX8_found⟩ ⟨Nat.le_of_ble_eq_true rfl, Nat.le_of_ble_eq_true rfl⟩) hK hP hD hS hA [0] [1, 2, 3, 4] rfl rfl rfl rfl (by decide) [4, 0, 1, 2, 3] rfl rfl rfl rfl rfl rfl rfl hl.1 (Nat.le_of_ble_eq_true rfl) ⟨Nat.zero_le _, Nat.zero_le _⟩ dX8_copy_41 (fun H locs hP hD hS => ?_)
        have h := Option.some.inj h
        subst h
        rw [hQQ]
        subst hAe
        exact W.iret (v := r_7) hx hb hr (fun t ht hW => ⟨⟨_, (), rfl, rfl, by rw [ht]; exact hP, va_K.moved hW.alike hK, hD⟩, hS.F ht⟩) hS.2.2 dX8_copy_44
      · have h := (if_pos c_6).symm.trans h
        refine lv_aload_n hx hb dX8_copy_28 rfl (lv_at hl 0 rfl) ?_
        refine va_get (D := (dC, dI)) (ci := 6) (v := .ref q_rows) (C := RX8) (T := TX8) (N := 10) hx hb hts w_2 hown hK hP 0 rfl rfl 0 (by decide) w_1 (fun _ h9 => h9) rfl dX8_copy_29 ?_
        refine lv_iload_n hx hb dX8_copy_32 rfl (lv_at hl 3 rfl) ?_
        obtain ⟨r_8, hc_8, h⟩ := bd1_of h
        refine cl_rV (As := [.int v3]) (rest := []) ⟨hx, hb, hml, hown, hts⟩ (m_X5_isMissing l dC dI cI cZ q_rows q_rows_lanes q_rows_lengths q_rows_items rows_lanes rows_lengths rows_items v3 (r_8) hc_8) (cwV 1 hts gX8_copy_X5_isMissing rfl rfl rfl ⟨rfl, ddX5_isMissing⟩ ⟨Nat.le_of_ble_eq_true rfl, Nat.le_of_ble_eq_true rfl⟩) hK hP [1, 2, 3, 4] rfl rfl rfl rfl rfl hl.1 (Nat.le_of_ble_eq_true rfl) ⟨Nat.zero_le _, Nat.zero_le _⟩ dX8_copy_33 ?_
        refine lv_if_eq (tgt := 45) hx hb dX8_copy_36 (by decide) (fun c_9 => ?_) (fun c_9 => ?_)
        · have h := (if_pos c_9).symm.trans h
          refine lv_aload_n hx hb dX8_copy_45 rfl (lv_at hl 0 rfl) ?_
          refine va_get (D := (dC, dI)) (ci := 6) (v := .ref q_rows) (C := RX8) (T := TX8) (N := 10) hx hb hts w_2 hown hK hP 0 rfl rfl 0 (by decide) w_1 (fun _ h9 => h9) rfl dX8_copy_46 ?_
          refine lv_iload_n hx hb dX8_copy_49 rfl (lv_at hl 1 rfl) ?_
          obtain ⟨r_10, hc_10, h⟩ := bd1_of h
          refine cl_rV (As := [.int v1]) (rest := []) ⟨hx, hb, hml, hown, hts⟩ (m_X5_lane l dC dI cI cZ q_rows q_rows_lanes q_rows_lengths q_rows_items rows_lanes rows_lengths rows_items v1 (r_10) hc_10) (cwV 1 hts gX8_copy_X5_lane rfl rfl rfl ⟨rfl, ddX5_lane⟩ ⟨Nat.le_of_ble_eq_true rfl, Nat.le_of_ble_eq_true rfl⟩) hK hP [1, 2, 3, 4] rfl rfl rfl rfl rfl hl.1 (Nat.le_of_ble_eq_true rfl) ⟨Nat.zero_le _, Nat.zero_le _⟩ dX8_copy_50 ?_
          refine lv_aload_n hx hb dX8_copy_53 rfl (lv_at hl 0 rfl) ?_
          refine va_get (D := (dC, dI)) (ci := 6) (v := .ref q_rows) (C := RX8) (T := TX8) (N := 10) hx hb hts w_2 hown hK hP 0 rfl rfl 0 (by decide) w_1 (fun _ h9 => h9) rfl dX8_copy_54 ?_
          refine lv_iload_n hx hb dX8_copy_57 rfl (lv_at hl 3 rfl) ?_
          obtain ⟨r_11, hc_11, h⟩ := bd1_of h
          refine cl_rV (As := [.int v3]) (rest := [.int r_10]) ⟨hx, hb, hml, hown, hts⟩ (m_X5_lane l dC dI cI cZ q_rows q_rows_lanes q_rows_lengths q_rows_items rows_lanes rows_lengths rows_items v3 (r_11) hc_11) (cwV 1 hts gX8_copy_X5_lane rfl rfl rfl ⟨rfl, ddX5_lane⟩ ⟨Nat.le_of_ble_eq_true rfl, Nat.le_of_ble_eq_true rfl⟩) hK hP [1, 2, 3, 4] rfl rfl rfl rfl rfl hl.1 (Nat.le_of_ble_eq_true rfl) ⟨Nat.zero_le _, Nat.zero_le _⟩ dX8_copy_58 ?_
          refine lv_icmp_eq (tgt := 70) hx hb dX8_copy_61 (by decide) (fun c_12 => ?_) (fun c_12 => ?_)
          · have h := (if_pos c_12).symm.trans h
            refine lv_aload_n hx hb dX8_copy_70 rfl (lv_at hl 0 rfl) ?_
            refine va_get (D := (dC, dI)) (ci := 6) (v := .ref q_rows) (C := RX8) (T := TX8) (N := 10) hx hb hts w_2 hown hK hP 0 rfl rfl 0 (by decide) w_1 (fun _ h9 => h9) rfl dX8_copy_71 ?_
            refine lv_iload_n hx hb dX8_copy_74 rfl (lv_at hl 1 rfl) ?_
            refine lv_iload_n hx hb dX8_copy_75 rfl (lv_at hl 2 rfl) ?_
            refine lv_iload hx hb dX8_copy_76 (lv_at hl 5 rfl) ?_
            obtain ⟨r_13, hc_13, h⟩ := bd1_of h
            refine cl_rV (As := [.int v1, .int v2, .int v5]) (rest := []) ⟨hx, hb, hml, hown, hts⟩ (m_X5_hasPlaces l dC dI cI cZ q_rows q_rows_lanes q_rows_lengths q_rows_items rows_lanes rows_lengths rows_items v1 v2 v5 (r_13) hc_13) (cwV 3 hts gX8_copy_X5_hasPlaces rfl rfl rfl ⟨rfl, ddX5_hasPlaces⟩ ⟨Nat.le_of_ble_eq_true rfl, Nat.le_of_ble_eq_true rfl⟩) hK hP [1, 2, 3, 4] rfl rfl rfl rfl rfl hl.1 (Nat.le_of_ble_eq_true rfl) ⟨Nat.zero_le _, Nat.zero_le _⟩ dX8_copy_78 ?_
            refine lv_if_eq (tgt := 99) hx hb dX8_copy_81 (by decide) (fun c_14 => ?_) (fun c_14 => ?_)
            · have h := (if_pos c_14).symm.trans h
              refine lv_aload_n hx hb dX8_copy_99 rfl (lv_at hl 0 rfl) ?_
              refine lv_iconst (v := 2) hx hb dX8_copy_100 (by decide) ?_
              obtain ⟨r_15, s_finding_15, hc_15, h⟩ := bd2_of h
              refine cl_mVi (As := [.int 2]) (rest := []) (ws' := (W_X cI cZ q_s q_rows q_tape q_land q_spare q_firstImage q_secondImage q_acts q_basket q_asks s_finding_15) ++ ((W_Rows cI cZ q_rows q_rows_lanes q_rows_lengths q_rows_items rows_lanes rows_lengths rows_items))) (wr := (W_Rows cI cZ q_rows q_rows_lanes q_rows_lengths q_rows_items rows_lanes rows_lengths rows_items)) ⟨hx, hb, hml, hown, hts⟩ (m_X8_found l dC dI cI cZ q_s q_rows q_tape q_land q_spare q_firstImage q_secondImage q_acts q_basket q_asks s_finding 2 _ (r_15, s_finding_15) hc_15) (cwV 1 hts gX8_copy_X8_found rfl rfl rfl ⟨rfl, ddX8_found⟩ ⟨Nat.le_of_ble_eq_true rfl, Nat.le_of_ble_eq_true rfl⟩) hK hP hD hS hA [0] [1, 2, 3, 4] rfl rfl rfl rfl (by decide) [4, 0, 1, 2, 3] rfl rfl rfl rfl rfl rfl rfl hl.1 (Nat.le_of_ble_eq_true rfl) ⟨Nat.zero_le _, Nat.zero_le _⟩ dX8_copy_101 (fun H locs hP hD hS => ?_)
              have h := Option.some.inj h
              subst h
              rw [hQQ]
              subst hAe
              exact W.iret (v := r_15) hx hb hr (fun t ht hW => ⟨⟨_, (), rfl, rfl, by rw [ht]; exact hP, va_K.moved hW.alike hK, hD⟩, hS.F ht⟩) hS.2.2 dX8_copy_104
            · have h := (if_neg c_14).symm.trans h
              refine lv_aload_n hx hb dX8_copy_84 rfl (lv_at hl 0 rfl) ?_
              refine va_get (D := (dC, dI)) (ci := 6) (v := .ref q_rows) (C := RX8) (T := TX8) (N := 10) hx hb hts w_2 hown hK hP 0 rfl rfl 0 (by decide) w_1 (fun _ h9 => h9) rfl dX8_copy_85 ?_
              refine lv_iload_n hx hb dX8_copy_88 rfl (lv_at hl 3 rfl) ?_
              refine lv_iload hx hb dX8_copy_89 (lv_at hl 4 rfl) ?_
              refine lv_iload hx hb dX8_copy_91 (lv_at hl 5 rfl) ?_
              obtain ⟨r_16, hc_16, h⟩ := bd1_of h
              refine cl_rV (As := [.int v3, .int v4, .int v5]) (rest := []) ⟨hx, hb, hml, hown, hts⟩ (m_X5_hasPlaces l dC dI cI cZ q_rows q_rows_lanes q_rows_lengths q_rows_items rows_lanes rows_lengths rows_items v3 v4 v5 (r_16) hc_16) (cwV 3 hts gX8_copy_X5_hasPlaces rfl rfl rfl ⟨rfl, ddX5_hasPlaces⟩ ⟨Nat.le_of_ble_eq_true rfl, Nat.le_of_ble_eq_true rfl⟩) hK hP [1, 2, 3, 4] rfl rfl rfl rfl rfl hl.1 (Nat.le_of_ble_eq_true rfl) ⟨Nat.zero_le _, Nat.zero_le _⟩ dX8_copy_93 ?_
              refine lv_if_ne (tgt := 105) hx hb dX8_copy_96 (by decide) (fun c_17 => ?_) (fun c_17 => ?_)
              · have h := (if_neg c_17).symm.trans h
                refine lv_aload_n hx hb dX8_copy_105 rfl (lv_at hl 0 rfl) ?_
                refine va_get (D := (dC, dI)) (ci := 6) (v := .ref q_rows) (C := RX8) (T := TX8) (N := 10) hx hb hts w_2 hown hK hP 0 rfl rfl 0 (by decide) w_1 (fun _ h9 => h9) rfl dX8_copy_106 ?_
                refine lv_iload_n hx hb dX8_copy_109 rfl (lv_at hl 1 rfl) ?_
                refine lv_iload_n hx hb dX8_copy_110 rfl (lv_at hl 2 rfl) ?_
                refine lv_iload_n hx hb dX8_copy_111 rfl (lv_at hl 3 rfl) ?_
                refine lv_iload hx hb dX8_copy_112 (lv_at hl 4 rfl) ?_
                refine lv_iload hx hb dX8_copy_114 (lv_at hl 5 rfl) ?_
                obtain ⟨rows_items_18, hc_18, h⟩ := bd1_of h
                refine cl_mVv (As := [.int v1, .int v2, .int v3, .int v4, .int v5]) (rest := []) (ws' := (W_X cI cZ q_s q_rows q_tape q_land q_spare q_firstImage q_secondImage q_acts q_basket q_asks s_finding) ++ ((W_Rows cI cZ q_rows q_rows_lanes q_rows_lengths q_rows_items rows_lanes rows_lengths rows_items_18))) (wr := (W_X cI cZ q_s q_rows q_tape q_land q_spare q_firstImage q_secondImage q_acts q_basket q_asks s_finding)) ⟨hx, hb, hml, hown, hts⟩ (m_X5_move l dC dI cI cZ q_rows q_rows_lanes q_rows_lengths q_rows_items rows_lanes rows_lengths rows_items v1 v2 v3 v4 v5 _ (rows_items_18) hc_18) (cwV 5 hts gX8_copy_X5_move rfl rfl rfl ⟨rfl, ddX5_move⟩ ⟨Nat.le_of_ble_eq_true rfl, Nat.le_of_ble_eq_true rfl⟩) hK hP hD hS hA [1, 2, 3, 4] [0] rfl rfl rfl rfl (by decide) [0, 1, 2, 3, 4] rfl rfl rfl rfl rfl rfl rfl hl.1 (Nat.le_of_ble_eq_true rfl) ⟨Nat.zero_le _, Nat.zero_le _⟩ dX8_copy_116 (fun H locs hP hD hS => ?_)
                refine lv_aload_n hx hb dX8_copy_119 rfl (lv_at hl 0 rfl) ?_
                refine lv_iload hx hb dX8_copy_120 (lv_at hl 5 rfl) ?_
                obtain ⟨r_19, s_finding_19, hc_19, h⟩ := bd2_of h
                refine cl_mVi (As := [.int v5]) (rest := []) (ws' := (W_X cI cZ q_s q_rows q_tape q_land q_spare q_firstImage q_secondImage q_acts q_basket q_asks s_finding_19) ++ ((W_Rows cI cZ q_rows q_rows_lanes q_rows_lengths q_rows_items rows_lanes rows_lengths rows_items_18))) (wr := (W_Rows cI cZ q_rows q_rows_lanes q_rows_lengths q_rows_items rows_lanes rows_lengths rows_items_18)) ⟨hx, hb, hml, hown, hts⟩ (m_X8_unfound l dC dI cI cZ q_s q_rows q_tape q_land q_spare q_firstImage q_secondImage q_acts q_basket q_asks s_finding v5 _ (r_19, s_finding_19) hc_19) (cwV 1 hts gX8_copy_X8_unfound rfl rfl rfl ⟨rfl, ddX8_unfound⟩ ⟨Nat.le_of_ble_eq_true rfl, Nat.le_of_ble_eq_true rfl⟩) hK hP hD hS hA [0] [1, 2, 3, 4] rfl rfl rfl rfl (by decide) [4, 0, 1, 2, 3] rfl rfl rfl rfl rfl rfl rfl hl.1 (Nat.le_of_ble_eq_true rfl) ⟨Nat.zero_le _, Nat.zero_le _⟩ dX8_copy_122 (fun H locs hP hD hS => ?_)
                have h := Option.some.inj h
                subst h
                rw [hQQ]
                subst hAe
                exact W.iret (v := r_19) hx hb hr (fun t ht hW => ⟨⟨_, (), rfl, rfl, by rw [ht]; exact hP, va_K.moved hW.alike hK, hD⟩, hS.F ht⟩) hS.2.2 dX8_copy_125
              · have h := (if_pos c_17).symm.trans h
                refine lv_aload_n hx hb dX8_copy_99 rfl (lv_at hl 0 rfl) ?_
                refine lv_iconst (v := 2) hx hb dX8_copy_100 (by decide) ?_
                obtain ⟨r_20, s_finding_20, hc_20, h⟩ := bd2_of h
                refine cl_mVi (As := [.int 2]) (rest := []) (ws' := (W_X cI cZ q_s q_rows q_tape q_land q_spare q_firstImage q_secondImage q_acts q_basket q_asks s_finding_20) ++ ((W_Rows cI cZ q_rows q_rows_lanes q_rows_lengths q_rows_items rows_lanes rows_lengths rows_items))) (wr := (W_Rows cI cZ q_rows q_rows_lanes q_rows_lengths q_rows_items rows_lanes rows_lengths rows_items)) ⟨hx, hb, hml, hown, hts⟩ (m_X8_found l dC dI cI cZ q_s q_rows q_tape q_land q_spare q_firstImage q_secondImage q_acts q_basket q_asks s_finding 2 _ (r_20, s_finding_20) hc_20) (cwV 1 hts gX8_copy_X8_found rfl rfl rfl ⟨rfl, ddX8_found⟩ ⟨Nat.le_of_ble_eq_true rfl, Nat.le_of_ble_eq_true rfl⟩) hK hP hD hS hA [0] [1, 2, 3, 4] rfl rfl rfl rfl (by decide) [4, 0, 1, 2, 3] rfl rfl rfl rfl rfl rfl rfl hl.1 (Nat.le_of_ble_eq_true rfl) ⟨Nat.zero_le _, Nat.zero_le _⟩ dX8_copy_101 (fun H locs hP hD hS => ?_)
                have h := Option.some.inj h
                subst h
                rw [hQQ]
                subst hAe
                exact W.iret (v := r_20) hx hb hr (fun t ht hW => ⟨⟨_, (), rfl, rfl, by rw [ht]; exact hP, va_K.moved hW.alike hK, hD⟩, hS.F ht⟩) hS.2.2 dX8_copy_104
          · have h := (if_neg c_12).symm.trans h
            refine lv_aload_n hx hb dX8_copy_64 rfl (lv_at hl 0 rfl) ?_
            refine lv_iconst (v := 5) hx hb dX8_copy_65 (by decide) ?_
            obtain ⟨r_21, s_finding_21, hc_21, h⟩ := bd2_of h
            refine cl_mVi (As := [.int 5]) (rest := []) (ws' := (W_X cI cZ q_s q_rows q_tape q_land q_spare q_firstImage q_secondImage q_acts q_basket q_asks s_finding_21) ++ ((W_Rows cI cZ q_rows q_rows_lanes q_rows_lengths q_rows_items rows_lanes rows_lengths rows_items))) (wr := (W_Rows cI cZ q_rows q_rows_lanes q_rows_lengths q_rows_items rows_lanes rows_lengths rows_items)) ⟨hx, hb, hml, hown, hts⟩ (m_X8_found l dC dI cI cZ q_s q_rows q_tape q_land q_spare q_firstImage q_secondImage q_acts q_basket q_asks s_finding 5 _ (r_21, s_finding_21) hc_21) (cwV 1 hts gX8_copy_X8_found rfl rfl rfl ⟨rfl, ddX8_found⟩ ⟨Nat.le_of_ble_eq_true rfl, Nat.le_of_ble_eq_true rfl⟩) hK hP hD hS hA [0] [1, 2, 3, 4] rfl rfl rfl rfl (by decide) [4, 0, 1, 2, 3] rfl rfl rfl rfl rfl rfl rfl hl.1 (Nat.le_of_ble_eq_true rfl) ⟨Nat.zero_le _, Nat.zero_le _⟩ dX8_copy_66 (fun H locs hP hD hS => ?_)
            have h := Option.some.inj h
            subst h
            rw [hQQ]
            subst hAe
            exact W.iret (v := r_21) hx hb hr (fun t ht hW => ⟨⟨_, (), rfl, rfl, by rw [ht]; exact hP, va_K.moved hW.alike hK, hD⟩, hS.F ht⟩) hS.2.2 dX8_copy_69
        · have h := (if_neg c_9).symm.trans h
          refine lv_aload_n hx hb dX8_copy_39 rfl (lv_at hl 0 rfl) ?_
          refine lv_iconst (v := 1) hx hb dX8_copy_40 (by decide) ?_
          obtain ⟨r_22, s_finding_22, hc_22, h⟩ := bd2_of h
          refine cl_mVi (As := [.int 1]) (rest := []) (ws' := (W_X cI cZ q_s q_rows q_tape q_land q_spare q_firstImage q_secondImage q_acts q_basket q_asks s_finding_22) ++ ((W_Rows cI cZ q_rows q_rows_lanes q_rows_lengths q_rows_items rows_lanes rows_lengths rows_items))) (wr := (W_Rows cI cZ q_rows q_rows_lanes q_rows_lengths q_rows_items rows_lanes rows_lengths rows_items)) ⟨hx, hb, hml, hown, hts⟩ (m_X8_found l dC dI cI cZ q_s q_rows q_tape q_land q_spare q_firstImage q_secondImage q_acts q_basket q_asks s_finding 1 _ (r_22, s_finding_22) hc_22) (cwV 1 hts gX8_copy_X8_found rfl rfl rfl ⟨rfl, ddX8_found⟩ ⟨Nat.le_of_ble_eq_true rfl, Nat.le_of_ble_eq_true rfl⟩) hK hP hD hS hA [0] [1, 2, 3, 4] rfl rfl rfl rfl (by decide) [4, 0, 1, 2, 3] rfl rfl rfl rfl rfl rfl rfl hl.1 (Nat.le_of_ble_eq_true rfl) ⟨Nat.zero_le _, Nat.zero_le _⟩ dX8_copy_41 (fun H locs hP hD hS => ?_)
          have h := Option.some.inj h
          subst h
          rw [hQQ]
          subst hAe
          exact W.iret (v := r_22) hx hb hr (fun t ht hW => ⟨⟨_, (), rfl, rfl, by rw [ht]; exact hP, va_K.moved hW.alike hK, hD⟩, hS.F ht⟩) hS.2.2 dX8_copy_44
    · have h := (if_pos c_4).symm.trans h
      refine lv_ldc hx hb hown w_0 dX8_copy_14 ?_
      have h := Option.some.inj h
      subst h
      rw [hQQ]
      subst hAe
      exact W.iret (v := (-1000001)) hx hb hr (fun t ht hW => ⟨⟨_, (), rfl, rfl, by rw [ht]; exact hP, va_K.moved hW.alike hK, hD⟩, hS.F ht⟩) hS.2.2 dX8_copy_16
def fX8_drop (s_finding : Int32) (rows_lanes : (Nat → Int32)) (rows_lengths : (Nat → Int32)) (v1 : Int32) : Option (Int32 × Int32 × (Nat → Int32) × (Nat → Int32)) :=
  bd1 (fX5_isRow v1) (fun r_1 => (if r_1 = 0 then some ((-1000001), s_finding, rows_lanes, rows_lengths) else bd1 (fX5_isMissing rows_lanes v1) (fun r_3 => (if r_3 = 0 then bd3 (fX5_remove rows_lanes rows_lengths v1) (fun r_5 rows_lanes_5 rows_lengths_5 => bd2 (fX8_unfound r_5) (fun r_6 s_finding_6 => some (r_6, s_finding_6, rows_lanes_5, rows_lengths_5))) else bd2 (fX8_found 1) (fun r_7 s_finding_7 => some (r_7, s_finding_7, rows_lanes, rows_lengths))))))
abbrev rmX8_drop : Room := { frames := 1, cells := 0, slots := 0, locals := 22 }
theorem ddX8_drop : yX8_drop.cls ≠ "java/lang/invoke/MethodHandle" ∧ yX8_drop.cls ≠ "java/lang/invoke/VarHandle" ∧ (parseMethodDescriptor yX8_drop.desc).map (fun d => d.parameters.length) = some 1 := by decide +kernel
set_option maxHeartbeats 4000000 in
set_option maxRecDepth 100000 in
theorem m_X8_drop (l : Launch) (dC : Nat → ClassId) (dI : Nat → Nat → Nat) (cI cZ : ClassId) (q_s q_rows q_tape q_land q_spare q_firstImage q_secondImage q_acts q_basket q_asks q_rows q_rows_lanes q_rows_lengths q_rows_items : Nat) (s_finding : Int32) (rows_lanes : (Nat → Int32)) (rows_lengths : (Nat → Int32)) (rows_items : (Nat → Int32)) (v1 : Int32) (sz : Nat) (res : Int32 × Int32 × (Nat → Int32) × (Nat → Int32)) (hf : fX8_drop s_finding rows_lanes rows_lengths v1 = some res) : Met l yX8_drop wsX8_drop rmX8_drop (mtPc (dC, dI) (tyZ cI cZ) ((W_X cI cZ q_s q_rows q_tape q_land q_spare q_firstImage q_secondImage q_acts q_basket q_asks s_finding) ++ ((W_Rows cI cZ q_rows q_rows_lanes q_rows_lengths q_rows_items rows_lanes rows_lengths rows_items))) [.ref q_s, .int v1] sz) (mtQi (dC, dI) (tyZ cI cZ) ((W_X cI cZ q_s q_rows q_tape q_land q_spare q_firstImage q_secondImage q_acts q_basket q_asks s_finding) ++ ((W_Rows cI cZ q_rows q_rows_lanes q_rows_lengths q_rows_items rows_lanes rows_lengths rows_items))) ((W_X cI cZ q_s q_rows q_tape q_land q_spare q_firstImage q_secondImage q_acts q_basket q_asks res.2.1) ++ ((W_Rows cI cZ q_rows q_rows_lanes q_rows_lengths q_rows_items res.2.2.1 res.2.2.2 rows_items))) res.1 sz) 0 0 (va_A ((W_X cI cZ q_s q_rows q_tape q_land q_spare q_firstImage q_secondImage q_acts q_basket q_asks s_finding) ++ ((W_Rows cI cZ q_rows q_rows_lanes q_rows_lengths q_rows_items rows_lanes rows_lengths rows_items))) sz) := by
  refine Met.ofW (cc := cX8_drop) (maxL := 2) (ret := (some .int)) (by decide) rfl ?_
  intro p e s m args below meth c s₁ B hml hv
  obtain ⟨rfl, hsz, hP, hK, hD0⟩ := hv
  have hx := B.exec
  have hb := B.bytes
  have hr := B.returns
  have hts := atoms_spec (ws := wsX8_drop) B.pre
  have hown : s.vm.findClass RX8 = some m.cls := findClass_of_methodNamed B.named
  have hlocks := B.notSynchronized
  subst hsz
  have hD := hD0.self (sz := s.heap.size)
  obtain ⟨A, hAe⟩ : ∃ A, A = va_A ((W_X cI cZ q_s q_rows q_tape q_land q_spare q_firstImage q_secondImage q_acts q_basket q_asks s_finding) ++ ((W_Rows cI cZ q_rows q_rows_lanes q_rows_lengths q_rows_items rows_lanes rows_lengths rows_items))) s.heap.size := ⟨_, rfl⟩
  rw [← hAe] at hD
  have hA : ∀ q : Nat, s.heap.size ≤ q → A q := fun q h => by rw [hAe]; exact Or.inr h
  have hS : va_S A s.heap s.heap [] := va_S.rf
  have hl := lv_entry ([.ref q_s, .int v1]) (n := 2) (Nat.le_of_ble_eq_true rfl)
  rw [lg_entry_eq]
  generalize (lg_sl ([.ref q_s, .int v1]) ++ List.replicate (2 - (lg_sl ([.ref q_s, .int v1])).length) Slot.unset).toArray = ls at hl ⊢
  have hl : lv_has ls 2 [(0, .ref q_s), (1, .int v1)] := hl
  obtain ⟨QQ, hQQ⟩ : ∃ Q, Q = MQ below (mtQi (dC, dI) (tyZ cI cZ) ((W_X cI cZ q_s q_rows q_tape q_land q_spare q_firstImage q_secondImage q_acts q_basket q_asks s_finding) ++ ((W_Rows cI cZ q_rows q_rows_lanes q_rows_lengths q_rows_items rows_lanes rows_lengths rows_items))) ((W_X cI cZ q_s q_rows q_tape q_land q_spare q_firstImage q_secondImage q_acts q_basket q_asks res.2.1) ++ ((W_Rows cI cZ q_rows q_rows_lanes q_rows_lengths q_rows_items res.2.2.1 res.2.2.2 rows_items))) res.1 s.heap.size) ([.ref q_s, .int v1] : List Value).toArray s 0 0 (va_A ((W_X cI cZ q_s q_rows q_tape q_land q_spare q_firstImage q_secondImage q_acts q_basket q_asks s_finding) ++ ((W_Rows cI cZ q_rows q_rows_lanes q_rows_lengths q_rows_items rows_lanes rows_lengths rows_items))) s.heap.size) := ⟨_, rfl⟩
  rw [← hQQ]
  have w_0 := hts (Cond.fieldLink RX8 12 "TideInches" "rows" "LTideInches$Rows;") (List.mem_of_getElem? (i := 2) rfl)
  have w_1 := (fun w hw => List.mem_cons_of_mem _ (List.mem_append_left _ (List.mem_append_right _ hw)) : ∀ w ∈ wsX80, w ∈ wsX8_drop)
  have w_2 := hts (Cond.constant RX8 68 (-1000001)) (List.mem_of_getElem? (i := 1) rfl)
  have h := hf
  unfold fX8_drop at h
  refine lv_iload_n hx hb dX8_drop_0 rfl (lv_at hl 1 rfl) ?_
  obtain ⟨r_1, hc_1, h⟩ := bd1_of h
  refine cl_pS (As := [.int v1]) (rest := []) ⟨hx, hb, hml, hown, hts⟩ (m_X5_isRow l v1 (r_1) hc_1) (va_cwS 1 hts gX8_drop_X5_isRow rfl rfl rfl ddX5_isRow ⟨Nat.le_of_ble_eq_true rfl, Nat.le_of_ble_eq_true rfl⟩) rfl rfl hl.1 (Nat.le_of_ble_eq_true rfl) ⟨Nat.zero_le _, Nat.zero_le _⟩ dX8_drop_1 ?_
  refine lv_if_ne (tgt := 10) hx hb dX8_drop_4 (by decide) (fun c_2 => ?_) (fun c_2 => ?_)
  · have h := (if_neg c_2).symm.trans h
    refine lv_aload_n hx hb dX8_drop_10 rfl (lv_at hl 0 rfl) ?_
    refine va_get (D := (dC, dI)) (ci := 6) (v := .ref q_rows) (C := RX8) (T := TX8) (N := 10) hx hb hts w_1 hown hK hP 0 rfl rfl 0 (by decide) w_0 (fun _ h9 => h9) rfl dX8_drop_11 ?_
    refine lv_iload_n hx hb dX8_drop_14 rfl (lv_at hl 1 rfl) ?_
    obtain ⟨r_3, hc_3, h⟩ := bd1_of h
    refine cl_rV (As := [.int v1]) (rest := []) ⟨hx, hb, hml, hown, hts⟩ (m_X5_isMissing l dC dI cI cZ q_rows q_rows_lanes q_rows_lengths q_rows_items rows_lanes rows_lengths rows_items v1 (r_3) hc_3) (cwV 1 hts gX8_drop_X5_isMissing rfl rfl rfl ⟨rfl, ddX5_isMissing⟩ ⟨Nat.le_of_ble_eq_true rfl, Nat.le_of_ble_eq_true rfl⟩) hK hP [1, 2, 3, 4] rfl rfl rfl rfl rfl hl.1 (Nat.le_of_ble_eq_true rfl) ⟨Nat.zero_le _, Nat.zero_le _⟩ dX8_drop_15 ?_
    refine lv_if_eq (tgt := 27) hx hb dX8_drop_18 (by decide) (fun c_4 => ?_) (fun c_4 => ?_)
    · have h := (if_pos c_4).symm.trans h
      refine lv_aload_n hx hb dX8_drop_27 rfl (lv_at hl 0 rfl) ?_
      refine lv_aload_n hx hb dX8_drop_28 rfl (lv_at hl 0 rfl) ?_
      refine va_get (D := (dC, dI)) (ci := 6) (v := .ref q_rows) (C := RX8) (T := TX8) (N := 10) hx hb hts w_1 hown hK hP 0 rfl rfl 0 (by decide) w_0 (fun _ h9 => h9) rfl dX8_drop_29 ?_
      refine lv_iload_n hx hb dX8_drop_32 rfl (lv_at hl 1 rfl) ?_
      obtain ⟨r_5, rows_lanes_5, rows_lengths_5, hc_5, h⟩ := bd3_of h
      refine cl_mVi (As := [.int v1]) (rest := [.ref q_s]) (ws' := (W_X cI cZ q_s q_rows q_tape q_land q_spare q_firstImage q_secondImage q_acts q_basket q_asks s_finding) ++ ((W_Rows cI cZ q_rows q_rows_lanes q_rows_lengths q_rows_items rows_lanes_5 rows_lengths_5 rows_items))) (wr := (W_X cI cZ q_s q_rows q_tape q_land q_spare q_firstImage q_secondImage q_acts q_basket q_asks s_finding)) ⟨hx, hb, hml, hown, hts⟩ (m_X5_remove l dC dI cI cZ q_rows q_rows_lanes q_rows_lengths q_rows_items rows_lanes rows_lengths rows_items v1 _ (r_5, rows_lanes_5, rows_lengths_5) hc_5) (cwV 1 hts gX8_drop_X5_remove rfl rfl rfl ⟨rfl, ddX5_remove⟩ ⟨Nat.le_of_ble_eq_true rfl, Nat.le_of_ble_eq_true rfl⟩) hK hP hD hS hA [1, 2, 3, 4] [0] rfl rfl rfl rfl (by decide) [0, 1, 2, 3, 4] rfl rfl rfl rfl rfl rfl rfl hl.1 (Nat.le_of_ble_eq_true rfl) ⟨Nat.zero_le _, Nat.zero_le _⟩ dX8_drop_33 (fun H locs hP hD hS => ?_)
      obtain ⟨r_6, s_finding_6, hc_6, h⟩ := bd2_of h
      refine cl_mVi (As := [.int r_5]) (rest := []) (ws' := (W_X cI cZ q_s q_rows q_tape q_land q_spare q_firstImage q_secondImage q_acts q_basket q_asks s_finding_6) ++ ((W_Rows cI cZ q_rows q_rows_lanes q_rows_lengths q_rows_items rows_lanes_5 rows_lengths_5 rows_items))) (wr := (W_Rows cI cZ q_rows q_rows_lanes q_rows_lengths q_rows_items rows_lanes_5 rows_lengths_5 rows_items)) ⟨hx, hb, hml, hown, hts⟩ (m_X8_unfound l dC dI cI cZ q_s q_rows q_tape q_land q_spare q_firstImage q_secondImage q_acts q_basket q_asks s_finding r_5 _ (r_6, s_finding_6) hc_6) (cwV 1 hts gX8_drop_X8_unfound rfl rfl rfl ⟨rfl, ddX8_unfound⟩ ⟨Nat.le_of_ble_eq_true rfl, Nat.le_of_ble_eq_true rfl⟩) hK hP hD hS hA [0] [1, 2, 3, 4] rfl rfl rfl rfl (by decide) [4, 0, 1, 2, 3] rfl rfl rfl rfl rfl rfl rfl hl.1 (Nat.le_of_ble_eq_true rfl) ⟨Nat.zero_le _, Nat.zero_le _⟩ dX8_drop_36 (fun H locs hP hD hS => ?_)
      have h := Option.some.inj h
      subst h
      rw [hQQ]
      subst hAe
      exact W.iret (v := r_6) hx hb hr (fun t ht hW => ⟨⟨_, (), rfl, rfl, by rw [ht]; exact hP, va_K.moved hW.alike hK, hD⟩, hS.F ht⟩) hS.2.2 dX8_drop_39
    · have h := (if_neg c_4).symm.trans h
      refine lv_aload_n hx hb dX8_drop_21 rfl (lv_at hl 0 rfl) ?_
      refine lv_iconst (v := 1) hx hb dX8_drop_22 (by decide) ?_
      obtain ⟨r_7, s_finding_7, hc_7, h⟩ := bd2_of h
      refine cl_mVi (As := [.int 1]) (rest := []) (ws' := (W_X cI cZ q_s q_rows q_tape q_land q_spare q_firstImage q_secondImage q_acts q_basket q_asks s_finding_7) ++ ((W_Rows cI cZ q_rows q_rows_lanes q_rows_lengths q_rows_items rows_lanes rows_lengths rows_items))) (wr := (W_Rows cI cZ q_rows q_rows_lanes q_rows_lengths q_rows_items rows_lanes rows_lengths rows_items)) ⟨hx, hb, hml, hown, hts⟩ (m_X8_found l dC dI cI cZ q_s q_rows q_tape q_land q_spare q_firstImage q_secondImage q_acts q_basket q_asks s_finding 1 _ (r_7, s_finding_7) hc_7) (cwV 1 hts gX8_drop_X8_found rfl rfl rfl ⟨rfl, ddX8_found⟩ ⟨Nat.le_of_ble_eq_true rfl, Nat.le_of_ble_eq_true rfl⟩) hK hP hD hS hA [0] [1, 2, 3, 4] rfl rfl rfl rfl (by decide) [4, 0, 1, 2, 3] rfl rfl rfl rfl rfl rfl rfl hl.1 (Nat.le_of_ble_eq_true rfl) ⟨Nat.zero_le _, Nat.zero_le _⟩ dX8_drop_23 (fun H locs hP hD hS => ?_)
      have h := Option.some.inj h
      subst h
      rw [hQQ]
      subst hAe
      exact W.iret (v := r_7) hx hb hr (fun t ht hW => ⟨⟨_, (), rfl, rfl, by rw [ht]; exact hP, va_K.moved hW.alike hK, hD⟩, hS.F ht⟩) hS.2.2 dX8_drop_26
  · have h := (if_pos c_2).symm.trans h
    refine lv_ldc hx hb hown w_2 dX8_drop_7 ?_
    have h := Option.some.inj h
    subst h
    rw [hQQ]
    subst hAe
    exact W.iret (v := (-1000001)) hx hb hr (fun t ht hW => ⟨⟨_, (), rfl, rfl, by rw [ht]; exact hP, va_K.moved hW.alike hK, hD⟩, hS.F ht⟩) hS.2.2 dX8_drop_9
def fX8_feed (tape_bytes : (Nat → Int32)) (tape_length : Int32) (v1 : Int32) : Option (Int32 × (Nat → Int32) × Int32) :=
  (if v1 < 0 then some ((-1000001), tape_bytes, tape_length) else (if v1 ≤ 255 then bd3 (fX7_add tape_bytes tape_length v1) (fun r_3 tape_bytes_3 tape_length_3 => (if r_3 = 0 then some ((-1000003), tape_bytes_3, tape_length_3) else bd1 (fX7_length tape_length_3) (fun r_5 => some (r_5, tape_bytes_3, tape_length_3)))) else some ((-1000001), tape_bytes, tape_length)))
abbrev rmX8_feed : Room := { frames := 1, cells := 0, slots := 0, locals := 21 }
theorem ddX8_feed : yX8_feed.cls ≠ "java/lang/invoke/MethodHandle" ∧ yX8_feed.cls ≠ "java/lang/invoke/VarHandle" ∧ (parseMethodDescriptor yX8_feed.desc).map (fun d => d.parameters.length) = some 1 := by decide +kernel
set_option maxHeartbeats 4000000 in
set_option maxRecDepth 100000 in
theorem m_X8_feed (l : Launch) (dC : Nat → ClassId) (dI : Nat → Nat → Nat) (cI cZ : ClassId) (q_s q_rows q_tape q_land q_spare q_firstImage q_secondImage q_acts q_basket q_asks q_tape q_tape_bytes : Nat) (s_finding : Int32) (tape_bytes : (Nat → Int32)) (tape_length : Int32) (tape_at : Int32) (tape_number : Int32) (tape_faultNumber : Int32) (v1 : Int32) (sz : Nat) (res : Int32 × (Nat → Int32) × Int32) (hf : fX8_feed tape_bytes tape_length v1 = some res) : Met l yX8_feed wsX8_feed rmX8_feed (mtPc (dC, dI) (tyZ cI cZ) ((W_X cI cZ q_s q_rows q_tape q_land q_spare q_firstImage q_secondImage q_acts q_basket q_asks s_finding) ++ ((W_Tape cI cZ q_tape q_tape_bytes tape_bytes tape_length tape_at tape_number tape_faultNumber))) [.ref q_s, .int v1] sz) (mtQi (dC, dI) (tyZ cI cZ) ((W_X cI cZ q_s q_rows q_tape q_land q_spare q_firstImage q_secondImage q_acts q_basket q_asks s_finding) ++ ((W_Tape cI cZ q_tape q_tape_bytes tape_bytes tape_length tape_at tape_number tape_faultNumber))) ((W_X cI cZ q_s q_rows q_tape q_land q_spare q_firstImage q_secondImage q_acts q_basket q_asks s_finding) ++ ((W_Tape cI cZ q_tape q_tape_bytes res.2.1 res.2.2 tape_at tape_number tape_faultNumber))) res.1 sz) 0 0 (va_A ((W_X cI cZ q_s q_rows q_tape q_land q_spare q_firstImage q_secondImage q_acts q_basket q_asks s_finding) ++ ((W_Tape cI cZ q_tape q_tape_bytes tape_bytes tape_length tape_at tape_number tape_faultNumber))) sz) := by
  refine Met.ofW (cc := cX8_feed) (maxL := 2) (ret := (some .int)) (by decide) rfl ?_
  intro p e s m args below meth c s₁ B hml hv
  obtain ⟨rfl, hsz, hP, hK, hD0⟩ := hv
  have hx := B.exec
  have hb := B.bytes
  have hr := B.returns
  have hts := atoms_spec (ws := wsX8_feed) B.pre
  have hown : s.vm.findClass RX8 = some m.cls := findClass_of_methodNamed B.named
  have hlocks := B.notSynchronized
  subst hsz
  have hD := hD0.self (sz := s.heap.size)
  obtain ⟨A, hAe⟩ : ∃ A, A = va_A ((W_X cI cZ q_s q_rows q_tape q_land q_spare q_firstImage q_secondImage q_acts q_basket q_asks s_finding) ++ ((W_Tape cI cZ q_tape q_tape_bytes tape_bytes tape_length tape_at tape_number tape_faultNumber))) s.heap.size := ⟨_, rfl⟩
  rw [← hAe] at hD
  have hA : ∀ q : Nat, s.heap.size ≤ q → A q := fun q h => by rw [hAe]; exact Or.inr h
  have hS : va_S A s.heap s.heap [] := va_S.rf
  have hl := lv_entry ([.ref q_s, .int v1]) (n := 2) (Nat.le_of_ble_eq_true rfl)
  rw [lg_entry_eq]
  generalize (lg_sl ([.ref q_s, .int v1]) ++ List.replicate (2 - (lg_sl ([.ref q_s, .int v1])).length) Slot.unset).toArray = ls at hl ⊢
  have hl : lv_has ls 2 [(0, .ref q_s), (1, .int v1)] := hl
  obtain ⟨QQ, hQQ⟩ : ∃ Q, Q = MQ below (mtQi (dC, dI) (tyZ cI cZ) ((W_X cI cZ q_s q_rows q_tape q_land q_spare q_firstImage q_secondImage q_acts q_basket q_asks s_finding) ++ ((W_Tape cI cZ q_tape q_tape_bytes tape_bytes tape_length tape_at tape_number tape_faultNumber))) ((W_X cI cZ q_s q_rows q_tape q_land q_spare q_firstImage q_secondImage q_acts q_basket q_asks s_finding) ++ ((W_Tape cI cZ q_tape q_tape_bytes res.2.1 res.2.2 tape_at tape_number tape_faultNumber))) res.1 s.heap.size) ([.ref q_s, .int v1] : List Value).toArray s 0 0 (va_A ((W_X cI cZ q_s q_rows q_tape q_land q_spare q_firstImage q_secondImage q_acts q_basket q_asks s_finding) ++ ((W_Tape cI cZ q_tape q_tape_bytes tape_bytes tape_length tape_at tape_number tape_faultNumber))) s.heap.size) := ⟨_, rfl⟩
  rw [← hQQ]
  have w_0 := hts (Cond.constant RX8 68 (-1000001)) (List.mem_of_getElem? (i := 1) rfl)
  have w_1 := hts (Cond.fieldLink RX8 19 "TideInches" "tape" "LTideInches$Tape;") (List.mem_of_getElem? (i := 2) rfl)
  have w_2 := (fun w hw => List.mem_cons_of_mem _ (List.mem_append_left _ (List.mem_append_right _ hw)) : ∀ w ∈ wsX80, w ∈ wsX8_feed)
  have w_3 := hts (Cond.constant RX8 108 (-1000003)) (List.mem_of_getElem? (i := 3) rfl)
  have h := hf
  unfold fX8_feed at h
  refine lv_iload_n hx hb dX8_feed_0 rfl (lv_at hl 1 rfl) ?_
  refine lv_if_lt (tgt := 11) hx hb dX8_feed_1 (by decide) (fun c_1 => ?_) (fun c_1 => ?_)
  · have h := (if_pos c_1).symm.trans h
    refine lv_ldc hx hb hown w_0 dX8_feed_11 ?_
    have h := Option.some.inj h
    subst h
    rw [hQQ]
    subst hAe
    exact W.iret (v := (-1000001)) hx hb hr (fun t ht hW => ⟨⟨_, (), rfl, rfl, by rw [ht]; exact hP, va_K.moved hW.alike hK, hD⟩, hS.F ht⟩) hS.2.2 dX8_feed_13
  · have h := (if_neg c_1).symm.trans h
    refine lv_iload_n hx hb dX8_feed_4 rfl (lv_at hl 1 rfl) ?_
    refine lv_sipush (v := 255) hx hb dX8_feed_5 (by decide) ?_
    refine lv_icmp_le (tgt := 14) hx hb dX8_feed_8 (by decide) (fun c_2 => ?_) (fun c_2 => ?_)
    · have h := (if_pos c_2).symm.trans h
      refine lv_aload_n hx hb dX8_feed_14 rfl (lv_at hl 0 rfl) ?_
      refine va_get (D := (dC, dI)) (ci := 6) (v := .ref q_tape) (C := RX8) (T := TX8) (N := 10) hx hb hts w_2 hown hK hP 0 rfl rfl 1 (by decide) w_1 (fun _ h9 => h9) rfl dX8_feed_15 ?_
      refine lv_iload_n hx hb dX8_feed_18 rfl (lv_at hl 1 rfl) ?_
      obtain ⟨r_3, tape_bytes_3, tape_length_3, hc_3, h⟩ := bd3_of h
      refine cl_mVi (As := [.int v1]) (rest := []) (ws' := (W_X cI cZ q_s q_rows q_tape q_land q_spare q_firstImage q_secondImage q_acts q_basket q_asks s_finding) ++ ((W_Tape cI cZ q_tape q_tape_bytes tape_bytes_3 tape_length_3 tape_at tape_number tape_faultNumber))) (wr := (W_X cI cZ q_s q_rows q_tape q_land q_spare q_firstImage q_secondImage q_acts q_basket q_asks s_finding)) ⟨hx, hb, hml, hown, hts⟩ (m_X7_add l dC dI cI cZ q_tape q_tape_bytes tape_bytes tape_length tape_at tape_number tape_faultNumber v1 _ (r_3, tape_bytes_3, tape_length_3) hc_3) (cwV 1 hts gX8_feed_X7_add rfl rfl rfl ⟨rfl, ddX7_add⟩ ⟨Nat.le_of_ble_eq_true rfl, Nat.le_of_ble_eq_true rfl⟩) hK hP hD hS hA [1, 2] [0] rfl rfl rfl rfl (by decide) [0, 1, 2] rfl rfl rfl rfl rfl rfl rfl hl.1 (Nat.le_of_ble_eq_true rfl) ⟨Nat.zero_le _, Nat.zero_le _⟩ dX8_feed_19 (fun H locs hP hD hS => ?_)
      refine lv_if_eq (tgt := 35) hx hb dX8_feed_22 (by decide) (fun c_4 => ?_) (fun c_4 => ?_)
      · have h := (if_pos c_4).symm.trans h
        refine lv_ldc hx hb hown w_3 dX8_feed_35 ?_
        have h := Option.some.inj h
        subst h
        rw [hQQ]
        subst hAe
        exact W.iret (v := (-1000003)) hx hb hr (fun t ht hW => ⟨⟨_, (), rfl, rfl, by rw [ht]; exact hP, va_K.moved hW.alike hK, hD⟩, hS.F ht⟩) hS.2.2 dX8_feed_37
      · have h := (if_neg c_4).symm.trans h
        refine lv_aload_n hx hb dX8_feed_25 rfl (lv_at hl 0 rfl) ?_
        refine va_get (D := (dC, dI)) (ci := 6) (v := .ref q_tape) (C := RX8) (T := TX8) (N := 10) hx hb hts w_2 hown hK hP 0 rfl rfl 1 (by decide) w_1 (fun _ h9 => h9) rfl dX8_feed_26 ?_
        obtain ⟨r_5, hc_5, h⟩ := bd1_of h
        refine cl_rV (As := []) (rest := []) ⟨hx, hb, hml, hown, hts⟩ (m_X7_length l dC dI cI cZ q_tape q_tape_bytes tape_bytes_3 tape_length_3 tape_at tape_number tape_faultNumber (r_5) hc_5) (cwV 0 hts gX8_feed_X7_length rfl rfl rfl ⟨rfl, ddX7_length⟩ ⟨Nat.le_of_ble_eq_true rfl, Nat.le_of_ble_eq_true rfl⟩) hK hP [1, 2] rfl rfl rfl rfl rfl hl.1 (Nat.le_of_ble_eq_true rfl) ⟨Nat.zero_le _, Nat.zero_le _⟩ dX8_feed_29 ?_
        refine lv_goto (tgt := 37) hx hb dX8_feed_32 (by decide) ?_
        have h := Option.some.inj h
        subst h
        rw [hQQ]
        subst hAe
        exact W.iret (v := r_5) hx hb hr (fun t ht hW => ⟨⟨_, (), rfl, rfl, by rw [ht]; exact hP, va_K.moved hW.alike hK, hD⟩, hS.F ht⟩) hS.2.2 dX8_feed_37
    · have h := (if_neg c_2).symm.trans h
      refine lv_ldc hx hb hown w_0 dX8_feed_11 ?_
      have h := Option.some.inj h
      subst h
      rw [hQQ]
      subst hAe
      exact W.iret (v := (-1000001)) hx hb hr (fun t ht hW => ⟨⟨_, (), rfl, rfl, by rw [ht]; exact hP, va_K.moved hW.alike hK, hD⟩, hS.F ht⟩) hS.2.2 dX8_feed_13
def fX8_isle (tape_bytes : (Nat → Int32)) (tape_length : Int32) (tape_number : Int32) (tape_faultNumber : Int32) (land_told : Int32) (land_low : Int32) (land_high : Int32) (land_price : Int32) (land_hour : Int32) (land_bidders : Int32) (land_heights : (Nat → Int32)) (land_holders : (Nat → Int32)) (land_kinds : (Nat → Int32)) (land_purses : (Nat → Int32)) (land_homes : (Nat → Int32)) (spare_low : Int32) (spare_high : Int32) (spare_price : Int32) (spare_heights : (Nat → Int32)) (spare_holders : (Nat → Int32)) (spare_kinds : (Nat → Int32)) (spare_purses : (Nat → Int32)) (spare_homes : (Nat → Int32)) (acts_kept : Int32) : Option (Int32 × Int32 × Int32 × Int32 × Int32 × Int32 × Int32 × Int32 × Int32 × Int32 × Int32 × (Nat → Int32) × (Nat → Int32) × (Nat → Int32) × (Nat → Int32) × (Nat → Int32) × Int32 × Int32 × Int32 × Int32 × Int32 × Int32 × (Nat → Int32) × (Nat → Int32) × (Nat → Int32) × (Nat → Int32) × (Nat → Int32) × Int32) :=
  bd15 (fX7_readInto tape_bytes tape_length tape_number tape_faultNumber spare_low spare_high spare_price spare_heights spare_holders spare_kinds spare_purses spare_homes) (fun r_1 tape_at_1 tape_number_1 tape_faultNumber_1 spare_told_1 spare_low_1 spare_high_1 spare_price_1 spare_hour_1 spare_bidders_1 spare_heights_1 spare_holders_1 spare_kinds_1 spare_purses_1 spare_homes_1 => bd1 (fX7_empty ) (fun tape_length_2 => (if r_1 = 0 then bd1 (fX7_faultPlace tape_at_1) (fun r_7 => some (((-1000100) - r_7), tape_length_2, tape_at_1, tape_number_1, tape_faultNumber_1, land_told, land_low, land_high, land_price, land_hour, land_bidders, land_heights, land_holders, land_kinds, land_purses, land_homes, spare_told_1, spare_low_1, spare_high_1, spare_price_1, spare_hour_1, spare_bidders_1, spare_heights_1, spare_holders_1, spare_kinds_1, spare_purses_1, spare_homes_1, acts_kept)) else bd11 (fX3_become land_heights land_holders land_kinds land_purses land_homes spare_told_1 spare_low_1 spare_high_1 spare_price_1 spare_hour_1 spare_bidders_1 spare_heights_1 spare_holders_1 spare_kinds_1 spare_purses_1 spare_homes_1) (fun land_told_4 land_low_4 land_high_4 land_price_4 land_hour_4 land_bidders_4 land_heights_4 land_holders_4 land_kinds_4 land_purses_4 land_homes_4 => bd1 (fX0_forget ) (fun acts_kept_5 => bd1 (fX3_bidders land_bidders_4) (fun r_6 => some (r_6, tape_length_2, tape_at_1, tape_number_1, tape_faultNumber_1, land_told_4, land_low_4, land_high_4, land_price_4, land_hour_4, land_bidders_4, land_heights_4, land_holders_4, land_kinds_4, land_purses_4, land_homes_4, spare_told_1, spare_low_1, spare_high_1, spare_price_1, spare_hour_1, spare_bidders_1, spare_heights_1, spare_holders_1, spare_kinds_1, spare_purses_1, spare_homes_1, acts_kept_5)))))))
abbrev rmX8_isle : Room := { frames := 5, cells := 0, slots := 0, locals := 130 }
theorem ddX8_isle : yX8_isle.cls ≠ "java/lang/invoke/MethodHandle" ∧ yX8_isle.cls ≠ "java/lang/invoke/VarHandle" ∧ (parseMethodDescriptor yX8_isle.desc).map (fun d => d.parameters.length) = some 0 := by decide +kernel
set_option maxHeartbeats 4000000 in
set_option maxRecDepth 100000 in
theorem m_X8_isle (l : Launch) (dC : Nat → ClassId) (dI : Nat → Nat → Nat) (cI cZ : ClassId) (q_s q_rows q_tape q_land q_spare q_firstImage q_secondImage q_acts q_basket q_asks q_tape q_tape_bytes q_land q_land_heights q_land_holders q_land_kinds q_land_purses q_land_homes q_spare q_spare_heights q_spare_holders q_spare_kinds q_spare_purses q_spare_homes q_acts q_acts_saved : Nat) (s_finding : Int32) (tape_bytes : (Nat → Int32)) (tape_length : Int32) (tape_at : Int32) (tape_number : Int32) (tape_faultNumber : Int32) (land_told : Int32) (land_low : Int32) (land_high : Int32) (land_price : Int32) (land_hour : Int32) (land_bidders : Int32) (land_heights : (Nat → Int32)) (land_holders : (Nat → Int32)) (land_kinds : (Nat → Int32)) (land_purses : (Nat → Int32)) (land_homes : (Nat → Int32)) (spare_told : Int32) (spare_low : Int32) (spare_high : Int32) (spare_price : Int32) (spare_hour : Int32) (spare_bidders : Int32) (spare_heights : (Nat → Int32)) (spare_holders : (Nat → Int32)) (spare_kinds : (Nat → Int32)) (spare_purses : (Nat → Int32)) (spare_homes : (Nat → Int32)) (acts_saved : (Nat → Int32)) (acts_next : Int32) (acts_kept : Int32) (sz : Nat) (res : Int32 × Int32 × Int32 × Int32 × Int32 × Int32 × Int32 × Int32 × Int32 × Int32 × Int32 × (Nat → Int32) × (Nat → Int32) × (Nat → Int32) × (Nat → Int32) × (Nat → Int32) × Int32 × Int32 × Int32 × Int32 × Int32 × Int32 × (Nat → Int32) × (Nat → Int32) × (Nat → Int32) × (Nat → Int32) × (Nat → Int32) × Int32) (hf : fX8_isle tape_bytes tape_length tape_number tape_faultNumber land_told land_low land_high land_price land_hour land_bidders land_heights land_holders land_kinds land_purses land_homes spare_low spare_high spare_price spare_heights spare_holders spare_kinds spare_purses spare_homes acts_kept = some res) : Met l yX8_isle wsX8_isle rmX8_isle (mtPc (dC, dI) (tyZ cI cZ) ((W_X cI cZ q_s q_rows q_tape q_land q_spare q_firstImage q_secondImage q_acts q_basket q_asks s_finding) ++ ((W_Tape cI cZ q_tape q_tape_bytes tape_bytes tape_length tape_at tape_number tape_faultNumber) ++ ((W_Isle cI cZ q_land q_land_heights q_land_holders q_land_kinds q_land_purses q_land_homes land_told land_low land_high land_price land_hour land_bidders land_heights land_holders land_kinds land_purses land_homes) ++ ((W_Isle cI cZ q_spare q_spare_heights q_spare_holders q_spare_kinds q_spare_purses q_spare_homes spare_told spare_low spare_high spare_price spare_hour spare_bidders spare_heights spare_holders spare_kinds spare_purses spare_homes) ++ ((W_Acts cI cZ q_acts q_acts_saved acts_saved acts_next acts_kept)))))) [.ref q_s] sz) (mtQi (dC, dI) (tyZ cI cZ) ((W_X cI cZ q_s q_rows q_tape q_land q_spare q_firstImage q_secondImage q_acts q_basket q_asks s_finding) ++ ((W_Tape cI cZ q_tape q_tape_bytes tape_bytes tape_length tape_at tape_number tape_faultNumber) ++ ((W_Isle cI cZ q_land q_land_heights q_land_holders q_land_kinds q_land_purses q_land_homes land_told land_low land_high land_price land_hour land_bidders land_heights land_holders land_kinds land_purses land_homes) ++ ((W_Isle cI cZ q_spare q_spare_heights q_spare_holders q_spare_kinds q_spare_purses q_spare_homes spare_told spare_low spare_high spare_price spare_hour spare_bidders spare_heights spare_holders spare_kinds spare_purses spare_homes) ++ ((W_Acts cI cZ q_acts q_acts_saved acts_saved acts_next acts_kept)))))) ((W_X cI cZ q_s q_rows q_tape q_land q_spare q_firstImage q_secondImage q_acts q_basket q_asks s_finding) ++ ((W_Tape cI cZ q_tape q_tape_bytes tape_bytes res.2.1 res.2.2.1 res.2.2.2.1 res.2.2.2.2.1) ++ ((W_Isle cI cZ q_land q_land_heights q_land_holders q_land_kinds q_land_purses q_land_homes res.2.2.2.2.2.1 res.2.2.2.2.2.2.1 res.2.2.2.2.2.2.2.1 res.2.2.2.2.2.2.2.2.1 res.2.2.2.2.2.2.2.2.2.1 res.2.2.2.2.2.2.2.2.2.2.1 res.2.2.2.2.2.2.2.2.2.2.2.1 res.2.2.2.2.2.2.2.2.2.2.2.2.1 res.2.2.2.2.2.2.2.2.2.2.2.2.2.1 res.2.2.2.2.2.2.2.2.2.2.2.2.2.2.1 res.2.2.2.2.2.2.2.2.2.2.2.2.2.2.2.1) ++ ((W_Isle cI cZ q_spare q_spare_heights q_spare_holders q_spare_kinds q_spare_purses q_spare_homes res.2.2.2.2.2.2.2.2.2.2.2.2.2.2.2.2.1 res.2.2.2.2.2.2.2.2.2.2.2.2.2.2.2.2.2.1 res.2.2.2.2.2.2.2.2.2.2.2.2.2.2.2.2.2.2.1 res.2.2.2.2.2.2.2.2.2.2.2.2.2.2.2.2.2.2.2.1 res.2.2.2.2.2.2.2.2.2.2.2.2.2.2.2.2.2.2.2.2.1 res.2.2.2.2.2.2.2.2.2.2.2.2.2.2.2.2.2.2.2.2.2.1 res.2.2.2.2.2.2.2.2.2.2.2.2.2.2.2.2.2.2.2.2.2.2.1 res.2.2.2.2.2.2.2.2.2.2.2.2.2.2.2.2.2.2.2.2.2.2.2.1 res.2.2.2.2.2.2.2.2.2.2.2.2.2.2.2.2.2.2.2.2.2.2.2.2.1 res.2.2.2.2.2.2.2.2.2.2.2.2.2.2.2.2.2.2.2.2.2.2.2.2.2.1 res.2.2.2.2.2.2.2.2.2.2.2.2.2.2.2.2.2.2.2.2.2.2.2.2.2.2.1) ++ ((W_Acts cI cZ q_acts q_acts_saved acts_saved acts_next res.2.2.2.2.2.2.2.2.2.2.2.2.2.2.2.2.2.2.2.2.2.2.2.2.2.2.2)))))) res.1 sz) 0 0 (va_A ((W_X cI cZ q_s q_rows q_tape q_land q_spare q_firstImage q_secondImage q_acts q_basket q_asks s_finding) ++ ((W_Tape cI cZ q_tape q_tape_bytes tape_bytes tape_length tape_at tape_number tape_faultNumber) ++ ((W_Isle cI cZ q_land q_land_heights q_land_holders q_land_kinds q_land_purses q_land_homes land_told land_low land_high land_price land_hour land_bidders land_heights land_holders land_kinds land_purses land_homes) ++ ((W_Isle cI cZ q_spare q_spare_heights q_spare_holders q_spare_kinds q_spare_purses q_spare_homes spare_told spare_low spare_high spare_price spare_hour spare_bidders spare_heights spare_holders spare_kinds spare_purses spare_homes) ++ ((W_Acts cI cZ q_acts q_acts_saved acts_saved acts_next acts_kept)))))) sz) := by
  refine Met.ofW (cc := cX8_isle) (maxL := 2) (ret := (some .int)) (by decide) rfl ?_
  intro p e s m args below meth c s₁ B hml hv
  obtain ⟨rfl, hsz, hP, hK, hD0⟩ := hv
  have hx := B.exec
  have hb := B.bytes
  have hr := B.returns
  have hts := atoms_spec (ws := wsX8_isle) B.pre
  have hown : s.vm.findClass RX8 = some m.cls := findClass_of_methodNamed B.named
  have hlocks := B.notSynchronized
  subst hsz
  have hD := hD0.self (sz := s.heap.size)
  obtain ⟨A, hAe⟩ : ∃ A, A = va_A ((W_X cI cZ q_s q_rows q_tape q_land q_spare q_firstImage q_secondImage q_acts q_basket q_asks s_finding) ++ ((W_Tape cI cZ q_tape q_tape_bytes tape_bytes tape_length tape_at tape_number tape_faultNumber) ++ ((W_Isle cI cZ q_land q_land_heights q_land_holders q_land_kinds q_land_purses q_land_homes land_told land_low land_high land_price land_hour land_bidders land_heights land_holders land_kinds land_purses land_homes) ++ ((W_Isle cI cZ q_spare q_spare_heights q_spare_holders q_spare_kinds q_spare_purses q_spare_homes spare_told spare_low spare_high spare_price spare_hour spare_bidders spare_heights spare_holders spare_kinds spare_purses spare_homes) ++ ((W_Acts cI cZ q_acts q_acts_saved acts_saved acts_next acts_kept)))))) s.heap.size := ⟨_, rfl⟩
  rw [← hAe] at hD
  have hA : ∀ q : Nat, s.heap.size ≤ q → A q := fun q h => by rw [hAe]; exact Or.inr h
  have hS : va_S A s.heap s.heap [] := va_S.rf
  have hl := lv_entry ([.ref q_s]) (n := 2) (Nat.le_of_ble_eq_true rfl)
  rw [lg_entry_eq]
  generalize (lg_sl ([.ref q_s]) ++ List.replicate (2 - (lg_sl ([.ref q_s])).length) Slot.unset).toArray = ls at hl ⊢
  have hl : lv_has ls 2 [(0, .ref q_s)] := hl
  obtain ⟨QQ, hQQ⟩ : ∃ Q, Q = MQ below (mtQi (dC, dI) (tyZ cI cZ) ((W_X cI cZ q_s q_rows q_tape q_land q_spare q_firstImage q_secondImage q_acts q_basket q_asks s_finding) ++ ((W_Tape cI cZ q_tape q_tape_bytes tape_bytes tape_length tape_at tape_number tape_faultNumber) ++ ((W_Isle cI cZ q_land q_land_heights q_land_holders q_land_kinds q_land_purses q_land_homes land_told land_low land_high land_price land_hour land_bidders land_heights land_holders land_kinds land_purses land_homes) ++ ((W_Isle cI cZ q_spare q_spare_heights q_spare_holders q_spare_kinds q_spare_purses q_spare_homes spare_told spare_low spare_high spare_price spare_hour spare_bidders spare_heights spare_holders spare_kinds spare_purses spare_homes) ++ ((W_Acts cI cZ q_acts q_acts_saved acts_saved acts_next acts_kept)))))) ((W_X cI cZ q_s q_rows q_tape q_land q_spare q_firstImage q_secondImage q_acts q_basket q_asks s_finding) ++ ((W_Tape cI cZ q_tape q_tape_bytes tape_bytes res.2.1 res.2.2.1 res.2.2.2.1 res.2.2.2.2.1) ++ ((W_Isle cI cZ q_land q_land_heights q_land_holders q_land_kinds q_land_purses q_land_homes res.2.2.2.2.2.1 res.2.2.2.2.2.2.1 res.2.2.2.2.2.2.2.1 res.2.2.2.2.2.2.2.2.1 res.2.2.2.2.2.2.2.2.2.1 res.2.2.2.2.2.2.2.2.2.2.1 res.2.2.2.2.2.2.2.2.2.2.2.1 res.2.2.2.2.2.2.2.2.2.2.2.2.1 res.2.2.2.2.2.2.2.2.2.2.2.2.2.1 res.2.2.2.2.2.2.2.2.2.2.2.2.2.2.1 res.2.2.2.2.2.2.2.2.2.2.2.2.2.2.2.1) ++ ((W_Isle cI cZ q_spare q_spare_heights q_spare_holders q_spare_kinds q_spare_purses q_spare_homes res.2.2.2.2.2.2.2.2.2.2.2.2.2.2.2.2.1 res.2.2.2.2.2.2.2.2.2.2.2.2.2.2.2.2.2.1 res.2.2.2.2.2.2.2.2.2.2.2.2.2.2.2.2.2.2.1 res.2.2.2.2.2.2.2.2.2.2.2.2.2.2.2.2.2.2.2.1 res.2.2.2.2.2.2.2.2.2.2.2.2.2.2.2.2.2.2.2.2.1 res.2.2.2.2.2.2.2.2.2.2.2.2.2.2.2.2.2.2.2.2.2.1 res.2.2.2.2.2.2.2.2.2.2.2.2.2.2.2.2.2.2.2.2.2.2.1 res.2.2.2.2.2.2.2.2.2.2.2.2.2.2.2.2.2.2.2.2.2.2.2.1 res.2.2.2.2.2.2.2.2.2.2.2.2.2.2.2.2.2.2.2.2.2.2.2.2.1 res.2.2.2.2.2.2.2.2.2.2.2.2.2.2.2.2.2.2.2.2.2.2.2.2.2.1 res.2.2.2.2.2.2.2.2.2.2.2.2.2.2.2.2.2.2.2.2.2.2.2.2.2.2.1) ++ ((W_Acts cI cZ q_acts q_acts_saved acts_saved acts_next res.2.2.2.2.2.2.2.2.2.2.2.2.2.2.2.2.2.2.2.2.2.2.2.2.2.2.2)))))) res.1 s.heap.size) ([.ref q_s] : List Value).toArray s 0 0 (va_A ((W_X cI cZ q_s q_rows q_tape q_land q_spare q_firstImage q_secondImage q_acts q_basket q_asks s_finding) ++ ((W_Tape cI cZ q_tape q_tape_bytes tape_bytes tape_length tape_at tape_number tape_faultNumber) ++ ((W_Isle cI cZ q_land q_land_heights q_land_holders q_land_kinds q_land_purses q_land_homes land_told land_low land_high land_price land_hour land_bidders land_heights land_holders land_kinds land_purses land_homes) ++ ((W_Isle cI cZ q_spare q_spare_heights q_spare_holders q_spare_kinds q_spare_purses q_spare_homes spare_told spare_low spare_high spare_price spare_hour spare_bidders spare_heights spare_holders spare_kinds spare_purses spare_homes) ++ ((W_Acts cI cZ q_acts q_acts_saved acts_saved acts_next acts_kept)))))) s.heap.size) := ⟨_, rfl⟩
  rw [← hQQ]
  have w_0 := hts (Cond.fieldLink RX8 19 "TideInches" "tape" "LTideInches$Tape;") (List.mem_of_getElem? (i := 1) rfl)
  have w_1 := (fun w hw => List.mem_cons_of_mem _ (List.mem_append_left _ (List.mem_append_left _ (List.mem_append_left _ (List.mem_append_right _ hw)))) : ∀ w ∈ wsX80, w ∈ wsX8_isle)
  have w_2 := hts (Cond.fieldLink RX8 30 "TideInches" "spare" "LTideInches$Isle;") (List.mem_of_getElem? (i := 2) rfl)
  have w_3 := hts (Cond.fieldLink RX8 26 "TideInches" "land" "LTideInches$Isle;") (List.mem_of_getElem? (i := 4) rfl)
  have w_4 := hts (Cond.fieldLink RX8 42 "TideInches" "acts" "LTideInches$Acts;") (List.mem_of_getElem? (i := 5) rfl)
  have w_5 := hts (Cond.constant RX8 116 (-1000100)) (List.mem_of_getElem? (i := 3) rfl)
  have h := hf
  unfold fX8_isle at h
  refine lv_aload_n hx hb dX8_isle_0 rfl (lv_at hl 0 rfl) ?_
  refine va_get (D := (dC, dI)) (ci := 6) (v := .ref q_tape) (C := RX8) (T := TX8) (N := 10) hx hb hts w_1 hown hK hP 0 rfl rfl 1 (by decide) w_0 (fun _ h9 => h9) rfl dX8_isle_1 ?_
  refine lv_aload_n hx hb dX8_isle_4 rfl (lv_at hl 0 rfl) ?_
  refine va_get (D := (dC, dI)) (ci := 6) (v := .ref q_spare) (C := RX8) (T := TX8) (N := 10) hx hb hts w_1 hown hK hP 0 rfl rfl 3 (by decide) w_2 (fun _ h9 => h9) rfl dX8_isle_5 ?_
  obtain ⟨r_1, tape_at_1, tape_number_1, tape_faultNumber_1, spare_told_1, spare_low_1, spare_high_1, spare_price_1, spare_hour_1, spare_bidders_1, spare_heights_1, spare_holders_1, spare_kinds_1, spare_purses_1, spare_homes_1, hc_1, h⟩ := bd15_of h
  refine cl_mVi (As := [.ref q_spare]) (rest := []) (ws' := (W_X cI cZ q_s q_rows q_tape q_land q_spare q_firstImage q_secondImage q_acts q_basket q_asks s_finding) ++ ((W_Tape cI cZ q_tape q_tape_bytes tape_bytes tape_length tape_at_1 tape_number_1 tape_faultNumber_1) ++ ((W_Isle cI cZ q_land q_land_heights q_land_holders q_land_kinds q_land_purses q_land_homes land_told land_low land_high land_price land_hour land_bidders land_heights land_holders land_kinds land_purses land_homes) ++ ((W_Isle cI cZ q_spare q_spare_heights q_spare_holders q_spare_kinds q_spare_purses q_spare_homes spare_told_1 spare_low_1 spare_high_1 spare_price_1 spare_hour_1 spare_bidders_1 spare_heights_1 spare_holders_1 spare_kinds_1 spare_purses_1 spare_homes_1) ++ ((W_Acts cI cZ q_acts q_acts_saved acts_saved acts_next acts_kept)))))) (wr := (W_X cI cZ q_s q_rows q_tape q_land q_spare q_firstImage q_secondImage q_acts q_basket q_asks s_finding) ++ ((W_Isle cI cZ q_land q_land_heights q_land_holders q_land_kinds q_land_purses q_land_homes land_told land_low land_high land_price land_hour land_bidders land_heights land_holders land_kinds land_purses land_homes) ++ ((W_Acts cI cZ q_acts q_acts_saved acts_saved acts_next acts_kept)))) ⟨hx, hb, hml, hown, hts⟩ (m_X7_readInto l dC dI cI cZ q_tape q_tape_bytes q_spare q_spare_heights q_spare_holders q_spare_kinds q_spare_purses q_spare_homes tape_bytes tape_length tape_at tape_number tape_faultNumber spare_told spare_low spare_high spare_price spare_hour spare_bidders spare_heights spare_holders spare_kinds spare_purses spare_homes _ (r_1, tape_at_1, tape_number_1, tape_faultNumber_1, spare_told_1, spare_low_1, spare_high_1, spare_price_1, spare_hour_1, spare_bidders_1, spare_heights_1, spare_holders_1, spare_kinds_1, spare_purses_1, spare_homes_1) hc_1) (cwV 1 hts gX8_isle_X7_readInto rfl rfl rfl ⟨rfl, ddX7_readInto⟩ ⟨Nat.le_of_ble_eq_true rfl, Nat.le_of_ble_eq_true rfl⟩) hK hP hD hS hA [1, 2, 9, 10, 11, 12, 13, 14] [0, 3, 4, 5, 6, 7, 8, 15, 16] rfl rfl rfl rfl (by decide) [0, 9, 10, 1, 2, 3, 4, 5, 6, 11, 12, 13, 14, 15, 16, 7, 8] rfl rfl rfl rfl rfl rfl rfl hl.1 (Nat.le_of_ble_eq_true rfl) ⟨Nat.zero_le _, Nat.zero_le _⟩ dX8_isle_8 (fun H locs hP hD hS => ?_)
  refine lv_istore_n (lv' := [(1, .int r_1), (0, .ref q_s)]) hx hb dX8_isle_11 rfl hl (by decide) rfl (fun ls hl => ?_)
  refine lv_aload_n hx hb dX8_isle_12 rfl (lv_at hl 1 rfl) ?_
  refine va_get (D := (dC, dI)) (ci := 6) (v := .ref q_tape) (C := RX8) (T := TX8) (N := 10) hx hb hts w_1 hown hK hP 0 rfl rfl 1 (by decide) w_0 (fun _ h9 => h9) rfl dX8_isle_13 ?_
  obtain ⟨tape_length_2, hc_2, h⟩ := bd1_of h
  refine cl_mVv (As := []) (rest := []) (ws' := (W_X cI cZ q_s q_rows q_tape q_land q_spare q_firstImage q_secondImage q_acts q_basket q_asks s_finding) ++ ((W_Tape cI cZ q_tape q_tape_bytes tape_bytes tape_length_2 tape_at_1 tape_number_1 tape_faultNumber_1) ++ ((W_Isle cI cZ q_land q_land_heights q_land_holders q_land_kinds q_land_purses q_land_homes land_told land_low land_high land_price land_hour land_bidders land_heights land_holders land_kinds land_purses land_homes) ++ ((W_Isle cI cZ q_spare q_spare_heights q_spare_holders q_spare_kinds q_spare_purses q_spare_homes spare_told_1 spare_low_1 spare_high_1 spare_price_1 spare_hour_1 spare_bidders_1 spare_heights_1 spare_holders_1 spare_kinds_1 spare_purses_1 spare_homes_1) ++ ((W_Acts cI cZ q_acts q_acts_saved acts_saved acts_next acts_kept)))))) (wr := (W_X cI cZ q_s q_rows q_tape q_land q_spare q_firstImage q_secondImage q_acts q_basket q_asks s_finding) ++ ((W_Isle cI cZ q_land q_land_heights q_land_holders q_land_kinds q_land_purses q_land_homes land_told land_low land_high land_price land_hour land_bidders land_heights land_holders land_kinds land_purses land_homes) ++ ((W_Isle cI cZ q_spare q_spare_heights q_spare_holders q_spare_kinds q_spare_purses q_spare_homes spare_told_1 spare_low_1 spare_high_1 spare_price_1 spare_hour_1 spare_bidders_1 spare_heights_1 spare_holders_1 spare_kinds_1 spare_purses_1 spare_homes_1) ++ ((W_Acts cI cZ q_acts q_acts_saved acts_saved acts_next acts_kept))))) ⟨hx, hb, hml, hown, hts⟩ (m_X7_empty l dC dI cI cZ q_tape q_tape_bytes tape_bytes tape_length tape_at_1 tape_number_1 tape_faultNumber_1 _ (tape_length_2) hc_2) (cwV 0 hts gX8_isle_X7_empty rfl rfl rfl ⟨rfl, ddX7_empty⟩ ⟨Nat.le_of_ble_eq_true rfl, Nat.le_of_ble_eq_true rfl⟩) hK hP hD hS hA [1, 2] [0, 3, 4, 5, 6, 7, 8, 9, 10, 11, 12, 13, 14, 15, 16] rfl rfl rfl rfl (by decide) [0, 15, 16, 1, 2, 3, 4, 5, 6, 7, 8, 9, 10, 11, 12, 13, 14] rfl rfl rfl rfl rfl rfl rfl hl.1 (Nat.le_of_ble_eq_true rfl) ⟨Nat.zero_le _, Nat.zero_le _⟩ dX8_isle_16 (fun H locs hP hD hS => ?_)
  refine lv_iload_n hx hb dX8_isle_19 rfl (lv_at hl 0 rfl) ?_
  refine lv_if_ne (tgt := 34) hx hb dX8_isle_20 (by decide) (fun c_3 => ?_) (fun c_3 => ?_)
  · have h := (if_neg c_3).symm.trans h
    refine lv_aload_n hx hb dX8_isle_34 rfl (lv_at hl 1 rfl) ?_
    refine va_get (D := (dC, dI)) (ci := 6) (v := .ref q_land) (C := RX8) (T := TX8) (N := 10) hx hb hts w_1 hown hK hP 0 rfl rfl 2 (by decide) w_3 (fun _ h9 => h9) rfl dX8_isle_35 ?_
    refine lv_aload_n hx hb dX8_isle_38 rfl (lv_at hl 1 rfl) ?_
    refine va_get (D := (dC, dI)) (ci := 6) (v := .ref q_spare) (C := RX8) (T := TX8) (N := 10) hx hb hts w_1 hown hK hP 0 rfl rfl 3 (by decide) w_2 (fun _ h9 => h9) rfl dX8_isle_39 ?_
    obtain ⟨land_told_4, land_low_4, land_high_4, land_price_4, land_hour_4, land_bidders_4, land_heights_4, land_holders_4, land_kinds_4, land_purses_4, land_homes_4, hc_4, h⟩ := bd11_of h
    refine cl_mVv (As := [.ref q_spare]) (rest := []) (ws' := (W_X cI cZ q_s q_rows q_tape q_land q_spare q_firstImage q_secondImage q_acts q_basket q_asks s_finding) ++ ((W_Tape cI cZ q_tape q_tape_bytes tape_bytes tape_length_2 tape_at_1 tape_number_1 tape_faultNumber_1) ++ ((W_Isle cI cZ q_land q_land_heights q_land_holders q_land_kinds q_land_purses q_land_homes land_told_4 land_low_4 land_high_4 land_price_4 land_hour_4 land_bidders_4 land_heights_4 land_holders_4 land_kinds_4 land_purses_4 land_homes_4) ++ ((W_Isle cI cZ q_spare q_spare_heights q_spare_holders q_spare_kinds q_spare_purses q_spare_homes spare_told_1 spare_low_1 spare_high_1 spare_price_1 spare_hour_1 spare_bidders_1 spare_heights_1 spare_holders_1 spare_kinds_1 spare_purses_1 spare_homes_1) ++ ((W_Acts cI cZ q_acts q_acts_saved acts_saved acts_next acts_kept)))))) (wr := (W_X cI cZ q_s q_rows q_tape q_land q_spare q_firstImage q_secondImage q_acts q_basket q_asks s_finding) ++ ((W_Tape cI cZ q_tape q_tape_bytes tape_bytes tape_length_2 tape_at_1 tape_number_1 tape_faultNumber_1) ++ ((W_Acts cI cZ q_acts q_acts_saved acts_saved acts_next acts_kept)))) ⟨hx, hb, hml, hown, hts⟩ (m_X3_become l dC dI cI cZ q_land q_land_heights q_land_holders q_land_kinds q_land_purses q_land_homes q_spare q_spare_heights q_spare_holders q_spare_kinds q_spare_purses q_spare_homes land_told land_low land_high land_price land_hour land_bidders land_heights land_holders land_kinds land_purses land_homes spare_told_1 spare_low_1 spare_high_1 spare_price_1 spare_hour_1 spare_bidders_1 spare_heights_1 spare_holders_1 spare_kinds_1 spare_purses_1 spare_homes_1 _ (land_told_4, land_low_4, land_high_4, land_price_4, land_hour_4, land_bidders_4, land_heights_4, land_holders_4, land_kinds_4, land_purses_4, land_homes_4) hc_4) (cwV 1 hts gX8_isle_X3_become rfl rfl rfl ⟨rfl, ddX3_become⟩ ⟨Nat.le_of_ble_eq_true rfl, Nat.le_of_ble_eq_true rfl⟩) hK hP hD hS hA [3, 4, 5, 6, 7, 8, 9, 10, 11, 12, 13, 14] [0, 1, 2, 15, 16] rfl rfl rfl rfl (by decide) [0, 1, 2, 5, 6, 7, 8, 9, 10, 11, 12, 13, 14, 15, 16, 3, 4] rfl rfl rfl rfl rfl rfl rfl hl.1 (Nat.le_of_ble_eq_true rfl) ⟨Nat.zero_le _, Nat.zero_le _⟩ dX8_isle_42 (fun H locs hP hD hS => ?_)
    refine lv_aload_n hx hb dX8_isle_45 rfl (lv_at hl 1 rfl) ?_
    refine va_get (D := (dC, dI)) (ci := 6) (v := .ref q_acts) (C := RX8) (T := TX8) (N := 10) hx hb hts w_1 hown hK hP 0 rfl rfl 6 (by decide) w_4 (fun _ h9 => h9) rfl dX8_isle_46 ?_
    obtain ⟨acts_kept_5, hc_5, h⟩ := bd1_of h
    refine cl_mVv (As := []) (rest := []) (ws' := (W_X cI cZ q_s q_rows q_tape q_land q_spare q_firstImage q_secondImage q_acts q_basket q_asks s_finding) ++ ((W_Tape cI cZ q_tape q_tape_bytes tape_bytes tape_length_2 tape_at_1 tape_number_1 tape_faultNumber_1) ++ ((W_Isle cI cZ q_land q_land_heights q_land_holders q_land_kinds q_land_purses q_land_homes land_told_4 land_low_4 land_high_4 land_price_4 land_hour_4 land_bidders_4 land_heights_4 land_holders_4 land_kinds_4 land_purses_4 land_homes_4) ++ ((W_Isle cI cZ q_spare q_spare_heights q_spare_holders q_spare_kinds q_spare_purses q_spare_homes spare_told_1 spare_low_1 spare_high_1 spare_price_1 spare_hour_1 spare_bidders_1 spare_heights_1 spare_holders_1 spare_kinds_1 spare_purses_1 spare_homes_1) ++ ((W_Acts cI cZ q_acts q_acts_saved acts_saved acts_next acts_kept_5)))))) (wr := (W_X cI cZ q_s q_rows q_tape q_land q_spare q_firstImage q_secondImage q_acts q_basket q_asks s_finding) ++ ((W_Tape cI cZ q_tape q_tape_bytes tape_bytes tape_length_2 tape_at_1 tape_number_1 tape_faultNumber_1) ++ ((W_Isle cI cZ q_land q_land_heights q_land_holders q_land_kinds q_land_purses q_land_homes land_told_4 land_low_4 land_high_4 land_price_4 land_hour_4 land_bidders_4 land_heights_4 land_holders_4 land_kinds_4 land_purses_4 land_homes_4) ++ ((W_Isle cI cZ q_spare q_spare_heights q_spare_holders q_spare_kinds q_spare_purses q_spare_homes spare_told_1 spare_low_1 spare_high_1 spare_price_1 spare_hour_1 spare_bidders_1 spare_heights_1 spare_holders_1 spare_kinds_1 spare_purses_1 spare_homes_1))))) ⟨hx, hb, hml, hown, hts⟩ (m_X0_forget l dC dI cI cZ q_acts q_acts_saved acts_saved acts_next acts_kept _ (acts_kept_5) hc_5) (cwV 0 hts gX8_isle_X0_forget rfl rfl rfl ⟨rfl, ddX0_forget⟩ ⟨Nat.le_of_ble_eq_true rfl, Nat.le_of_ble_eq_true rfl⟩) hK hP hD hS hA [15, 16] [0, 1, 2, 3, 4, 5, 6, 7, 8, 9, 10, 11, 12, 13, 14] rfl rfl rfl rfl (by decide) [0, 1, 2, 3, 4, 5, 6, 7, 8, 9, 10, 11, 12, 13, 14, 15, 16] rfl rfl rfl rfl rfl rfl rfl hl.1 (Nat.le_of_ble_eq_true rfl) ⟨Nat.zero_le _, Nat.zero_le _⟩ dX8_isle_49 (fun H locs hP hD hS => ?_)
    refine lv_aload_n hx hb dX8_isle_52 rfl (lv_at hl 1 rfl) ?_
    refine va_get (D := (dC, dI)) (ci := 6) (v := .ref q_land) (C := RX8) (T := TX8) (N := 10) hx hb hts w_1 hown hK hP 0 rfl rfl 2 (by decide) w_3 (fun _ h9 => h9) rfl dX8_isle_53 ?_
    obtain ⟨r_6, hc_6, h⟩ := bd1_of h
    refine cl_rV (As := []) (rest := []) ⟨hx, hb, hml, hown, hts⟩ (m_X3_bidders l dC dI cI cZ q_land q_land_heights q_land_holders q_land_kinds q_land_purses q_land_homes land_told_4 land_low_4 land_high_4 land_price_4 land_hour_4 land_bidders_4 land_heights_4 land_holders_4 land_kinds_4 land_purses_4 land_homes_4 (r_6) hc_6) (cwV 0 hts gX8_isle_X3_bidders rfl rfl rfl ⟨rfl, ddX3_bidders⟩ ⟨Nat.le_of_ble_eq_true rfl, Nat.le_of_ble_eq_true rfl⟩) hK hP [3, 4, 5, 6, 7, 8] rfl rfl rfl rfl rfl hl.1 (Nat.le_of_ble_eq_true rfl) ⟨Nat.zero_le _, Nat.zero_le _⟩ dX8_isle_56 ?_
    have h := Option.some.inj h
    subst h
    rw [hQQ]
    subst hAe
    exact W.iret (v := r_6) hx hb hr (fun t ht hW => ⟨⟨_, (), rfl, rfl, by rw [ht]; exact hP, va_K.moved hW.alike hK, hD⟩, hS.F ht⟩) hS.2.2 dX8_isle_59
  · have h := (if_pos c_3).symm.trans h
    refine lv_ldc hx hb hown w_5 dX8_isle_23 ?_
    refine lv_aload_n hx hb dX8_isle_25 rfl (lv_at hl 1 rfl) ?_
    refine va_get (D := (dC, dI)) (ci := 6) (v := .ref q_tape) (C := RX8) (T := TX8) (N := 10) hx hb hts w_1 hown hK hP 0 rfl rfl 1 (by decide) w_0 (fun _ h9 => h9) rfl dX8_isle_26 ?_
    obtain ⟨r_7, hc_7, h⟩ := bd1_of h
    refine cl_rV (As := []) (rest := [.int (-1000100)]) ⟨hx, hb, hml, hown, hts⟩ (m_X7_faultPlace l dC dI cI cZ q_tape q_tape_bytes tape_bytes tape_length_2 tape_at_1 tape_number_1 tape_faultNumber_1 (r_7) hc_7) (cwV 0 hts gX8_isle_X7_faultPlace rfl rfl rfl ⟨rfl, ddX7_faultPlace⟩ ⟨Nat.le_of_ble_eq_true rfl, Nat.le_of_ble_eq_true rfl⟩) hK hP [1, 2] rfl rfl rfl rfl rfl hl.1 (Nat.le_of_ble_eq_true rfl) ⟨Nat.zero_le _, Nat.zero_le _⟩ dX8_isle_29 ?_
    refine lv_isub hx hb dX8_isle_32 ?_
    have h := Option.some.inj h
    subst h
    rw [hQQ]
    subst hAe
    exact W.iret (v := ((-1000100) - r_7)) hx hb hr (fun t ht hW => ⟨⟨_, (), rfl, rfl, by rw [ht]; exact hP, va_K.moved hW.alike hK, hD⟩, hS.F ht⟩) hS.2.2 dX8_isle_33
def fX8_fault (tape_faultNumber : Int32) : Option (Int32) :=
  bd1 (fX7_faultNumber tape_faultNumber) (fun r_1 => some (r_1))
abbrev rmX8_fault : Room := { frames := 1, cells := 0, slots := 0, locals := 20 }
theorem ddX8_fault : yX8_fault.cls ≠ "java/lang/invoke/MethodHandle" ∧ yX8_fault.cls ≠ "java/lang/invoke/VarHandle" ∧ (parseMethodDescriptor yX8_fault.desc).map (fun d => d.parameters.length) = some 0 := by decide +kernel
set_option maxHeartbeats 4000000 in
set_option maxRecDepth 100000 in
theorem m_X8_fault (l : Launch) (dC : Nat → ClassId) (dI : Nat → Nat → Nat) (cI cZ : ClassId) (q_s q_rows q_tape q_land q_spare q_firstImage q_secondImage q_acts q_basket q_asks q_tape q_tape_bytes : Nat) (s_finding : Int32) (tape_bytes : (Nat → Int32)) (tape_length : Int32) (tape_at : Int32) (tape_number : Int32) (tape_faultNumber : Int32) (res : Int32) (hf : fX8_fault tape_faultNumber = some res) : Met l yX8_fault wsX8_fault rmX8_fault (rdPc (dC, dI) (tyZ cI cZ) ((W_X cI cZ q_s q_rows q_tape q_land q_spare q_firstImage q_secondImage q_acts q_basket q_asks s_finding) ++ ((W_Tape cI cZ q_tape q_tape_bytes tape_bytes tape_length tape_at tape_number tape_faultNumber))) [.ref q_s]) (rdQ res) 0 0 (fun _ => False) := by
  refine Met.ofW (cc := cX8_fault) (maxL := 1) (ret := (some .int)) (by decide) rfl ?_
  intro p e s m args below meth c s₁ B hml hv
  obtain ⟨rfl, hP, hK⟩ := hv
  have hx := B.exec
  have hb := B.bytes
  have hr := B.returns
  have hts := atoms_spec (ws := wsX8_fault) B.pre
  have hown : s.vm.findClass RX8 = some m.cls := findClass_of_methodNamed B.named
  have hlocks := B.notSynchronized
  have hl := lv_entry ([.ref q_s]) (n := 1) (Nat.le_of_ble_eq_true rfl)
  rw [lg_entry_eq]
  generalize (lg_sl ([.ref q_s]) ++ List.replicate (1 - (lg_sl ([.ref q_s])).length) Slot.unset).toArray = ls at hl ⊢
  have hl : lv_has ls 1 [(0, .ref q_s)] := hl
  obtain ⟨QQ, hQQ⟩ : ∃ Q, Q = MQ below (rdQ res) ([.ref q_s] : List Value).toArray s 0 0 (fun _ => False) := ⟨_, rfl⟩
  rw [← hQQ]
  have w_0 := hts (Cond.fieldLink RX8 19 "TideInches" "tape" "LTideInches$Tape;") (List.mem_of_getElem? (i := 1) rfl)
  have w_1 := (fun w hw => List.mem_cons_of_mem _ (List.mem_append_left _ (List.mem_append_right _ hw)) : ∀ w ∈ wsX80, w ∈ wsX8_fault)
  have h := hf
  unfold fX8_fault at h
  refine lv_aload_n hx hb dX8_fault_0 rfl (lv_at hl 0 rfl) ?_
  refine va_get (D := (dC, dI)) (ci := 6) (v := .ref q_tape) (C := RX8) (T := TX8) (N := 10) hx hb hts w_1 hown hK hP 0 rfl rfl 1 (by decide) w_0 (fun _ h9 => h9) rfl dX8_fault_1 ?_
  obtain ⟨r_1, hc_1, h⟩ := bd1_of h
  refine cl_rV (As := []) (rest := []) ⟨hx, hb, hml, hown, hts⟩ (m_X7_faultNumber l dC dI cI cZ q_tape q_tape_bytes tape_bytes tape_length tape_at tape_number tape_faultNumber (r_1) hc_1) (cwV 0 hts gX8_fault_X7_faultNumber rfl rfl rfl ⟨rfl, ddX7_faultNumber⟩ ⟨Nat.le_of_ble_eq_true rfl, Nat.le_of_ble_eq_true rfl⟩) hK hP [1, 2] rfl rfl rfl rfl rfl hl.1 (Nat.le_of_ble_eq_true rfl) ⟨Nat.zero_le _, Nat.zero_le _⟩ dX8_fault_4 ?_
  rw [hQQ]
  exact W.iret (v := r_1) hx hb hr (fun t ht hW => ⟨_, rfl, Option.some.inj h, ht⟩) (fun q hq => by cases hq) dX8_fault_7
def fX8_undo (land_hour : Int32) (land_heights : (Nat → Int32)) (land_holders : (Nat → Int32)) (land_purses : (Nat → Int32)) (acts_saved : (Nat → Int32)) (acts_next : Int32) (acts_kept : Int32) : Option (Int32 × Int32 × (Nat → Int32) × (Nat → Int32) × (Nat → Int32) × Int32 × Int32) :=
  bd1 (fX0_kept acts_kept) (fun r_1 => (if 1 ≤ r_1 then bd6 (fX0_takeBack acts_saved acts_next acts_kept land_heights land_holders land_purses) (fun acts_next_3 acts_kept_3 land_hour_3 land_heights_3 land_holders_3 land_purses_3 => bd1 (fX0_kept acts_kept_3) (fun r_4 => some (r_4, land_hour_3, land_heights_3, land_holders_3, land_purses_3, acts_next_3, acts_kept_3))) else some ((-1000002), land_hour, land_heights, land_holders, land_purses, acts_next, acts_kept)))
abbrev rmX8_undo : Room := { frames := 3, cells := 0, slots := 0, locals := 83 }
theorem ddX8_undo : yX8_undo.cls ≠ "java/lang/invoke/MethodHandle" ∧ yX8_undo.cls ≠ "java/lang/invoke/VarHandle" ∧ (parseMethodDescriptor yX8_undo.desc).map (fun d => d.parameters.length) = some 0 := by decide +kernel
set_option maxHeartbeats 4000000 in
set_option maxRecDepth 100000 in
theorem m_X8_undo (l : Launch) (dC : Nat → ClassId) (dI : Nat → Nat → Nat) (cI cZ : ClassId) (q_s q_rows q_tape q_land q_spare q_firstImage q_secondImage q_acts q_basket q_asks q_land q_land_heights q_land_holders q_land_kinds q_land_purses q_land_homes q_acts q_acts_saved : Nat) (s_finding : Int32) (land_told : Int32) (land_low : Int32) (land_high : Int32) (land_price : Int32) (land_hour : Int32) (land_bidders : Int32) (land_heights : (Nat → Int32)) (land_holders : (Nat → Int32)) (land_kinds : (Nat → Int32)) (land_purses : (Nat → Int32)) (land_homes : (Nat → Int32)) (acts_saved : (Nat → Int32)) (acts_next : Int32) (acts_kept : Int32) (sz : Nat) (res : Int32 × Int32 × (Nat → Int32) × (Nat → Int32) × (Nat → Int32) × Int32 × Int32) (hf : fX8_undo land_hour land_heights land_holders land_purses acts_saved acts_next acts_kept = some res) : Met l yX8_undo wsX8_undo rmX8_undo (mtPc (dC, dI) (tyZ cI cZ) ((W_X cI cZ q_s q_rows q_tape q_land q_spare q_firstImage q_secondImage q_acts q_basket q_asks s_finding) ++ ((W_Isle cI cZ q_land q_land_heights q_land_holders q_land_kinds q_land_purses q_land_homes land_told land_low land_high land_price land_hour land_bidders land_heights land_holders land_kinds land_purses land_homes) ++ ((W_Acts cI cZ q_acts q_acts_saved acts_saved acts_next acts_kept)))) [.ref q_s] sz) (mtQi (dC, dI) (tyZ cI cZ) ((W_X cI cZ q_s q_rows q_tape q_land q_spare q_firstImage q_secondImage q_acts q_basket q_asks s_finding) ++ ((W_Isle cI cZ q_land q_land_heights q_land_holders q_land_kinds q_land_purses q_land_homes land_told land_low land_high land_price land_hour land_bidders land_heights land_holders land_kinds land_purses land_homes) ++ ((W_Acts cI cZ q_acts q_acts_saved acts_saved acts_next acts_kept)))) ((W_X cI cZ q_s q_rows q_tape q_land q_spare q_firstImage q_secondImage q_acts q_basket q_asks s_finding) ++ ((W_Isle cI cZ q_land q_land_heights q_land_holders q_land_kinds q_land_purses q_land_homes land_told land_low land_high land_price res.2.1 land_bidders res.2.2.1 res.2.2.2.1 land_kinds res.2.2.2.2.1 land_homes) ++ ((W_Acts cI cZ q_acts q_acts_saved acts_saved res.2.2.2.2.2.1 res.2.2.2.2.2.2)))) res.1 sz) 0 0 (va_A ((W_X cI cZ q_s q_rows q_tape q_land q_spare q_firstImage q_secondImage q_acts q_basket q_asks s_finding) ++ ((W_Isle cI cZ q_land q_land_heights q_land_holders q_land_kinds q_land_purses q_land_homes land_told land_low land_high land_price land_hour land_bidders land_heights land_holders land_kinds land_purses land_homes) ++ ((W_Acts cI cZ q_acts q_acts_saved acts_saved acts_next acts_kept)))) sz) := by
  refine Met.ofW (cc := cX8_undo) (maxL := 1) (ret := (some .int)) (by decide) rfl ?_
  intro p e s m args below meth c s₁ B hml hv
  obtain ⟨rfl, hsz, hP, hK, hD0⟩ := hv
  have hx := B.exec
  have hb := B.bytes
  have hr := B.returns
  have hts := atoms_spec (ws := wsX8_undo) B.pre
  have hown : s.vm.findClass RX8 = some m.cls := findClass_of_methodNamed B.named
  have hlocks := B.notSynchronized
  subst hsz
  have hD := hD0.self (sz := s.heap.size)
  obtain ⟨A, hAe⟩ : ∃ A, A = va_A ((W_X cI cZ q_s q_rows q_tape q_land q_spare q_firstImage q_secondImage q_acts q_basket q_asks s_finding) ++ ((W_Isle cI cZ q_land q_land_heights q_land_holders q_land_kinds q_land_purses q_land_homes land_told land_low land_high land_price land_hour land_bidders land_heights land_holders land_kinds land_purses land_homes) ++ ((W_Acts cI cZ q_acts q_acts_saved acts_saved acts_next acts_kept)))) s.heap.size := ⟨_, rfl⟩
  rw [← hAe] at hD
  have hA : ∀ q : Nat, s.heap.size ≤ q → A q := fun q h => by rw [hAe]; exact Or.inr h
  have hS : va_S A s.heap s.heap [] := va_S.rf
  have hl := lv_entry ([.ref q_s]) (n := 1) (Nat.le_of_ble_eq_true rfl)
  rw [lg_entry_eq]
  generalize (lg_sl ([.ref q_s]) ++ List.replicate (1 - (lg_sl ([.ref q_s])).length) Slot.unset).toArray = ls at hl ⊢
  have hl : lv_has ls 1 [(0, .ref q_s)] := hl
  obtain ⟨QQ, hQQ⟩ : ∃ Q, Q = MQ below (mtQi (dC, dI) (tyZ cI cZ) ((W_X cI cZ q_s q_rows q_tape q_land q_spare q_firstImage q_secondImage q_acts q_basket q_asks s_finding) ++ ((W_Isle cI cZ q_land q_land_heights q_land_holders q_land_kinds q_land_purses q_land_homes land_told land_low land_high land_price land_hour land_bidders land_heights land_holders land_kinds land_purses land_homes) ++ ((W_Acts cI cZ q_acts q_acts_saved acts_saved acts_next acts_kept)))) ((W_X cI cZ q_s q_rows q_tape q_land q_spare q_firstImage q_secondImage q_acts q_basket q_asks s_finding) ++ ((W_Isle cI cZ q_land q_land_heights q_land_holders q_land_kinds q_land_purses q_land_homes land_told land_low land_high land_price res.2.1 land_bidders res.2.2.1 res.2.2.2.1 land_kinds res.2.2.2.2.1 land_homes) ++ ((W_Acts cI cZ q_acts q_acts_saved acts_saved res.2.2.2.2.2.1 res.2.2.2.2.2.2)))) res.1 s.heap.size) ([.ref q_s] : List Value).toArray s 0 0 (va_A ((W_X cI cZ q_s q_rows q_tape q_land q_spare q_firstImage q_secondImage q_acts q_basket q_asks s_finding) ++ ((W_Isle cI cZ q_land q_land_heights q_land_holders q_land_kinds q_land_purses q_land_homes land_told land_low land_high land_price land_hour land_bidders land_heights land_holders land_kinds land_purses land_homes) ++ ((W_Acts cI cZ q_acts q_acts_saved acts_saved acts_next acts_kept)))) s.heap.size) := ⟨_, rfl⟩
  rw [← hQQ]
  have w_0 := hts (Cond.fieldLink RX8 42 "TideInches" "acts" "LTideInches$Acts;") (List.mem_of_getElem? (i := 1) rfl)
  have w_1 := (fun w hw => List.mem_cons_of_mem _ (List.mem_append_left _ (List.mem_append_left _ (List.mem_append_right _ hw))) : ∀ w ∈ wsX80, w ∈ wsX8_undo)
  have w_2 := hts (Cond.fieldLink RX8 26 "TideInches" "land" "LTideInches$Isle;") (List.mem_of_getElem? (i := 3) rfl)
  have w_3 := hts (Cond.constant RX8 136 (-1000002)) (List.mem_of_getElem? (i := 2) rfl)
  have h := hf
  unfold fX8_undo at h
  refine lv_aload_n hx hb dX8_undo_0 rfl (lv_at hl 0 rfl) ?_
  refine va_get (D := (dC, dI)) (ci := 6) (v := .ref q_acts) (C := RX8) (T := TX8) (N := 10) hx hb hts w_1 hown hK hP 0 rfl rfl 6 (by decide) w_0 (fun _ h9 => h9) rfl dX8_undo_1 ?_
  obtain ⟨r_1, hc_1, h⟩ := bd1_of h
  refine cl_rV (As := []) (rest := []) ⟨hx, hb, hml, hown, hts⟩ (m_X0_kept l dC dI cI cZ q_acts q_acts_saved acts_saved acts_next acts_kept (r_1) hc_1) (cwV 0 hts gX8_undo_X0_kept rfl rfl rfl ⟨rfl, ddX0_kept⟩ ⟨Nat.le_of_ble_eq_true rfl, Nat.le_of_ble_eq_true rfl⟩) hK hP [7, 8] rfl rfl rfl rfl rfl hl.1 (Nat.le_of_ble_eq_true rfl) ⟨Nat.zero_le _, Nat.zero_le _⟩ dX8_undo_4 ?_
  refine lv_iconst (v := 1) hx hb dX8_undo_7 (by decide) ?_
  refine lv_icmp_ge (tgt := 14) hx hb dX8_undo_8 (by decide) (fun c_2 => ?_) (fun c_2 => ?_)
  · have h := (if_pos c_2).symm.trans h
    refine lv_aload_n hx hb dX8_undo_14 rfl (lv_at hl 0 rfl) ?_
    refine va_get (D := (dC, dI)) (ci := 6) (v := .ref q_acts) (C := RX8) (T := TX8) (N := 10) hx hb hts w_1 hown hK hP 0 rfl rfl 6 (by decide) w_0 (fun _ h9 => h9) rfl dX8_undo_15 ?_
    refine lv_aload_n hx hb dX8_undo_18 rfl (lv_at hl 0 rfl) ?_
    refine va_get (D := (dC, dI)) (ci := 6) (v := .ref q_land) (C := RX8) (T := TX8) (N := 10) hx hb hts w_1 hown hK hP 0 rfl rfl 2 (by decide) w_2 (fun _ h9 => h9) rfl dX8_undo_19 ?_
    obtain ⟨acts_next_3, acts_kept_3, land_hour_3, land_heights_3, land_holders_3, land_purses_3, hc_3, h⟩ := bd6_of h
    refine cl_mVv (As := [.ref q_land]) (rest := []) (ws' := (W_X cI cZ q_s q_rows q_tape q_land q_spare q_firstImage q_secondImage q_acts q_basket q_asks s_finding) ++ ((W_Isle cI cZ q_land q_land_heights q_land_holders q_land_kinds q_land_purses q_land_homes land_told land_low land_high land_price land_hour_3 land_bidders land_heights_3 land_holders_3 land_kinds land_purses_3 land_homes) ++ ((W_Acts cI cZ q_acts q_acts_saved acts_saved acts_next_3 acts_kept_3)))) (wr := (W_X cI cZ q_s q_rows q_tape q_land q_spare q_firstImage q_secondImage q_acts q_basket q_asks s_finding)) ⟨hx, hb, hml, hown, hts⟩ (m_X0_takeBack l dC dI cI cZ q_acts q_acts_saved q_land q_land_heights q_land_holders q_land_kinds q_land_purses q_land_homes acts_saved acts_next acts_kept land_told land_low land_high land_price land_hour land_bidders land_heights land_holders land_kinds land_purses land_homes _ (acts_next_3, acts_kept_3, land_hour_3, land_heights_3, land_holders_3, land_purses_3) hc_3) (cwV 1 hts gX8_undo_X0_takeBack rfl rfl rfl ⟨rfl, ddX0_takeBack⟩ ⟨Nat.le_of_ble_eq_true rfl, Nat.le_of_ble_eq_true rfl⟩) hK hP hD hS hA [7, 8, 1, 2, 3, 4, 5, 6] [0] rfl rfl rfl rfl (by decide) [0, 3, 4, 5, 6, 7, 8, 1, 2] rfl rfl rfl rfl rfl rfl rfl hl.1 (Nat.le_of_ble_eq_true rfl) ⟨Nat.zero_le _, Nat.zero_le _⟩ dX8_undo_22 (fun H locs hP hD hS => ?_)
    refine lv_aload_n hx hb dX8_undo_25 rfl (lv_at hl 0 rfl) ?_
    refine va_get (D := (dC, dI)) (ci := 6) (v := .ref q_acts) (C := RX8) (T := TX8) (N := 10) hx hb hts w_1 hown hK hP 0 rfl rfl 6 (by decide) w_0 (fun _ h9 => h9) rfl dX8_undo_26 ?_
    obtain ⟨r_4, hc_4, h⟩ := bd1_of h
    refine cl_rV (As := []) (rest := []) ⟨hx, hb, hml, hown, hts⟩ (m_X0_kept l dC dI cI cZ q_acts q_acts_saved acts_saved acts_next_3 acts_kept_3 (r_4) hc_4) (cwV 0 hts gX8_undo_X0_kept rfl rfl rfl ⟨rfl, ddX0_kept⟩ ⟨Nat.le_of_ble_eq_true rfl, Nat.le_of_ble_eq_true rfl⟩) hK hP [7, 8] rfl rfl rfl rfl rfl hl.1 (Nat.le_of_ble_eq_true rfl) ⟨Nat.zero_le _, Nat.zero_le _⟩ dX8_undo_29 ?_
    have h := Option.some.inj h
    subst h
    rw [hQQ]
    subst hAe
    exact W.iret (v := r_4) hx hb hr (fun t ht hW => ⟨⟨_, (), rfl, rfl, by rw [ht]; exact hP, va_K.moved hW.alike hK, hD⟩, hS.F ht⟩) hS.2.2 dX8_undo_32
  · have h := (if_neg c_2).symm.trans h
    refine lv_ldc hx hb hown w_3 dX8_undo_11 ?_
    have h := Option.some.inj h
    subst h
    rw [hQQ]
    subst hAe
    exact W.iret (v := (-1000002)) hx hb hr (fun t ht hW => ⟨⟨_, (), rfl, rfl, by rw [ht]; exact hP, va_K.moved hW.alike hK, hD⟩, hS.F ht⟩) hS.2.2 dX8_undo_13
def fX8_hours_L47 (land_low : Int32) (land_high : Int32) (land_heights : (Nat → Int32)) (land_kinds : (Nat → Int32)) (land_purses : (Nat → Int32)) (v1 : Int32) (k47_76 : Int32 → (Nat → Int32) → (Nat → Int32) → Int32 → Int32 → Option (Int32 × Int32 × (Nat → Int32) × (Nat → Int32) × Int32 × Int32)) : Nat → Int32 → Int32 → (Nat → Int32) → (Nat → Int32) → Int32 → Int32 → Option (Int32 × Int32 × (Nat → Int32) × (Nat → Int32) × Int32 × Int32)
  | 0, _, _, _, _, _, _ => none
  | n + 1, v2_h47, land_hour_h47, land_holders_h47, acts_saved_h47, acts_next_h47, acts_kept_h47 => (if v1 ≤ v2_h47 then (k47_76 land_hour_h47 land_holders_h47 acts_saved_h47 acts_next_h47 acts_kept_h47) else bd3 (fX0_keep acts_saved_h47 acts_next_h47 acts_kept_h47 land_hour_h47 land_heights land_holders_h47 land_purses) (fun acts_saved_8 acts_next_8 acts_kept_8 => bd2 (fX3_passHour land_low land_high land_hour_h47 land_heights land_holders_h47 land_kinds) (fun land_hour_9 land_holders_9 => ((fX8_hours_L47 land_low land_high land_heights land_kinds land_purses v1 k47_76 n) (v2_h47 + 1) land_hour_9 land_holders_9 acts_saved_8 acts_next_8 acts_kept_8))))
def fX8_hours (land_told : Int32) (land_low : Int32) (land_high : Int32) (land_hour : Int32) (land_heights : (Nat → Int32)) (land_holders : (Nat → Int32)) (land_kinds : (Nat → Int32)) (land_purses : (Nat → Int32)) (acts_saved : (Nat → Int32)) (acts_next : Int32) (acts_kept : Int32) (v1 : Int32) : Option (Int32 × Int32 × (Nat → Int32) × (Nat → Int32) × Int32 × Int32) :=
  bd1 (fX3_isTold land_told) (fun r_1 => (if r_1 = 0 then some ((-1000002), land_hour, land_holders, acts_saved, acts_next, acts_kept) else (if v1 < 1 then some ((-1000001), land_hour, land_holders, acts_saved, acts_next, acts_kept) else (if v1 ≤ 24 then bd1 (fX3_hour land_hour) (fun r_5 => (if (r_5 + v1) ≤ 999 then (fX8_hours_L47 land_low land_high land_heights land_kinds land_purses v1 (fun land_hour_e76 land_holders_e76 acts_saved_e76 acts_next_e76 acts_kept_e76 => bd1 (fX3_heldCells land_holders_e76) (fun r_10 => some (r_10, land_hour_e76, land_holders_e76, acts_saved_e76, acts_next_e76, acts_kept_e76))) FU 0 land_hour land_holders acts_saved acts_next acts_kept) else some ((-1000003), land_hour, land_holders, acts_saved, acts_next, acts_kept))) else some ((-1000001), land_hour, land_holders, acts_saved, acts_next, acts_kept)))))
abbrev rmX8_hours : Room := { frames := 3, cells := 0, slots := 0, locals := 83 }
theorem ddX8_hours : yX8_hours.cls ≠ "java/lang/invoke/MethodHandle" ∧ yX8_hours.cls ≠ "java/lang/invoke/VarHandle" ∧ (parseMethodDescriptor yX8_hours.desc).map (fun d => d.parameters.length) = some 1 := by decide +kernel
set_option maxHeartbeats 4000000 in
set_option maxRecDepth 100000 in
theorem m_X8_hours (l : Launch) (dC : Nat → ClassId) (dI : Nat → Nat → Nat) (cI cZ : ClassId) (q_s q_rows q_tape q_land q_spare q_firstImage q_secondImage q_acts q_basket q_asks q_land q_land_heights q_land_holders q_land_kinds q_land_purses q_land_homes q_acts q_acts_saved : Nat) (s_finding : Int32) (land_told : Int32) (land_low : Int32) (land_high : Int32) (land_price : Int32) (land_hour : Int32) (land_bidders : Int32) (land_heights : (Nat → Int32)) (land_holders : (Nat → Int32)) (land_kinds : (Nat → Int32)) (land_purses : (Nat → Int32)) (land_homes : (Nat → Int32)) (acts_saved : (Nat → Int32)) (acts_next : Int32) (acts_kept : Int32) (v1 : Int32) (sz : Nat) (res : Int32 × Int32 × (Nat → Int32) × (Nat → Int32) × Int32 × Int32) (hf : fX8_hours land_told land_low land_high land_hour land_heights land_holders land_kinds land_purses acts_saved acts_next acts_kept v1 = some res) : Met l yX8_hours wsX8_hours rmX8_hours (mtPc (dC, dI) (tyZ cI cZ) ((W_X cI cZ q_s q_rows q_tape q_land q_spare q_firstImage q_secondImage q_acts q_basket q_asks s_finding) ++ ((W_Isle cI cZ q_land q_land_heights q_land_holders q_land_kinds q_land_purses q_land_homes land_told land_low land_high land_price land_hour land_bidders land_heights land_holders land_kinds land_purses land_homes) ++ ((W_Acts cI cZ q_acts q_acts_saved acts_saved acts_next acts_kept)))) [.ref q_s, .int v1] sz) (mtQi (dC, dI) (tyZ cI cZ) ((W_X cI cZ q_s q_rows q_tape q_land q_spare q_firstImage q_secondImage q_acts q_basket q_asks s_finding) ++ ((W_Isle cI cZ q_land q_land_heights q_land_holders q_land_kinds q_land_purses q_land_homes land_told land_low land_high land_price land_hour land_bidders land_heights land_holders land_kinds land_purses land_homes) ++ ((W_Acts cI cZ q_acts q_acts_saved acts_saved acts_next acts_kept)))) ((W_X cI cZ q_s q_rows q_tape q_land q_spare q_firstImage q_secondImage q_acts q_basket q_asks s_finding) ++ ((W_Isle cI cZ q_land q_land_heights q_land_holders q_land_kinds q_land_purses q_land_homes land_told land_low land_high land_price res.2.1 land_bidders land_heights res.2.2.1 land_kinds land_purses land_homes) ++ ((W_Acts cI cZ q_acts q_acts_saved res.2.2.2.1 res.2.2.2.2.1 res.2.2.2.2.2)))) res.1 sz) 0 0 (va_A ((W_X cI cZ q_s q_rows q_tape q_land q_spare q_firstImage q_secondImage q_acts q_basket q_asks s_finding) ++ ((W_Isle cI cZ q_land q_land_heights q_land_holders q_land_kinds q_land_purses q_land_homes land_told land_low land_high land_price land_hour land_bidders land_heights land_holders land_kinds land_purses land_homes) ++ ((W_Acts cI cZ q_acts q_acts_saved acts_saved acts_next acts_kept)))) sz) := by
  refine Met.ofW (cc := cX8_hours) (maxL := 3) (ret := (some .int)) (by decide) rfl ?_
  intro p e s m args below meth c s₁ B hml hv
  obtain ⟨rfl, hsz, hP, hK, hD0⟩ := hv
  have hx := B.exec
  have hb := B.bytes
  have hr := B.returns
  have hts := atoms_spec (ws := wsX8_hours) B.pre
  have hown : s.vm.findClass RX8 = some m.cls := findClass_of_methodNamed B.named
  have hlocks := B.notSynchronized
  subst hsz
  have hD := hD0.self (sz := s.heap.size)
  obtain ⟨A, hAe⟩ : ∃ A, A = va_A ((W_X cI cZ q_s q_rows q_tape q_land q_spare q_firstImage q_secondImage q_acts q_basket q_asks s_finding) ++ ((W_Isle cI cZ q_land q_land_heights q_land_holders q_land_kinds q_land_purses q_land_homes land_told land_low land_high land_price land_hour land_bidders land_heights land_holders land_kinds land_purses land_homes) ++ ((W_Acts cI cZ q_acts q_acts_saved acts_saved acts_next acts_kept)))) s.heap.size := ⟨_, rfl⟩
  rw [← hAe] at hD
  have hA : ∀ q : Nat, s.heap.size ≤ q → A q := fun q h => by rw [hAe]; exact Or.inr h
  have hS : va_S A s.heap s.heap [] := va_S.rf
  have hl := lv_entry ([.ref q_s, .int v1]) (n := 3) (Nat.le_of_ble_eq_true rfl)
  rw [lg_entry_eq]
  generalize (lg_sl ([.ref q_s, .int v1]) ++ List.replicate (3 - (lg_sl ([.ref q_s, .int v1])).length) Slot.unset).toArray = ls at hl ⊢
  have hl : lv_has ls 3 [(0, .ref q_s), (1, .int v1)] := hl
  obtain ⟨QQ, hQQ⟩ : ∃ Q, Q = MQ below (mtQi (dC, dI) (tyZ cI cZ) ((W_X cI cZ q_s q_rows q_tape q_land q_spare q_firstImage q_secondImage q_acts q_basket q_asks s_finding) ++ ((W_Isle cI cZ q_land q_land_heights q_land_holders q_land_kinds q_land_purses q_land_homes land_told land_low land_high land_price land_hour land_bidders land_heights land_holders land_kinds land_purses land_homes) ++ ((W_Acts cI cZ q_acts q_acts_saved acts_saved acts_next acts_kept)))) ((W_X cI cZ q_s q_rows q_tape q_land q_spare q_firstImage q_secondImage q_acts q_basket q_asks s_finding) ++ ((W_Isle cI cZ q_land q_land_heights q_land_holders q_land_kinds q_land_purses q_land_homes land_told land_low land_high land_price res.2.1 land_bidders land_heights res.2.2.1 land_kinds land_purses land_homes) ++ ((W_Acts cI cZ q_acts q_acts_saved res.2.2.2.1 res.2.2.2.2.1 res.2.2.2.2.2)))) res.1 s.heap.size) ([.ref q_s, .int v1] : List Value).toArray s 0 0 (va_A ((W_X cI cZ q_s q_rows q_tape q_land q_spare q_firstImage q_secondImage q_acts q_basket q_asks s_finding) ++ ((W_Isle cI cZ q_land q_land_heights q_land_holders q_land_kinds q_land_purses q_land_homes land_told land_low land_high land_price land_hour land_bidders land_heights land_holders land_kinds land_purses land_homes) ++ ((W_Acts cI cZ q_acts q_acts_saved acts_saved acts_next acts_kept)))) s.heap.size) := ⟨_, rfl⟩
  rw [← hQQ]
  have w_0 := hts (Cond.fieldLink RX8 26 "TideInches" "land" "LTideInches$Isle;") (List.mem_of_getElem? (i := 1) rfl)
  have w_1 := (fun w hw => List.mem_cons_of_mem _ (List.mem_append_left _ (List.mem_append_left _ (List.mem_append_right _ hw))) : ∀ w ∈ wsX80, w ∈ wsX8_hours)
  have w_2 := hts (Cond.constant RX8 68 (-1000001)) (List.mem_of_getElem? (i := 3) rfl)
  have w_3 := hts (Cond.fieldLink RX8 42 "TideInches" "acts" "LTideInches$Acts;") (List.mem_of_getElem? (i := 5) rfl)
  have w_4 := hts (Cond.constant RX8 108 (-1000003)) (List.mem_of_getElem? (i := 4) rfl)
  have w_5 := hts (Cond.constant RX8 136 (-1000002)) (List.mem_of_getElem? (i := 2) rfl)
  have h := hf
  unfold fX8_hours at h
  refine lv_aload_n hx hb dX8_hours_0 rfl (lv_at hl 0 rfl) ?_
  refine va_get (D := (dC, dI)) (ci := 6) (v := .ref q_land) (C := RX8) (T := TX8) (N := 10) hx hb hts w_1 hown hK hP 0 rfl rfl 2 (by decide) w_0 (fun _ h9 => h9) rfl dX8_hours_1 ?_
  obtain ⟨r_1, hc_1, h⟩ := bd1_of h
  refine cl_rV (As := []) (rest := []) ⟨hx, hb, hml, hown, hts⟩ (m_X3_isTold l dC dI cI cZ q_land q_land_heights q_land_holders q_land_kinds q_land_purses q_land_homes land_told land_low land_high land_price land_hour land_bidders land_heights land_holders land_kinds land_purses land_homes (r_1) hc_1) (cwV 0 hts gX8_hours_X3_isTold rfl rfl rfl ⟨rfl, ddX3_isTold⟩ ⟨Nat.le_of_ble_eq_true rfl, Nat.le_of_ble_eq_true rfl⟩) hK hP [1, 2, 3, 4, 5, 6] rfl rfl rfl rfl rfl hl.1 (Nat.le_of_ble_eq_true rfl) ⟨Nat.zero_le _, Nat.zero_le _⟩ dX8_hours_4 ?_
  refine lv_if_ne (tgt := 13) hx hb dX8_hours_7 (by decide) (fun c_2 => ?_) (fun c_2 => ?_)
  · have h := (if_neg c_2).symm.trans h
    refine lv_iload_n hx hb dX8_hours_13 rfl (lv_at hl 1 rfl) ?_
    refine lv_iconst (v := 1) hx hb dX8_hours_14 (by decide) ?_
    refine lv_icmp_lt (tgt := 24) hx hb dX8_hours_15 (by decide) (fun c_3 => ?_) (fun c_3 => ?_)
    · have h := (if_pos c_3).symm.trans h
      refine lv_ldc hx hb hown w_2 dX8_hours_24 ?_
      have h := Option.some.inj h
      subst h
      rw [hQQ]
      subst hAe
      exact W.iret (v := (-1000001)) hx hb hr (fun t ht hW => ⟨⟨_, (), rfl, rfl, by rw [ht]; exact hP, va_K.moved hW.alike hK, hD⟩, hS.F ht⟩) hS.2.2 dX8_hours_26
    · have h := (if_neg c_3).symm.trans h
      refine lv_iload_n hx hb dX8_hours_18 rfl (lv_at hl 1 rfl) ?_
      refine lv_bipush (v := 24) hx hb dX8_hours_19 (by decide) ?_
      refine lv_icmp_le (tgt := 27) hx hb dX8_hours_21 (by decide) (fun c_4 => ?_) (fun c_4 => ?_)
      · have h := (if_pos c_4).symm.trans h
        refine lv_aload_n hx hb dX8_hours_27 rfl (lv_at hl 0 rfl) ?_
        refine va_get (D := (dC, dI)) (ci := 6) (v := .ref q_land) (C := RX8) (T := TX8) (N := 10) hx hb hts w_1 hown hK hP 0 rfl rfl 2 (by decide) w_0 (fun _ h9 => h9) rfl dX8_hours_28 ?_
        obtain ⟨r_5, hc_5, h⟩ := bd1_of h
        refine cl_rV (As := []) (rest := []) ⟨hx, hb, hml, hown, hts⟩ (m_X3_hour l dC dI cI cZ q_land q_land_heights q_land_holders q_land_kinds q_land_purses q_land_homes land_told land_low land_high land_price land_hour land_bidders land_heights land_holders land_kinds land_purses land_homes (r_5) hc_5) (cwV 0 hts gX8_hours_X3_hour rfl rfl rfl ⟨rfl, ddX3_hour⟩ ⟨Nat.le_of_ble_eq_true rfl, Nat.le_of_ble_eq_true rfl⟩) hK hP [1, 2, 3, 4, 5, 6] rfl rfl rfl rfl rfl hl.1 (Nat.le_of_ble_eq_true rfl) ⟨Nat.zero_le _, Nat.zero_le _⟩ dX8_hours_31 ?_
        refine lv_iload_n hx hb dX8_hours_34 rfl (lv_at hl 1 rfl) ?_
        refine lv_iadd hx hb dX8_hours_35 ?_
        refine lv_sipush (v := 999) hx hb dX8_hours_36 (by decide) ?_
        refine lv_icmp_le (tgt := 45) hx hb dX8_hours_39 (by decide) (fun c_6 => ?_) (fun c_6 => ?_)
        · have h := (if_pos c_6).symm.trans h
          refine lv_iconst (v := 0) hx hb dX8_hours_45 (by decide) ?_
          refine lv_istore_n (lv' := [(2, .int 0), (0, .ref q_s), (1, .int v1)]) hx hb dX8_hours_46 rfl hl (by decide) rfl (fun ls hl => ?_)
          have KL47 : ∀ (k47_76 : Int32 → (Nat → Int32) → (Nat → Int32) → Int32 → Int32 → Option (Int32 × Int32 × (Nat → Int32) × (Nat → Int32) × Int32 × Int32)) , (∀ (land_hour_e76 : Int32) (land_holders_e76 : (Nat → Int32)) (acts_saved_e76 : (Nat → Int32)) (acts_next_e76 : Int32) (acts_kept_e76 : Int32) (H : Heap) (locs : List Loc) (ls : Array Slot), va_P (dC, dI) vwCl ((W_X cI cZ q_s q_rows q_tape q_land q_spare q_firstImage q_secondImage q_acts q_basket q_asks s_finding) ++ ((W_Isle cI cZ q_land q_land_heights q_land_holders q_land_kinds q_land_purses q_land_homes land_told land_low land_high land_price land_hour_e76 land_bidders land_heights land_holders_e76 land_kinds land_purses land_homes) ++ ((W_Acts cI cZ q_acts q_acts_saved acts_saved_e76 acts_next_e76 acts_kept_e76)))) H → va_D A ((W_X cI cZ q_s q_rows q_tape q_land q_spare q_firstImage q_secondImage q_acts q_basket q_asks s_finding) ++ ((W_Isle cI cZ q_land q_land_heights q_land_holders q_land_kinds q_land_purses q_land_homes land_told land_low land_high land_price land_hour_e76 land_bidders land_heights land_holders_e76 land_kinds land_purses land_homes) ++ ((W_Acts cI cZ q_acts q_acts_saved acts_saved_e76 acts_next_e76 acts_kept_e76)))) → va_S A s.heap H locs → lv_has ls 3 [(0, .ref q_s)] → k47_76 land_hour_e76 land_holders_e76 acts_saved_e76 acts_next_e76 acts_kept_e76 = some res → W p l e (headSpec wsX8_hours rmX8_hours).room s m ([.ref q_s, .int v1] : List Value).toArray below meth c H locs 0 0 QQ (F0 m 76 ls [])) → ∀ (n : Nat) (v2_h47 : Int32) (land_hour_h47 : Int32) (land_holders_h47 : (Nat → Int32)) (acts_saved_h47 : (Nat → Int32)) (acts_next_h47 : Int32) (acts_kept_h47 : Int32) (H : Heap) (locs : List Loc) (ls : Array Slot), va_P (dC, dI) vwCl ((W_X cI cZ q_s q_rows q_tape q_land q_spare q_firstImage q_secondImage q_acts q_basket q_asks s_finding) ++ ((W_Isle cI cZ q_land q_land_heights q_land_holders q_land_kinds q_land_purses q_land_homes land_told land_low land_high land_price land_hour_h47 land_bidders land_heights land_holders_h47 land_kinds land_purses land_homes) ++ ((W_Acts cI cZ q_acts q_acts_saved acts_saved_h47 acts_next_h47 acts_kept_h47)))) H → va_D A ((W_X cI cZ q_s q_rows q_tape q_land q_spare q_firstImage q_secondImage q_acts q_basket q_asks s_finding) ++ ((W_Isle cI cZ q_land q_land_heights q_land_holders q_land_kinds q_land_purses q_land_homes land_told land_low land_high land_price land_hour_h47 land_bidders land_heights land_holders_h47 land_kinds land_purses land_homes) ++ ((W_Acts cI cZ q_acts q_acts_saved acts_saved_h47 acts_next_h47 acts_kept_h47)))) → va_S A s.heap H locs → lv_has ls 3 [(0, .ref q_s), (1, .int v1), (2, .int v2_h47)] → fX8_hours_L47 land_low land_high land_heights land_kinds land_purses v1 k47_76 n v2_h47 land_hour_h47 land_holders_h47 acts_saved_h47 acts_next_h47 acts_kept_h47 = some res → W p l e (headSpec wsX8_hours rmX8_hours).room s m ([.ref q_s, .int v1] : List Value).toArray below meth c H locs 0 0 QQ (F0 m 47 ls []) := by
            intro k47_76 Kk47_76 n
            induction n with
            | zero => intro v2_h47 land_hour_h47 land_holders_h47 acts_saved_h47 acts_next_h47 acts_kept_h47 H locs ls hP hD hS hl h; rw [fX8_hours_L47.eq_1] at h; cases h
            | succ n ih =>
              intro v2_h47 land_hour_h47 land_holders_h47 acts_saved_h47 acts_next_h47 acts_kept_h47 H locs ls hP hD hS hl h
              rw [fX8_hours_L47.eq_2] at h
              refine lv_iload_n hx hb dX8_hours_47 rfl (lv_at hl 2 rfl) ?_
              refine lv_iload_n hx hb dX8_hours_48 rfl (lv_at hl 1 rfl) ?_
              refine lv_icmp_ge (tgt := 76) hx hb dX8_hours_49 (by decide) (fun c_7 => ?_) (fun c_7 => ?_)
              · have h := (if_pos c_7).symm.trans h
                exact Kk47_76 land_hour_h47 land_holders_h47 acts_saved_h47 acts_next_h47 acts_kept_h47 _ _ _ hP hD hS (lv_sub hl [0] rfl) h
              · have h := (if_neg c_7).symm.trans h
                refine lv_aload_n hx hb dX8_hours_52 rfl (lv_at hl 0 rfl) ?_
                refine va_get (D := (dC, dI)) (ci := 6) (v := .ref q_acts) (C := RX8) (T := TX8) (N := 10) hx hb hts w_1 hown hK hP 0 rfl rfl 6 (by decide) w_3 (fun _ h9 => h9) rfl dX8_hours_53 ?_
                refine lv_aload_n hx hb dX8_hours_56 rfl (lv_at hl 0 rfl) ?_
                refine va_get (D := (dC, dI)) (ci := 6) (v := .ref q_land) (C := RX8) (T := TX8) (N := 10) hx hb hts w_1 hown hK hP 0 rfl rfl 2 (by decide) w_0 (fun _ h9 => h9) rfl dX8_hours_57 ?_
                obtain ⟨acts_saved_8, acts_next_8, acts_kept_8, hc_8, h⟩ := bd3_of h
                refine cl_mVv (As := [.ref q_land]) (rest := []) (ws' := (W_X cI cZ q_s q_rows q_tape q_land q_spare q_firstImage q_secondImage q_acts q_basket q_asks s_finding) ++ ((W_Isle cI cZ q_land q_land_heights q_land_holders q_land_kinds q_land_purses q_land_homes land_told land_low land_high land_price land_hour_h47 land_bidders land_heights land_holders_h47 land_kinds land_purses land_homes) ++ ((W_Acts cI cZ q_acts q_acts_saved acts_saved_8 acts_next_8 acts_kept_8)))) (wr := (W_X cI cZ q_s q_rows q_tape q_land q_spare q_firstImage q_secondImage q_acts q_basket q_asks s_finding)) ⟨hx, hb, hml, hown, hts⟩ (m_X0_keep l dC dI cI cZ q_acts q_acts_saved q_land q_land_heights q_land_holders q_land_kinds q_land_purses q_land_homes acts_saved_h47 acts_next_h47 acts_kept_h47 land_told land_low land_high land_price land_hour_h47 land_bidders land_heights land_holders_h47 land_kinds land_purses land_homes _ (acts_saved_8, acts_next_8, acts_kept_8) hc_8) (cwV 1 hts gX8_hours_X0_keep rfl rfl rfl ⟨rfl, ddX0_keep⟩ ⟨Nat.le_of_ble_eq_true rfl, Nat.le_of_ble_eq_true rfl⟩) hK hP hD hS hA [7, 8, 1, 2, 3, 4, 5, 6] [0] rfl rfl rfl rfl (by decide) [0, 3, 4, 5, 6, 7, 8, 1, 2] rfl rfl rfl rfl rfl rfl rfl hl.1 (Nat.le_of_ble_eq_true rfl) ⟨Nat.zero_le _, Nat.zero_le _⟩ dX8_hours_60 (fun H locs hP hD hS => ?_)
                refine lv_aload_n hx hb dX8_hours_63 rfl (lv_at hl 0 rfl) ?_
                refine va_get (D := (dC, dI)) (ci := 6) (v := .ref q_land) (C := RX8) (T := TX8) (N := 10) hx hb hts w_1 hown hK hP 0 rfl rfl 2 (by decide) w_0 (fun _ h9 => h9) rfl dX8_hours_64 ?_
                obtain ⟨land_hour_9, land_holders_9, hc_9, h⟩ := bd2_of h
                refine cl_mVv (As := []) (rest := []) (ws' := (W_X cI cZ q_s q_rows q_tape q_land q_spare q_firstImage q_secondImage q_acts q_basket q_asks s_finding) ++ ((W_Isle cI cZ q_land q_land_heights q_land_holders q_land_kinds q_land_purses q_land_homes land_told land_low land_high land_price land_hour_9 land_bidders land_heights land_holders_9 land_kinds land_purses land_homes) ++ ((W_Acts cI cZ q_acts q_acts_saved acts_saved_8 acts_next_8 acts_kept_8)))) (wr := (W_X cI cZ q_s q_rows q_tape q_land q_spare q_firstImage q_secondImage q_acts q_basket q_asks s_finding) ++ ((W_Acts cI cZ q_acts q_acts_saved acts_saved_8 acts_next_8 acts_kept_8))) ⟨hx, hb, hml, hown, hts⟩ (m_X3_passHour l dC dI cI cZ q_land q_land_heights q_land_holders q_land_kinds q_land_purses q_land_homes land_told land_low land_high land_price land_hour_h47 land_bidders land_heights land_holders_h47 land_kinds land_purses land_homes _ (land_hour_9, land_holders_9) hc_9) (cwV 0 hts gX8_hours_X3_passHour rfl rfl rfl ⟨rfl, ddX3_passHour⟩ ⟨Nat.le_of_ble_eq_true rfl, Nat.le_of_ble_eq_true rfl⟩) hK hP hD hS hA [1, 2, 3, 4, 5, 6] [0, 7, 8] rfl rfl rfl rfl (by decide) [0, 3, 4, 5, 6, 7, 8, 1, 2] rfl rfl rfl rfl rfl rfl rfl hl.1 (Nat.le_of_ble_eq_true rfl) ⟨Nat.zero_le _, Nat.zero_le _⟩ dX8_hours_67 (fun H locs hP hD hS => ?_)
                refine lv_iinc (v := (v2_h47 + 1)) (lv' := [(2, .int (v2_h47 + 1)), (0, .ref q_s), (1, .int v1)]) hx hb dX8_hours_70 hl (k := 2) rfl rfl (by decide) rfl (fun ls hl => ?_)
                refine lv_goto (tgt := 47) hx hb dX8_hours_73 (by decide) ?_
                exact ih (v2_h47 + 1) land_hour_9 land_holders_9 acts_saved_8 acts_next_8 acts_kept_8 _ _ _ hP hD hS (lv_sub hl [1, 2, 0] rfl) h
          refine KL47 _ (fun land_hour_e76 land_holders_e76 acts_saved_e76 acts_next_e76 acts_kept_e76 H locs ls hP hD hS hl h => ?_) FU 0 land_hour land_holders acts_saved acts_next acts_kept _ _ _ hP hD hS (lv_sub hl [1, 2, 0] rfl) h
          refine lv_aload_n hx hb dX8_hours_76 rfl (lv_at hl 0 rfl) ?_
          refine va_get (D := (dC, dI)) (ci := 6) (v := .ref q_land) (C := RX8) (T := TX8) (N := 10) hx hb hts w_1 hown hK hP 0 rfl rfl 2 (by decide) w_0 (fun _ h9 => h9) rfl dX8_hours_77 ?_
          obtain ⟨r_10, hc_10, h⟩ := bd1_of h
          refine cl_rV (As := []) (rest := []) ⟨hx, hb, hml, hown, hts⟩ (m_X3_heldCells l dC dI cI cZ q_land q_land_heights q_land_holders q_land_kinds q_land_purses q_land_homes land_told land_low land_high land_price land_hour_e76 land_bidders land_heights land_holders_e76 land_kinds land_purses land_homes (r_10) hc_10) (cwV 0 hts gX8_hours_X3_heldCells rfl rfl rfl ⟨rfl, ddX3_heldCells⟩ ⟨Nat.le_of_ble_eq_true rfl, Nat.le_of_ble_eq_true rfl⟩) hK hP [1, 2, 3, 4, 5, 6] rfl rfl rfl rfl rfl hl.1 (Nat.le_of_ble_eq_true rfl) ⟨Nat.zero_le _, Nat.zero_le _⟩ dX8_hours_80 ?_
          have h := Option.some.inj h
          subst h
          rw [hQQ]
          subst hAe
          exact W.iret (v := r_10) hx hb hr (fun t ht hW => ⟨⟨_, (), rfl, rfl, by rw [ht]; exact hP, va_K.moved hW.alike hK, hD⟩, hS.F ht⟩) hS.2.2 dX8_hours_83
        · have h := (if_neg c_6).symm.trans h
          refine lv_ldc hx hb hown w_4 dX8_hours_42 ?_
          have h := Option.some.inj h
          subst h
          rw [hQQ]
          subst hAe
          exact W.iret (v := (-1000003)) hx hb hr (fun t ht hW => ⟨⟨_, (), rfl, rfl, by rw [ht]; exact hP, va_K.moved hW.alike hK, hD⟩, hS.F ht⟩) hS.2.2 dX8_hours_44
      · have h := (if_neg c_4).symm.trans h
        refine lv_ldc hx hb hown w_2 dX8_hours_24 ?_
        have h := Option.some.inj h
        subst h
        rw [hQQ]
        subst hAe
        exact W.iret (v := (-1000001)) hx hb hr (fun t ht hW => ⟨⟨_, (), rfl, rfl, by rw [ht]; exact hP, va_K.moved hW.alike hK, hD⟩, hS.F ht⟩) hS.2.2 dX8_hours_26
  · have h := (if_pos c_2).symm.trans h
    refine lv_ldc hx hb hown w_5 dX8_hours_10 ?_
    have h := Option.some.inj h
    subst h
    rw [hQQ]
    subst hAe
    exact W.iret (v := (-1000002)) hx hb hr (fun t ht hW => ⟨⟨_, (), rfl, rfl, by rw [ht]; exact hP, va_K.moved hW.alike hK, hD⟩, hS.F ht⟩) hS.2.2 dX8_hours_12
def fX8_isCell (v0 : Int32) : Option (Int32) :=
  (if v0 < 0 then some (0) else (if 15 ≤ v0 then some (0) else some (1)))
abbrev rmX8_isCell : Room := { frames := 0, cells := 0, slots := 0, locals := 0 }
theorem ddX8_isCell : yX8_isCell.cls ≠ "java/lang/invoke/MethodHandle" ∧ yX8_isCell.cls ≠ "java/lang/invoke/VarHandle" ∧ (parseMethodDescriptor yX8_isCell.desc).map (fun d => d.parameters.length) = some 1 := by decide +kernel
set_option maxHeartbeats 4000000 in
set_option maxRecDepth 100000 in
theorem m_X8_isCell (l : Launch) (v0 : Int32) (res : Int32) (hf : fX8_isCell v0 = some res) : Met l yX8_isCell wsX8_isCell rmX8_isCell (psPc [.int v0]) (rdQ res) 0 0 (fun _ => False) := by
  refine Met.ofW (cc := cX8_isCell) (maxL := 1) (ret := (some .boolean)) (by decide) rfl ?_
  intro p e s m args below meth c s₁ B hml hv
  obtain rfl := hv
  have hx := B.exec
  have hb := B.bytes
  have hr := B.returns
  have hts := atoms_spec (ws := wsX8_isCell) B.pre
  have hown : s.vm.findClass RX8 = some m.cls := findClass_of_methodNamed B.named
  have hlocks := B.notSynchronized
  have hl := lv_entry ([.int v0]) (n := 1) (Nat.le_of_ble_eq_true rfl)
  rw [lg_entry_eq]
  generalize (lg_sl ([.int v0]) ++ List.replicate (1 - (lg_sl ([.int v0])).length) Slot.unset).toArray = ls at hl ⊢
  have hl : lv_has ls 1 [(0, .int v0)] := hl
  obtain ⟨QQ, hQQ⟩ : ∃ Q, Q = MQ below (rdQ res) ([.int v0] : List Value).toArray s 0 0 (fun _ => False) := ⟨_, rfl⟩
  rw [← hQQ]
  have h := hf
  unfold fX8_isCell at h
  refine lv_iload_n hx hb dX8_isCell_0 rfl (lv_at hl 0 rfl) ?_
  refine lv_if_lt (tgt := 14) hx hb dX8_isCell_1 (by decide) (fun c_1 => ?_) (fun c_1 => ?_)
  · have h := (if_pos c_1).symm.trans h
    refine lv_iconst (v := 0) hx hb dX8_isCell_14 (by decide) ?_
    rw [hQQ]
    exact W.zret (v := 0) (ty := .boolean) hx hb hr rfl (fun t ht hW => ⟨_, rfl, Option.some.inj h, ht⟩) (fun q hq => by cases hq) dX8_isCell_15
  · have h := (if_neg c_1).symm.trans h
    refine lv_iload_n hx hb dX8_isCell_4 rfl (lv_at hl 0 rfl) ?_
    refine lv_bipush (v := 15) hx hb dX8_isCell_5 (by decide) ?_
    refine lv_icmp_ge (tgt := 14) hx hb dX8_isCell_7 (by decide) (fun c_2 => ?_) (fun c_2 => ?_)
    · have h := (if_pos c_2).symm.trans h
      refine lv_iconst (v := 0) hx hb dX8_isCell_14 (by decide) ?_
      rw [hQQ]
      exact W.zret (v := 0) (ty := .boolean) hx hb hr rfl (fun t ht hW => ⟨_, rfl, Option.some.inj h, ht⟩) (fun q hq => by cases hq) dX8_isCell_15
    · have h := (if_neg c_2).symm.trans h
      refine lv_iconst (v := 1) hx hb dX8_isCell_10 (by decide) ?_
      refine lv_goto (tgt := 15) hx hb dX8_isCell_11 (by decide) ?_
      rw [hQQ]
      exact W.zret (v := 1) (ty := .boolean) hx hb hr rfl (fun t ht hW => ⟨_, rfl, Option.some.inj h, ht⟩) (fun q hq => by cases hq) dX8_isCell_15
def fX8_bid (land_low : Int32) (land_high : Int32) (land_price : Int32) (land_hour : Int32) (land_bidders : Int32) (land_heights : (Nat → Int32)) (land_holders : (Nat → Int32)) (land_kinds : (Nat → Int32)) (land_purses : (Nat → Int32)) (acts_saved : (Nat → Int32)) (acts_next : Int32) (acts_kept : Int32) (v1 : Int32) (v2 : Int32) : Option (Int32 × (Nat → Int32) × (Nat → Int32) × (Nat → Int32) × Int32 × Int32) :=
  bd1 (fX3_hasBidder land_bidders v1) (fun r_1 => (if r_1 = 0 then some ((-1000001), land_holders, land_purses, acts_saved, acts_next, acts_kept) else bd1 (fX8_isCell v2) (fun r_3 => (if r_3 = 0 then some ((-1000001), land_holders, land_purses, acts_saved, acts_next, acts_kept) else bd1 (fX3_isHeld land_holders v2) (fun r_5 => (if r_5 = 0 then bd1 (fX3_canHave land_low land_high land_hour land_heights land_kinds v1 v2) (fun r_7 => (if r_7 = 0 then some ((-1000002), land_holders, land_purses, acts_saved, acts_next, acts_kept) else bd1 (fX3_purse land_purses v1) (fun r_9 => bd1 (fX3_costTo land_price land_heights land_kinds v1 v2) (fun r_10 => (if r_10 ≤ r_9 then bd3 (fX0_keep acts_saved acts_next acts_kept land_hour land_heights land_holders land_purses) (fun acts_saved_12 acts_next_12 acts_kept_12 => bd2 (fX3_sell land_price land_heights land_holders land_kinds land_purses v1 v2) (fun land_holders_13 land_purses_13 => bd1 (fX3_purse land_purses_13 v1) (fun r_14 => some (r_14, land_holders_13, land_purses_13, acts_saved_12, acts_next_12, acts_kept_12)))) else some ((-1000003), land_holders, land_purses, acts_saved, acts_next, acts_kept)))))) else some ((-1000002), land_holders, land_purses, acts_saved, acts_next, acts_kept)))))))
abbrev rmX8_bid : Room := { frames := 4, cells := 0, slots := 0, locals := 88 }
theorem ddX8_bid : yX8_bid.cls ≠ "java/lang/invoke/MethodHandle" ∧ yX8_bid.cls ≠ "java/lang/invoke/VarHandle" ∧ (parseMethodDescriptor yX8_bid.desc).map (fun d => d.parameters.length) = some 2 := by decide +kernel
set_option maxHeartbeats 4000000 in
set_option maxRecDepth 100000 in
theorem m_X8_bid (l : Launch) (dC : Nat → ClassId) (dI : Nat → Nat → Nat) (cI cZ : ClassId) (q_s q_rows q_tape q_land q_spare q_firstImage q_secondImage q_acts q_basket q_asks q_land q_land_heights q_land_holders q_land_kinds q_land_purses q_land_homes q_acts q_acts_saved : Nat) (s_finding : Int32) (land_told : Int32) (land_low : Int32) (land_high : Int32) (land_price : Int32) (land_hour : Int32) (land_bidders : Int32) (land_heights : (Nat → Int32)) (land_holders : (Nat → Int32)) (land_kinds : (Nat → Int32)) (land_purses : (Nat → Int32)) (land_homes : (Nat → Int32)) (acts_saved : (Nat → Int32)) (acts_next : Int32) (acts_kept : Int32) (v1 : Int32) (v2 : Int32) (sz : Nat) (res : Int32 × (Nat → Int32) × (Nat → Int32) × (Nat → Int32) × Int32 × Int32) (hf : fX8_bid land_low land_high land_price land_hour land_bidders land_heights land_holders land_kinds land_purses acts_saved acts_next acts_kept v1 v2 = some res) : Met l yX8_bid wsX8_bid rmX8_bid (mtPc (dC, dI) (tyZ cI cZ) ((W_X cI cZ q_s q_rows q_tape q_land q_spare q_firstImage q_secondImage q_acts q_basket q_asks s_finding) ++ ((W_Isle cI cZ q_land q_land_heights q_land_holders q_land_kinds q_land_purses q_land_homes land_told land_low land_high land_price land_hour land_bidders land_heights land_holders land_kinds land_purses land_homes) ++ ((W_Acts cI cZ q_acts q_acts_saved acts_saved acts_next acts_kept)))) [.ref q_s, .int v1, .int v2] sz) (mtQi (dC, dI) (tyZ cI cZ) ((W_X cI cZ q_s q_rows q_tape q_land q_spare q_firstImage q_secondImage q_acts q_basket q_asks s_finding) ++ ((W_Isle cI cZ q_land q_land_heights q_land_holders q_land_kinds q_land_purses q_land_homes land_told land_low land_high land_price land_hour land_bidders land_heights land_holders land_kinds land_purses land_homes) ++ ((W_Acts cI cZ q_acts q_acts_saved acts_saved acts_next acts_kept)))) ((W_X cI cZ q_s q_rows q_tape q_land q_spare q_firstImage q_secondImage q_acts q_basket q_asks s_finding) ++ ((W_Isle cI cZ q_land q_land_heights q_land_holders q_land_kinds q_land_purses q_land_homes land_told land_low land_high land_price land_hour land_bidders land_heights res.2.1 land_kinds res.2.2.1 land_homes) ++ ((W_Acts cI cZ q_acts q_acts_saved res.2.2.2.1 res.2.2.2.2.1 res.2.2.2.2.2)))) res.1 sz) 0 0 (va_A ((W_X cI cZ q_s q_rows q_tape q_land q_spare q_firstImage q_secondImage q_acts q_basket q_asks s_finding) ++ ((W_Isle cI cZ q_land q_land_heights q_land_holders q_land_kinds q_land_purses q_land_homes land_told land_low land_high land_price land_hour land_bidders land_heights land_holders land_kinds land_purses land_homes) ++ ((W_Acts cI cZ q_acts q_acts_saved acts_saved acts_next acts_kept)))) sz) := by
  refine Met.ofW (cc := cX8_bid) (maxL := 3) (ret := (some .int)) (by decide) rfl ?_
  intro p e s m args below meth c s₁ B hml hv
  obtain ⟨rfl, hsz, hP, hK, hD0⟩ := hv
  have hx := B.exec
  have hb := B.bytes
  have hr := B.returns
  have hts := atoms_spec (ws := wsX8_bid) B.pre
  have hown : s.vm.findClass RX8 = some m.cls := findClass_of_methodNamed B.named
  have hlocks := B.notSynchronized
  subst hsz
  have hD := hD0.self (sz := s.heap.size)
  obtain ⟨A, hAe⟩ : ∃ A, A = va_A ((W_X cI cZ q_s q_rows q_tape q_land q_spare q_firstImage q_secondImage q_acts q_basket q_asks s_finding) ++ ((W_Isle cI cZ q_land q_land_heights q_land_holders q_land_kinds q_land_purses q_land_homes land_told land_low land_high land_price land_hour land_bidders land_heights land_holders land_kinds land_purses land_homes) ++ ((W_Acts cI cZ q_acts q_acts_saved acts_saved acts_next acts_kept)))) s.heap.size := ⟨_, rfl⟩
  rw [← hAe] at hD
  have hA : ∀ q : Nat, s.heap.size ≤ q → A q := fun q h => by rw [hAe]; exact Or.inr h
  have hS : va_S A s.heap s.heap [] := va_S.rf
  have hl := lv_entry ([.ref q_s, .int v1, .int v2]) (n := 3) (Nat.le_of_ble_eq_true rfl)
  rw [lg_entry_eq]
  generalize (lg_sl ([.ref q_s, .int v1, .int v2]) ++ List.replicate (3 - (lg_sl ([.ref q_s, .int v1, .int v2])).length) Slot.unset).toArray = ls at hl ⊢
  have hl : lv_has ls 3 [(0, .ref q_s), (1, .int v1), (2, .int v2)] := hl
  obtain ⟨QQ, hQQ⟩ : ∃ Q, Q = MQ below (mtQi (dC, dI) (tyZ cI cZ) ((W_X cI cZ q_s q_rows q_tape q_land q_spare q_firstImage q_secondImage q_acts q_basket q_asks s_finding) ++ ((W_Isle cI cZ q_land q_land_heights q_land_holders q_land_kinds q_land_purses q_land_homes land_told land_low land_high land_price land_hour land_bidders land_heights land_holders land_kinds land_purses land_homes) ++ ((W_Acts cI cZ q_acts q_acts_saved acts_saved acts_next acts_kept)))) ((W_X cI cZ q_s q_rows q_tape q_land q_spare q_firstImage q_secondImage q_acts q_basket q_asks s_finding) ++ ((W_Isle cI cZ q_land q_land_heights q_land_holders q_land_kinds q_land_purses q_land_homes land_told land_low land_high land_price land_hour land_bidders land_heights res.2.1 land_kinds res.2.2.1 land_homes) ++ ((W_Acts cI cZ q_acts q_acts_saved res.2.2.2.1 res.2.2.2.2.1 res.2.2.2.2.2)))) res.1 s.heap.size) ([.ref q_s, .int v1, .int v2] : List Value).toArray s 0 0 (va_A ((W_X cI cZ q_s q_rows q_tape q_land q_spare q_firstImage q_secondImage q_acts q_basket q_asks s_finding) ++ ((W_Isle cI cZ q_land q_land_heights q_land_holders q_land_kinds q_land_purses q_land_homes land_told land_low land_high land_price land_hour land_bidders land_heights land_holders land_kinds land_purses land_homes) ++ ((W_Acts cI cZ q_acts q_acts_saved acts_saved acts_next acts_kept)))) s.heap.size) := ⟨_, rfl⟩
  rw [← hQQ]
  have w_0 := hts (Cond.fieldLink RX8 26 "TideInches" "land" "LTideInches$Isle;") (List.mem_of_getElem? (i := 1) rfl)
  have w_1 := (fun w hw => List.mem_cons_of_mem _ (List.mem_append_left _ (List.mem_append_left _ (List.mem_append_right _ hw))) : ∀ w ∈ wsX80, w ∈ wsX8_bid)
  have w_2 := hts (Cond.constant RX8 68 (-1000001)) (List.mem_of_getElem? (i := 2) rfl)
  have w_3 := hts (Cond.constant RX8 136 (-1000002)) (List.mem_of_getElem? (i := 3) rfl)
  have w_4 := hts (Cond.fieldLink RX8 42 "TideInches" "acts" "LTideInches$Acts;") (List.mem_of_getElem? (i := 5) rfl)
  have w_5 := hts (Cond.constant RX8 108 (-1000003)) (List.mem_of_getElem? (i := 4) rfl)
  have h := hf
  unfold fX8_bid at h
  refine lv_aload_n hx hb dX8_bid_0 rfl (lv_at hl 0 rfl) ?_
  refine va_get (D := (dC, dI)) (ci := 6) (v := .ref q_land) (C := RX8) (T := TX8) (N := 10) hx hb hts w_1 hown hK hP 0 rfl rfl 2 (by decide) w_0 (fun _ h9 => h9) rfl dX8_bid_1 ?_
  refine lv_iload_n hx hb dX8_bid_4 rfl (lv_at hl 1 rfl) ?_
  obtain ⟨r_1, hc_1, h⟩ := bd1_of h
  refine cl_rV (As := [.int v1]) (rest := []) ⟨hx, hb, hml, hown, hts⟩ (m_X3_hasBidder l dC dI cI cZ q_land q_land_heights q_land_holders q_land_kinds q_land_purses q_land_homes land_told land_low land_high land_price land_hour land_bidders land_heights land_holders land_kinds land_purses land_homes v1 (r_1) hc_1) (cwV 1 hts gX8_bid_X3_hasBidder rfl rfl rfl ⟨rfl, ddX3_hasBidder⟩ ⟨Nat.le_of_ble_eq_true rfl, Nat.le_of_ble_eq_true rfl⟩) hK hP [1, 2, 3, 4, 5, 6] rfl rfl rfl rfl rfl hl.1 (Nat.le_of_ble_eq_true rfl) ⟨Nat.zero_le _, Nat.zero_le _⟩ dX8_bid_5 ?_
  refine lv_if_eq (tgt := 18) hx hb dX8_bid_8 (by decide) (fun c_2 => ?_) (fun c_2 => ?_)
  · have h := (if_pos c_2).symm.trans h
    refine lv_ldc hx hb hown w_2 dX8_bid_18 ?_
    have h := Option.some.inj h
    subst h
    rw [hQQ]
    subst hAe
    exact W.iret (v := (-1000001)) hx hb hr (fun t ht hW => ⟨⟨_, (), rfl, rfl, by rw [ht]; exact hP, va_K.moved hW.alike hK, hD⟩, hS.F ht⟩) hS.2.2 dX8_bid_20
  · have h := (if_neg c_2).symm.trans h
    refine lv_iload_n hx hb dX8_bid_11 rfl (lv_at hl 2 rfl) ?_
    obtain ⟨r_3, hc_3, h⟩ := bd1_of h
    refine cl_pS (As := [.int v2]) (rest := []) ⟨hx, hb, hml, hown, hts⟩ (m_X8_isCell l v2 (r_3) hc_3) (va_cwS 1 hts gX8_bid_X8_isCell rfl rfl rfl ddX8_isCell ⟨Nat.le_of_ble_eq_true rfl, Nat.le_of_ble_eq_true rfl⟩) rfl rfl hl.1 (Nat.le_of_ble_eq_true rfl) ⟨Nat.zero_le _, Nat.zero_le _⟩ dX8_bid_12 ?_
    refine lv_if_ne (tgt := 21) hx hb dX8_bid_15 (by decide) (fun c_4 => ?_) (fun c_4 => ?_)
    · have h := (if_neg c_4).symm.trans h
      refine lv_aload_n hx hb dX8_bid_21 rfl (lv_at hl 0 rfl) ?_
      refine va_get (D := (dC, dI)) (ci := 6) (v := .ref q_land) (C := RX8) (T := TX8) (N := 10) hx hb hts w_1 hown hK hP 0 rfl rfl 2 (by decide) w_0 (fun _ h9 => h9) rfl dX8_bid_22 ?_
      refine lv_iload_n hx hb dX8_bid_25 rfl (lv_at hl 2 rfl) ?_
      obtain ⟨r_5, hc_5, h⟩ := bd1_of h
      refine cl_rV (As := [.int v2]) (rest := []) ⟨hx, hb, hml, hown, hts⟩ (m_X3_isHeld l dC dI cI cZ q_land q_land_heights q_land_holders q_land_kinds q_land_purses q_land_homes land_told land_low land_high land_price land_hour land_bidders land_heights land_holders land_kinds land_purses land_homes v2 (r_5) hc_5) (cwV 1 hts gX8_bid_X3_isHeld rfl rfl rfl ⟨rfl, ddX3_isHeld⟩ ⟨Nat.le_of_ble_eq_true rfl, Nat.le_of_ble_eq_true rfl⟩) hK hP [1, 2, 3, 4, 5, 6] rfl rfl rfl rfl rfl hl.1 (Nat.le_of_ble_eq_true rfl) ⟨Nat.zero_le _, Nat.zero_le _⟩ dX8_bid_26 ?_
      refine lv_if_ne (tgt := 44) hx hb dX8_bid_29 (by decide) (fun c_6 => ?_) (fun c_6 => ?_)
      · have h := (if_neg c_6).symm.trans h
        refine lv_ldc hx hb hown w_3 dX8_bid_44 ?_
        have h := Option.some.inj h
        subst h
        rw [hQQ]
        subst hAe
        exact W.iret (v := (-1000002)) hx hb hr (fun t ht hW => ⟨⟨_, (), rfl, rfl, by rw [ht]; exact hP, va_K.moved hW.alike hK, hD⟩, hS.F ht⟩) hS.2.2 dX8_bid_46
      · have h := (if_pos c_6).symm.trans h
        refine lv_aload_n hx hb dX8_bid_32 rfl (lv_at hl 0 rfl) ?_
        refine va_get (D := (dC, dI)) (ci := 6) (v := .ref q_land) (C := RX8) (T := TX8) (N := 10) hx hb hts w_1 hown hK hP 0 rfl rfl 2 (by decide) w_0 (fun _ h9 => h9) rfl dX8_bid_33 ?_
        refine lv_iload_n hx hb dX8_bid_36 rfl (lv_at hl 1 rfl) ?_
        refine lv_iload_n hx hb dX8_bid_37 rfl (lv_at hl 2 rfl) ?_
        obtain ⟨r_7, hc_7, h⟩ := bd1_of h
        refine cl_rV (As := [.int v1, .int v2]) (rest := []) ⟨hx, hb, hml, hown, hts⟩ (m_X3_canHave l dC dI cI cZ q_land q_land_heights q_land_holders q_land_kinds q_land_purses q_land_homes land_told land_low land_high land_price land_hour land_bidders land_heights land_holders land_kinds land_purses land_homes v1 v2 (r_7) hc_7) (cwV 2 hts gX8_bid_X3_canHave rfl rfl rfl ⟨rfl, ddX3_canHave⟩ ⟨Nat.le_of_ble_eq_true rfl, Nat.le_of_ble_eq_true rfl⟩) hK hP [1, 2, 3, 4, 5, 6] rfl rfl rfl rfl rfl hl.1 (Nat.le_of_ble_eq_true rfl) ⟨Nat.zero_le _, Nat.zero_le _⟩ dX8_bid_38 ?_
        refine lv_if_ne (tgt := 47) hx hb dX8_bid_41 (by decide) (fun c_8 => ?_) (fun c_8 => ?_)
        · have h := (if_neg c_8).symm.trans h
          refine lv_aload_n hx hb dX8_bid_47 rfl (lv_at hl 0 rfl) ?_
          refine va_get (D := (dC, dI)) (ci := 6) (v := .ref q_land) (C := RX8) (T := TX8) (N := 10) hx hb hts w_1 hown hK hP 0 rfl rfl 2 (by decide) w_0 (fun _ h9 => h9) rfl dX8_bid_48 ?_
          refine lv_iload_n hx hb dX8_bid_51 rfl (lv_at hl 1 rfl) ?_
          obtain ⟨r_9, hc_9, h⟩ := bd1_of h
          refine cl_rV (As := [.int v1]) (rest := []) ⟨hx, hb, hml, hown, hts⟩ (m_X3_purse l dC dI cI cZ q_land q_land_heights q_land_holders q_land_kinds q_land_purses q_land_homes land_told land_low land_high land_price land_hour land_bidders land_heights land_holders land_kinds land_purses land_homes v1 (r_9) hc_9) (cwV 1 hts gX8_bid_X3_purse rfl rfl rfl ⟨rfl, ddX3_purse⟩ ⟨Nat.le_of_ble_eq_true rfl, Nat.le_of_ble_eq_true rfl⟩) hK hP [1, 2, 3, 4, 5, 6] rfl rfl rfl rfl rfl hl.1 (Nat.le_of_ble_eq_true rfl) ⟨Nat.zero_le _, Nat.zero_le _⟩ dX8_bid_52 ?_
          refine lv_aload_n hx hb dX8_bid_55 rfl (lv_at hl 0 rfl) ?_
          refine va_get (D := (dC, dI)) (ci := 6) (v := .ref q_land) (C := RX8) (T := TX8) (N := 10) hx hb hts w_1 hown hK hP 0 rfl rfl 2 (by decide) w_0 (fun _ h9 => h9) rfl dX8_bid_56 ?_
          refine lv_iload_n hx hb dX8_bid_59 rfl (lv_at hl 1 rfl) ?_
          refine lv_iload_n hx hb dX8_bid_60 rfl (lv_at hl 2 rfl) ?_
          obtain ⟨r_10, hc_10, h⟩ := bd1_of h
          refine cl_rV (As := [.int v1, .int v2]) (rest := [.int r_9]) ⟨hx, hb, hml, hown, hts⟩ (m_X3_costTo l dC dI cI cZ q_land q_land_heights q_land_holders q_land_kinds q_land_purses q_land_homes land_told land_low land_high land_price land_hour land_bidders land_heights land_holders land_kinds land_purses land_homes v1 v2 (r_10) hc_10) (cwV 2 hts gX8_bid_X3_costTo rfl rfl rfl ⟨rfl, ddX3_costTo⟩ ⟨Nat.le_of_ble_eq_true rfl, Nat.le_of_ble_eq_true rfl⟩) hK hP [1, 2, 3, 4, 5, 6] rfl rfl rfl rfl rfl hl.1 (Nat.le_of_ble_eq_true rfl) ⟨Nat.zero_le _, Nat.zero_le _⟩ dX8_bid_61 ?_
          refine lv_icmp_ge (tgt := 70) hx hb dX8_bid_64 (by decide) (fun c_11 => ?_) (fun c_11 => ?_)
          · have h := (if_pos c_11).symm.trans h
            refine lv_aload_n hx hb dX8_bid_70 rfl (lv_at hl 0 rfl) ?_
            refine va_get (D := (dC, dI)) (ci := 6) (v := .ref q_acts) (C := RX8) (T := TX8) (N := 10) hx hb hts w_1 hown hK hP 0 rfl rfl 6 (by decide) w_4 (fun _ h9 => h9) rfl dX8_bid_71 ?_
            refine lv_aload_n hx hb dX8_bid_74 rfl (lv_at hl 0 rfl) ?_
            refine va_get (D := (dC, dI)) (ci := 6) (v := .ref q_land) (C := RX8) (T := TX8) (N := 10) hx hb hts w_1 hown hK hP 0 rfl rfl 2 (by decide) w_0 (fun _ h9 => h9) rfl dX8_bid_75 ?_
            obtain ⟨acts_saved_12, acts_next_12, acts_kept_12, hc_12, h⟩ := bd3_of h
            refine cl_mVv (As := [.ref q_land]) (rest := []) (ws' := (W_X cI cZ q_s q_rows q_tape q_land q_spare q_firstImage q_secondImage q_acts q_basket q_asks s_finding) ++ ((W_Isle cI cZ q_land q_land_heights q_land_holders q_land_kinds q_land_purses q_land_homes land_told land_low land_high land_price land_hour land_bidders land_heights land_holders land_kinds land_purses land_homes) ++ ((W_Acts cI cZ q_acts q_acts_saved acts_saved_12 acts_next_12 acts_kept_12)))) (wr := (W_X cI cZ q_s q_rows q_tape q_land q_spare q_firstImage q_secondImage q_acts q_basket q_asks s_finding)) ⟨hx, hb, hml, hown, hts⟩ (m_X0_keep l dC dI cI cZ q_acts q_acts_saved q_land q_land_heights q_land_holders q_land_kinds q_land_purses q_land_homes acts_saved acts_next acts_kept land_told land_low land_high land_price land_hour land_bidders land_heights land_holders land_kinds land_purses land_homes _ (acts_saved_12, acts_next_12, acts_kept_12) hc_12) (cwV 1 hts gX8_bid_X0_keep rfl rfl rfl ⟨rfl, ddX0_keep⟩ ⟨Nat.le_of_ble_eq_true rfl, Nat.le_of_ble_eq_true rfl⟩) hK hP hD hS hA [7, 8, 1, 2, 3, 4, 5, 6] [0] rfl rfl rfl rfl (by decide) [0, 3, 4, 5, 6, 7, 8, 1, 2] rfl rfl rfl rfl rfl rfl rfl hl.1 (Nat.le_of_ble_eq_true rfl) ⟨Nat.zero_le _, Nat.zero_le _⟩ dX8_bid_78 (fun H locs hP hD hS => ?_)
            refine lv_aload_n hx hb dX8_bid_81 rfl (lv_at hl 0 rfl) ?_
            refine va_get (D := (dC, dI)) (ci := 6) (v := .ref q_land) (C := RX8) (T := TX8) (N := 10) hx hb hts w_1 hown hK hP 0 rfl rfl 2 (by decide) w_0 (fun _ h9 => h9) rfl dX8_bid_82 ?_
            refine lv_iload_n hx hb dX8_bid_85 rfl (lv_at hl 1 rfl) ?_
            refine lv_iload_n hx hb dX8_bid_86 rfl (lv_at hl 2 rfl) ?_
            obtain ⟨land_holders_13, land_purses_13, hc_13, h⟩ := bd2_of h
            refine cl_mVv (As := [.int v1, .int v2]) (rest := []) (ws' := (W_X cI cZ q_s q_rows q_tape q_land q_spare q_firstImage q_secondImage q_acts q_basket q_asks s_finding) ++ ((W_Isle cI cZ q_land q_land_heights q_land_holders q_land_kinds q_land_purses q_land_homes land_told land_low land_high land_price land_hour land_bidders land_heights land_holders_13 land_kinds land_purses_13 land_homes) ++ ((W_Acts cI cZ q_acts q_acts_saved acts_saved_12 acts_next_12 acts_kept_12)))) (wr := (W_X cI cZ q_s q_rows q_tape q_land q_spare q_firstImage q_secondImage q_acts q_basket q_asks s_finding) ++ ((W_Acts cI cZ q_acts q_acts_saved acts_saved_12 acts_next_12 acts_kept_12))) ⟨hx, hb, hml, hown, hts⟩ (m_X3_sell l dC dI cI cZ q_land q_land_heights q_land_holders q_land_kinds q_land_purses q_land_homes land_told land_low land_high land_price land_hour land_bidders land_heights land_holders land_kinds land_purses land_homes v1 v2 _ (land_holders_13, land_purses_13) hc_13) (cwV 2 hts gX8_bid_X3_sell rfl rfl rfl ⟨rfl, ddX3_sell⟩ ⟨Nat.le_of_ble_eq_true rfl, Nat.le_of_ble_eq_true rfl⟩) hK hP hD hS hA [1, 2, 3, 4, 5, 6] [0, 7, 8] rfl rfl rfl rfl (by decide) [0, 3, 4, 5, 6, 7, 8, 1, 2] rfl rfl rfl rfl rfl rfl rfl hl.1 (Nat.le_of_ble_eq_true rfl) ⟨Nat.zero_le _, Nat.zero_le _⟩ dX8_bid_87 (fun H locs hP hD hS => ?_)
            refine lv_aload_n hx hb dX8_bid_90 rfl (lv_at hl 0 rfl) ?_
            refine va_get (D := (dC, dI)) (ci := 6) (v := .ref q_land) (C := RX8) (T := TX8) (N := 10) hx hb hts w_1 hown hK hP 0 rfl rfl 2 (by decide) w_0 (fun _ h9 => h9) rfl dX8_bid_91 ?_
            refine lv_iload_n hx hb dX8_bid_94 rfl (lv_at hl 1 rfl) ?_
            obtain ⟨r_14, hc_14, h⟩ := bd1_of h
            refine cl_rV (As := [.int v1]) (rest := []) ⟨hx, hb, hml, hown, hts⟩ (m_X3_purse l dC dI cI cZ q_land q_land_heights q_land_holders q_land_kinds q_land_purses q_land_homes land_told land_low land_high land_price land_hour land_bidders land_heights land_holders_13 land_kinds land_purses_13 land_homes v1 (r_14) hc_14) (cwV 1 hts gX8_bid_X3_purse rfl rfl rfl ⟨rfl, ddX3_purse⟩ ⟨Nat.le_of_ble_eq_true rfl, Nat.le_of_ble_eq_true rfl⟩) hK hP [1, 2, 3, 4, 5, 6] rfl rfl rfl rfl rfl hl.1 (Nat.le_of_ble_eq_true rfl) ⟨Nat.zero_le _, Nat.zero_le _⟩ dX8_bid_95 ?_
            have h := Option.some.inj h
            subst h
            rw [hQQ]
            subst hAe
            exact W.iret (v := r_14) hx hb hr (fun t ht hW => ⟨⟨_, (), rfl, rfl, by rw [ht]; exact hP, va_K.moved hW.alike hK, hD⟩, hS.F ht⟩) hS.2.2 dX8_bid_98
          · have h := (if_neg c_11).symm.trans h
            refine lv_ldc hx hb hown w_5 dX8_bid_67 ?_
            have h := Option.some.inj h
            subst h
            rw [hQQ]
            subst hAe
            exact W.iret (v := (-1000003)) hx hb hr (fun t ht hW => ⟨⟨_, (), rfl, rfl, by rw [ht]; exact hP, va_K.moved hW.alike hK, hD⟩, hS.F ht⟩) hS.2.2 dX8_bid_69
        · have h := (if_pos c_8).symm.trans h
          refine lv_ldc hx hb hown w_3 dX8_bid_44 ?_
          have h := Option.some.inj h
          subst h
          rw [hQQ]
          subst hAe
          exact W.iret (v := (-1000002)) hx hb hr (fun t ht hW => ⟨⟨_, (), rfl, rfl, by rw [ht]; exact hP, va_K.moved hW.alike hK, hD⟩, hS.F ht⟩) hS.2.2 dX8_bid_46
    · have h := (if_pos c_4).symm.trans h
      refine lv_ldc hx hb hown w_2 dX8_bid_18 ?_
      have h := Option.some.inj h
      subst h
      rw [hQQ]
      subst hAe
      exact W.iret (v := (-1000001)) hx hb hr (fun t ht hW => ⟨⟨_, (), rfl, rfl, by rw [ht]; exact hP, va_K.moved hW.alike hK, hD⟩, hS.F ht⟩) hS.2.2 dX8_bid_20
def fX8_raise (land_hour : Int32) (land_bidders : Int32) (land_heights : (Nat → Int32)) (land_holders : (Nat → Int32)) (land_purses : (Nat → Int32)) (acts_saved : (Nat → Int32)) (acts_next : Int32) (acts_kept : Int32) (v1 : Int32) (v2 : Int32) : Option (Int32 × (Nat → Int32) × (Nat → Int32) × Int32 × Int32) :=
  bd1 (fX3_hasBidder land_bidders v1) (fun r_1 => (if r_1 = 0 then some ((-1000001), land_heights, acts_saved, acts_next, acts_kept) else bd1 (fX8_isCell v2) (fun r_3 => (if r_3 = 0 then some ((-1000001), land_heights, acts_saved, acts_next, acts_kept) else bd1 (fX3_holder land_holders v2) (fun r_5 => (if r_5 = v1 then bd1 (fX3_height land_heights v2) (fun r_7 => (if r_7 < 9 then bd3 (fX0_keep acts_saved acts_next acts_kept land_hour land_heights land_holders land_purses) (fun acts_saved_9 acts_next_9 acts_kept_9 => bd1 (fX3_putStones land_heights v2) (fun land_heights_10 => bd1 (fX3_height land_heights_10 v2) (fun r_11 => some (r_11, land_heights_10, acts_saved_9, acts_next_9, acts_kept_9)))) else some ((-1000003), land_heights, acts_saved, acts_next, acts_kept))) else some ((-1000002), land_heights, acts_saved, acts_next, acts_kept)))))))
abbrev rmX8_raise : Room := { frames := 3, cells := 0, slots := 0, locals := 83 }
theorem ddX8_raise : yX8_raise.cls ≠ "java/lang/invoke/MethodHandle" ∧ yX8_raise.cls ≠ "java/lang/invoke/VarHandle" ∧ (parseMethodDescriptor yX8_raise.desc).map (fun d => d.parameters.length) = some 2 := by decide +kernel
set_option maxHeartbeats 4000000 in
set_option maxRecDepth 100000 in
theorem m_X8_raise (l : Launch) (dC : Nat → ClassId) (dI : Nat → Nat → Nat) (cI cZ : ClassId) (q_s q_rows q_tape q_land q_spare q_firstImage q_secondImage q_acts q_basket q_asks q_land q_land_heights q_land_holders q_land_kinds q_land_purses q_land_homes q_acts q_acts_saved : Nat) (s_finding : Int32) (land_told : Int32) (land_low : Int32) (land_high : Int32) (land_price : Int32) (land_hour : Int32) (land_bidders : Int32) (land_heights : (Nat → Int32)) (land_holders : (Nat → Int32)) (land_kinds : (Nat → Int32)) (land_purses : (Nat → Int32)) (land_homes : (Nat → Int32)) (acts_saved : (Nat → Int32)) (acts_next : Int32) (acts_kept : Int32) (v1 : Int32) (v2 : Int32) (sz : Nat) (res : Int32 × (Nat → Int32) × (Nat → Int32) × Int32 × Int32) (hf : fX8_raise land_hour land_bidders land_heights land_holders land_purses acts_saved acts_next acts_kept v1 v2 = some res) : Met l yX8_raise wsX8_raise rmX8_raise (mtPc (dC, dI) (tyZ cI cZ) ((W_X cI cZ q_s q_rows q_tape q_land q_spare q_firstImage q_secondImage q_acts q_basket q_asks s_finding) ++ ((W_Isle cI cZ q_land q_land_heights q_land_holders q_land_kinds q_land_purses q_land_homes land_told land_low land_high land_price land_hour land_bidders land_heights land_holders land_kinds land_purses land_homes) ++ ((W_Acts cI cZ q_acts q_acts_saved acts_saved acts_next acts_kept)))) [.ref q_s, .int v1, .int v2] sz) (mtQi (dC, dI) (tyZ cI cZ) ((W_X cI cZ q_s q_rows q_tape q_land q_spare q_firstImage q_secondImage q_acts q_basket q_asks s_finding) ++ ((W_Isle cI cZ q_land q_land_heights q_land_holders q_land_kinds q_land_purses q_land_homes land_told land_low land_high land_price land_hour land_bidders land_heights land_holders land_kinds land_purses land_homes) ++ ((W_Acts cI cZ q_acts q_acts_saved acts_saved acts_next acts_kept)))) ((W_X cI cZ q_s q_rows q_tape q_land q_spare q_firstImage q_secondImage q_acts q_basket q_asks s_finding) ++ ((W_Isle cI cZ q_land q_land_heights q_land_holders q_land_kinds q_land_purses q_land_homes land_told land_low land_high land_price land_hour land_bidders res.2.1 land_holders land_kinds land_purses land_homes) ++ ((W_Acts cI cZ q_acts q_acts_saved res.2.2.1 res.2.2.2.1 res.2.2.2.2)))) res.1 sz) 0 0 (va_A ((W_X cI cZ q_s q_rows q_tape q_land q_spare q_firstImage q_secondImage q_acts q_basket q_asks s_finding) ++ ((W_Isle cI cZ q_land q_land_heights q_land_holders q_land_kinds q_land_purses q_land_homes land_told land_low land_high land_price land_hour land_bidders land_heights land_holders land_kinds land_purses land_homes) ++ ((W_Acts cI cZ q_acts q_acts_saved acts_saved acts_next acts_kept)))) sz) := by
  refine Met.ofW (cc := cX8_raise) (maxL := 3) (ret := (some .int)) (by decide) rfl ?_
  intro p e s m args below meth c s₁ B hml hv
  obtain ⟨rfl, hsz, hP, hK, hD0⟩ := hv
  have hx := B.exec
  have hb := B.bytes
  have hr := B.returns
  have hts := atoms_spec (ws := wsX8_raise) B.pre
  have hown : s.vm.findClass RX8 = some m.cls := findClass_of_methodNamed B.named
  have hlocks := B.notSynchronized
  subst hsz
  have hD := hD0.self (sz := s.heap.size)
  obtain ⟨A, hAe⟩ : ∃ A, A = va_A ((W_X cI cZ q_s q_rows q_tape q_land q_spare q_firstImage q_secondImage q_acts q_basket q_asks s_finding) ++ ((W_Isle cI cZ q_land q_land_heights q_land_holders q_land_kinds q_land_purses q_land_homes land_told land_low land_high land_price land_hour land_bidders land_heights land_holders land_kinds land_purses land_homes) ++ ((W_Acts cI cZ q_acts q_acts_saved acts_saved acts_next acts_kept)))) s.heap.size := ⟨_, rfl⟩
  rw [← hAe] at hD
  have hA : ∀ q : Nat, s.heap.size ≤ q → A q := fun q h => by rw [hAe]; exact Or.inr h
  have hS : va_S A s.heap s.heap [] := va_S.rf
  have hl := lv_entry ([.ref q_s, .int v1, .int v2]) (n := 3) (Nat.le_of_ble_eq_true rfl)
  rw [lg_entry_eq]
  generalize (lg_sl ([.ref q_s, .int v1, .int v2]) ++ List.replicate (3 - (lg_sl ([.ref q_s, .int v1, .int v2])).length) Slot.unset).toArray = ls at hl ⊢
  have hl : lv_has ls 3 [(0, .ref q_s), (1, .int v1), (2, .int v2)] := hl
  obtain ⟨QQ, hQQ⟩ : ∃ Q, Q = MQ below (mtQi (dC, dI) (tyZ cI cZ) ((W_X cI cZ q_s q_rows q_tape q_land q_spare q_firstImage q_secondImage q_acts q_basket q_asks s_finding) ++ ((W_Isle cI cZ q_land q_land_heights q_land_holders q_land_kinds q_land_purses q_land_homes land_told land_low land_high land_price land_hour land_bidders land_heights land_holders land_kinds land_purses land_homes) ++ ((W_Acts cI cZ q_acts q_acts_saved acts_saved acts_next acts_kept)))) ((W_X cI cZ q_s q_rows q_tape q_land q_spare q_firstImage q_secondImage q_acts q_basket q_asks s_finding) ++ ((W_Isle cI cZ q_land q_land_heights q_land_holders q_land_kinds q_land_purses q_land_homes land_told land_low land_high land_price land_hour land_bidders res.2.1 land_holders land_kinds land_purses land_homes) ++ ((W_Acts cI cZ q_acts q_acts_saved res.2.2.1 res.2.2.2.1 res.2.2.2.2)))) res.1 s.heap.size) ([.ref q_s, .int v1, .int v2] : List Value).toArray s 0 0 (va_A ((W_X cI cZ q_s q_rows q_tape q_land q_spare q_firstImage q_secondImage q_acts q_basket q_asks s_finding) ++ ((W_Isle cI cZ q_land q_land_heights q_land_holders q_land_kinds q_land_purses q_land_homes land_told land_low land_high land_price land_hour land_bidders land_heights land_holders land_kinds land_purses land_homes) ++ ((W_Acts cI cZ q_acts q_acts_saved acts_saved acts_next acts_kept)))) s.heap.size) := ⟨_, rfl⟩
  rw [← hQQ]
  have w_0 := hts (Cond.fieldLink RX8 26 "TideInches" "land" "LTideInches$Isle;") (List.mem_of_getElem? (i := 1) rfl)
  have w_1 := (fun w hw => List.mem_cons_of_mem _ (List.mem_append_left _ (List.mem_append_left _ (List.mem_append_right _ hw))) : ∀ w ∈ wsX80, w ∈ wsX8_raise)
  have w_2 := hts (Cond.constant RX8 68 (-1000001)) (List.mem_of_getElem? (i := 2) rfl)
  have w_3 := hts (Cond.fieldLink RX8 42 "TideInches" "acts" "LTideInches$Acts;") (List.mem_of_getElem? (i := 5) rfl)
  have w_4 := hts (Cond.constant RX8 108 (-1000003)) (List.mem_of_getElem? (i := 4) rfl)
  have w_5 := hts (Cond.constant RX8 136 (-1000002)) (List.mem_of_getElem? (i := 3) rfl)
  have h := hf
  unfold fX8_raise at h
  refine lv_aload_n hx hb dX8_raise_0 rfl (lv_at hl 0 rfl) ?_
  refine va_get (D := (dC, dI)) (ci := 6) (v := .ref q_land) (C := RX8) (T := TX8) (N := 10) hx hb hts w_1 hown hK hP 0 rfl rfl 2 (by decide) w_0 (fun _ h9 => h9) rfl dX8_raise_1 ?_
  refine lv_iload_n hx hb dX8_raise_4 rfl (lv_at hl 1 rfl) ?_
  obtain ⟨r_1, hc_1, h⟩ := bd1_of h
  refine cl_rV (As := [.int v1]) (rest := []) ⟨hx, hb, hml, hown, hts⟩ (m_X3_hasBidder l dC dI cI cZ q_land q_land_heights q_land_holders q_land_kinds q_land_purses q_land_homes land_told land_low land_high land_price land_hour land_bidders land_heights land_holders land_kinds land_purses land_homes v1 (r_1) hc_1) (cwV 1 hts gX8_raise_X3_hasBidder rfl rfl rfl ⟨rfl, ddX3_hasBidder⟩ ⟨Nat.le_of_ble_eq_true rfl, Nat.le_of_ble_eq_true rfl⟩) hK hP [1, 2, 3, 4, 5, 6] rfl rfl rfl rfl rfl hl.1 (Nat.le_of_ble_eq_true rfl) ⟨Nat.zero_le _, Nat.zero_le _⟩ dX8_raise_5 ?_
  refine lv_if_eq (tgt := 18) hx hb dX8_raise_8 (by decide) (fun c_2 => ?_) (fun c_2 => ?_)
  · have h := (if_pos c_2).symm.trans h
    refine lv_ldc hx hb hown w_2 dX8_raise_18 ?_
    have h := Option.some.inj h
    subst h
    rw [hQQ]
    subst hAe
    exact W.iret (v := (-1000001)) hx hb hr (fun t ht hW => ⟨⟨_, (), rfl, rfl, by rw [ht]; exact hP, va_K.moved hW.alike hK, hD⟩, hS.F ht⟩) hS.2.2 dX8_raise_20
  · have h := (if_neg c_2).symm.trans h
    refine lv_iload_n hx hb dX8_raise_11 rfl (lv_at hl 2 rfl) ?_
    obtain ⟨r_3, hc_3, h⟩ := bd1_of h
    refine cl_pS (As := [.int v2]) (rest := []) ⟨hx, hb, hml, hown, hts⟩ (m_X8_isCell l v2 (r_3) hc_3) (va_cwS 1 hts gX8_raise_X8_isCell rfl rfl rfl ddX8_isCell ⟨Nat.le_of_ble_eq_true rfl, Nat.le_of_ble_eq_true rfl⟩) rfl rfl hl.1 (Nat.le_of_ble_eq_true rfl) ⟨Nat.zero_le _, Nat.zero_le _⟩ dX8_raise_12 ?_
    refine lv_if_ne (tgt := 21) hx hb dX8_raise_15 (by decide) (fun c_4 => ?_) (fun c_4 => ?_)
    · have h := (if_neg c_4).symm.trans h
      refine lv_aload_n hx hb dX8_raise_21 rfl (lv_at hl 0 rfl) ?_
      refine va_get (D := (dC, dI)) (ci := 6) (v := .ref q_land) (C := RX8) (T := TX8) (N := 10) hx hb hts w_1 hown hK hP 0 rfl rfl 2 (by decide) w_0 (fun _ h9 => h9) rfl dX8_raise_22 ?_
      refine lv_iload_n hx hb dX8_raise_25 rfl (lv_at hl 2 rfl) ?_
      obtain ⟨r_5, hc_5, h⟩ := bd1_of h
      refine cl_rV (As := [.int v2]) (rest := []) ⟨hx, hb, hml, hown, hts⟩ (m_X3_holder l dC dI cI cZ q_land q_land_heights q_land_holders q_land_kinds q_land_purses q_land_homes land_told land_low land_high land_price land_hour land_bidders land_heights land_holders land_kinds land_purses land_homes v2 (r_5) hc_5) (cwV 1 hts gX8_raise_X3_holder rfl rfl rfl ⟨rfl, ddX3_holder⟩ ⟨Nat.le_of_ble_eq_true rfl, Nat.le_of_ble_eq_true rfl⟩) hK hP [1, 2, 3, 4, 5, 6] rfl rfl rfl rfl rfl hl.1 (Nat.le_of_ble_eq_true rfl) ⟨Nat.zero_le _, Nat.zero_le _⟩ dX8_raise_26 ?_
      refine lv_iload_n hx hb dX8_raise_29 rfl (lv_at hl 1 rfl) ?_
      refine lv_icmp_eq (tgt := 36) hx hb dX8_raise_30 (by decide) (fun c_6 => ?_) (fun c_6 => ?_)
      · have h := (if_pos c_6).symm.trans h
        refine lv_aload_n hx hb dX8_raise_36 rfl (lv_at hl 0 rfl) ?_
        refine va_get (D := (dC, dI)) (ci := 6) (v := .ref q_land) (C := RX8) (T := TX8) (N := 10) hx hb hts w_1 hown hK hP 0 rfl rfl 2 (by decide) w_0 (fun _ h9 => h9) rfl dX8_raise_37 ?_
        refine lv_iload_n hx hb dX8_raise_40 rfl (lv_at hl 2 rfl) ?_
        obtain ⟨r_7, hc_7, h⟩ := bd1_of h
        refine cl_rV (As := [.int v2]) (rest := []) ⟨hx, hb, hml, hown, hts⟩ (m_X3_height l dC dI cI cZ q_land q_land_heights q_land_holders q_land_kinds q_land_purses q_land_homes land_told land_low land_high land_price land_hour land_bidders land_heights land_holders land_kinds land_purses land_homes v2 (r_7) hc_7) (cwV 1 hts gX8_raise_X3_height rfl rfl rfl ⟨rfl, ddX3_height⟩ ⟨Nat.le_of_ble_eq_true rfl, Nat.le_of_ble_eq_true rfl⟩) hK hP [1, 2, 3, 4, 5, 6] rfl rfl rfl rfl rfl hl.1 (Nat.le_of_ble_eq_true rfl) ⟨Nat.zero_le _, Nat.zero_le _⟩ dX8_raise_41 ?_
        refine lv_bipush (v := 9) hx hb dX8_raise_44 (by decide) ?_
        refine lv_icmp_lt (tgt := 52) hx hb dX8_raise_46 (by decide) (fun c_8 => ?_) (fun c_8 => ?_)
        · have h := (if_pos c_8).symm.trans h
          refine lv_aload_n hx hb dX8_raise_52 rfl (lv_at hl 0 rfl) ?_
          refine va_get (D := (dC, dI)) (ci := 6) (v := .ref q_acts) (C := RX8) (T := TX8) (N := 10) hx hb hts w_1 hown hK hP 0 rfl rfl 6 (by decide) w_3 (fun _ h9 => h9) rfl dX8_raise_53 ?_
          refine lv_aload_n hx hb dX8_raise_56 rfl (lv_at hl 0 rfl) ?_
          refine va_get (D := (dC, dI)) (ci := 6) (v := .ref q_land) (C := RX8) (T := TX8) (N := 10) hx hb hts w_1 hown hK hP 0 rfl rfl 2 (by decide) w_0 (fun _ h9 => h9) rfl dX8_raise_57 ?_
          obtain ⟨acts_saved_9, acts_next_9, acts_kept_9, hc_9, h⟩ := bd3_of h
          refine cl_mVv (As := [.ref q_land]) (rest := []) (ws' := (W_X cI cZ q_s q_rows q_tape q_land q_spare q_firstImage q_secondImage q_acts q_basket q_asks s_finding) ++ ((W_Isle cI cZ q_land q_land_heights q_land_holders q_land_kinds q_land_purses q_land_homes land_told land_low land_high land_price land_hour land_bidders land_heights land_holders land_kinds land_purses land_homes) ++ ((W_Acts cI cZ q_acts q_acts_saved acts_saved_9 acts_next_9 acts_kept_9)))) (wr := (W_X cI cZ q_s q_rows q_tape q_land q_spare q_firstImage q_secondImage q_acts q_basket q_asks s_finding)) ⟨hx, hb, hml, hown, hts⟩ (m_X0_keep l dC dI cI cZ q_acts q_acts_saved q_land q_land_heights q_land_holders q_land_kinds q_land_purses q_land_homes acts_saved acts_next acts_kept land_told land_low land_high land_price land_hour land_bidders land_heights land_holders land_kinds land_purses land_homes _ (acts_saved_9, acts_next_9, acts_kept_9) hc_9) (cwV 1 hts gX8_raise_X0_keep rfl rfl rfl ⟨rfl, ddX0_keep⟩ ⟨Nat.le_of_ble_eq_true rfl, Nat.le_of_ble_eq_true rfl⟩) hK hP hD hS hA [7, 8, 1, 2, 3, 4, 5, 6] [0] rfl rfl rfl rfl (by decide) [0, 3, 4, 5, 6, 7, 8, 1, 2] rfl rfl rfl rfl rfl rfl rfl hl.1 (Nat.le_of_ble_eq_true rfl) ⟨Nat.zero_le _, Nat.zero_le _⟩ dX8_raise_60 (fun H locs hP hD hS => ?_)
          refine lv_aload_n hx hb dX8_raise_63 rfl (lv_at hl 0 rfl) ?_
          refine va_get (D := (dC, dI)) (ci := 6) (v := .ref q_land) (C := RX8) (T := TX8) (N := 10) hx hb hts w_1 hown hK hP 0 rfl rfl 2 (by decide) w_0 (fun _ h9 => h9) rfl dX8_raise_64 ?_
          refine lv_iload_n hx hb dX8_raise_67 rfl (lv_at hl 2 rfl) ?_
          obtain ⟨land_heights_10, hc_10, h⟩ := bd1_of h
          refine cl_mVv (As := [.int v2]) (rest := []) (ws' := (W_X cI cZ q_s q_rows q_tape q_land q_spare q_firstImage q_secondImage q_acts q_basket q_asks s_finding) ++ ((W_Isle cI cZ q_land q_land_heights q_land_holders q_land_kinds q_land_purses q_land_homes land_told land_low land_high land_price land_hour land_bidders land_heights_10 land_holders land_kinds land_purses land_homes) ++ ((W_Acts cI cZ q_acts q_acts_saved acts_saved_9 acts_next_9 acts_kept_9)))) (wr := (W_X cI cZ q_s q_rows q_tape q_land q_spare q_firstImage q_secondImage q_acts q_basket q_asks s_finding) ++ ((W_Acts cI cZ q_acts q_acts_saved acts_saved_9 acts_next_9 acts_kept_9))) ⟨hx, hb, hml, hown, hts⟩ (m_X3_putStones l dC dI cI cZ q_land q_land_heights q_land_holders q_land_kinds q_land_purses q_land_homes land_told land_low land_high land_price land_hour land_bidders land_heights land_holders land_kinds land_purses land_homes v2 _ (land_heights_10) hc_10) (cwV 1 hts gX8_raise_X3_putStones rfl rfl rfl ⟨rfl, ddX3_putStones⟩ ⟨Nat.le_of_ble_eq_true rfl, Nat.le_of_ble_eq_true rfl⟩) hK hP hD hS hA [1, 2, 3, 4, 5, 6] [0, 7, 8] rfl rfl rfl rfl (by decide) [0, 3, 4, 5, 6, 7, 8, 1, 2] rfl rfl rfl rfl rfl rfl rfl hl.1 (Nat.le_of_ble_eq_true rfl) ⟨Nat.zero_le _, Nat.zero_le _⟩ dX8_raise_68 (fun H locs hP hD hS => ?_)
          refine lv_aload_n hx hb dX8_raise_71 rfl (lv_at hl 0 rfl) ?_
          refine va_get (D := (dC, dI)) (ci := 6) (v := .ref q_land) (C := RX8) (T := TX8) (N := 10) hx hb hts w_1 hown hK hP 0 rfl rfl 2 (by decide) w_0 (fun _ h9 => h9) rfl dX8_raise_72 ?_
          refine lv_iload_n hx hb dX8_raise_75 rfl (lv_at hl 2 rfl) ?_
          obtain ⟨r_11, hc_11, h⟩ := bd1_of h
          refine cl_rV (As := [.int v2]) (rest := []) ⟨hx, hb, hml, hown, hts⟩ (m_X3_height l dC dI cI cZ q_land q_land_heights q_land_holders q_land_kinds q_land_purses q_land_homes land_told land_low land_high land_price land_hour land_bidders land_heights_10 land_holders land_kinds land_purses land_homes v2 (r_11) hc_11) (cwV 1 hts gX8_raise_X3_height rfl rfl rfl ⟨rfl, ddX3_height⟩ ⟨Nat.le_of_ble_eq_true rfl, Nat.le_of_ble_eq_true rfl⟩) hK hP [1, 2, 3, 4, 5, 6] rfl rfl rfl rfl rfl hl.1 (Nat.le_of_ble_eq_true rfl) ⟨Nat.zero_le _, Nat.zero_le _⟩ dX8_raise_76 ?_
          have h := Option.some.inj h
          subst h
          rw [hQQ]
          subst hAe
          exact W.iret (v := r_11) hx hb hr (fun t ht hW => ⟨⟨_, (), rfl, rfl, by rw [ht]; exact hP, va_K.moved hW.alike hK, hD⟩, hS.F ht⟩) hS.2.2 dX8_raise_79
        · have h := (if_neg c_8).symm.trans h
          refine lv_ldc hx hb hown w_4 dX8_raise_49 ?_
          have h := Option.some.inj h
          subst h
          rw [hQQ]
          subst hAe
          exact W.iret (v := (-1000003)) hx hb hr (fun t ht hW => ⟨⟨_, (), rfl, rfl, by rw [ht]; exact hP, va_K.moved hW.alike hK, hD⟩, hS.F ht⟩) hS.2.2 dX8_raise_51
      · have h := (if_neg c_6).symm.trans h
        refine lv_ldc hx hb hown w_5 dX8_raise_33 ?_
        have h := Option.some.inj h
        subst h
        rw [hQQ]
        subst hAe
        exact W.iret (v := (-1000002)) hx hb hr (fun t ht hW => ⟨⟨_, (), rfl, rfl, by rw [ht]; exact hP, va_K.moved hW.alike hK, hD⟩, hS.F ht⟩) hS.2.2 dX8_raise_35
    · have h := (if_pos c_4).symm.trans h
      refine lv_ldc hx hb hown w_2 dX8_raise_18 ?_
      have h := Option.some.inj h
      subst h
      rw [hQQ]
      subst hAe
      exact W.iret (v := (-1000001)) hx hb hr (fun t ht hW => ⟨⟨_, (), rfl, rfl, by rw [ht]; exact hP, va_K.moved hW.alike hK, hD⟩, hS.F ht⟩) hS.2.2 dX8_raise_20
def fX8_give (land_hour : Int32) (land_bidders : Int32) (land_heights : (Nat → Int32)) (land_holders : (Nat → Int32)) (land_purses : (Nat → Int32)) (acts_saved : (Nat → Int32)) (acts_next : Int32) (acts_kept : Int32) (v1 : Int32) (v2 : Int32) (v3 : Int32) : Option (Int32 × (Nat → Int32) × (Nat → Int32) × Int32 × Int32) :=
  bd1 (fX3_hasBidder land_bidders v1) (fun r_1 => (if r_1 = 0 then some ((-1000001), land_holders, acts_saved, acts_next, acts_kept) else bd1 (fX3_hasBidder land_bidders v2) (fun r_3 => (if r_3 = 0 then some ((-1000001), land_holders, acts_saved, acts_next, acts_kept) else (if v1 = v2 then some ((-1000001), land_holders, acts_saved, acts_next, acts_kept) else bd1 (fX8_isCell v3) (fun r_6 => (if r_6 = 0 then some ((-1000001), land_holders, acts_saved, acts_next, acts_kept) else bd1 (fX3_holder land_holders v3) (fun r_8 => (if r_8 = v1 then bd3 (fX0_keep acts_saved acts_next acts_kept land_hour land_heights land_holders land_purses) (fun acts_saved_10 acts_next_10 acts_kept_10 => bd1 (fX3_handOver land_holders v3 v2) (fun land_holders_11 => bd1 (fX3_cellsOf land_holders_11 v2) (fun r_12 => some (r_12, land_holders_11, acts_saved_10, acts_next_10, acts_kept_10)))) else some ((-1000002), land_holders, acts_saved, acts_next, acts_kept))))))))))
abbrev rmX8_give : Room := { frames := 3, cells := 0, slots := 0, locals := 83 }
theorem ddX8_give : yX8_give.cls ≠ "java/lang/invoke/MethodHandle" ∧ yX8_give.cls ≠ "java/lang/invoke/VarHandle" ∧ (parseMethodDescriptor yX8_give.desc).map (fun d => d.parameters.length) = some 3 := by decide +kernel
set_option maxHeartbeats 4000000 in
set_option maxRecDepth 100000 in
theorem m_X8_give (l : Launch) (dC : Nat → ClassId) (dI : Nat → Nat → Nat) (cI cZ : ClassId) (q_s q_rows q_tape q_land q_spare q_firstImage q_secondImage q_acts q_basket q_asks q_land q_land_heights q_land_holders q_land_kinds q_land_purses q_land_homes q_acts q_acts_saved : Nat) (s_finding : Int32) (land_told : Int32) (land_low : Int32) (land_high : Int32) (land_price : Int32) (land_hour : Int32) (land_bidders : Int32) (land_heights : (Nat → Int32)) (land_holders : (Nat → Int32)) (land_kinds : (Nat → Int32)) (land_purses : (Nat → Int32)) (land_homes : (Nat → Int32)) (acts_saved : (Nat → Int32)) (acts_next : Int32) (acts_kept : Int32) (v1 : Int32) (v2 : Int32) (v3 : Int32) (sz : Nat) (res : Int32 × (Nat → Int32) × (Nat → Int32) × Int32 × Int32) (hf : fX8_give land_hour land_bidders land_heights land_holders land_purses acts_saved acts_next acts_kept v1 v2 v3 = some res) : Met l yX8_give wsX8_give rmX8_give (mtPc (dC, dI) (tyZ cI cZ) ((W_X cI cZ q_s q_rows q_tape q_land q_spare q_firstImage q_secondImage q_acts q_basket q_asks s_finding) ++ ((W_Isle cI cZ q_land q_land_heights q_land_holders q_land_kinds q_land_purses q_land_homes land_told land_low land_high land_price land_hour land_bidders land_heights land_holders land_kinds land_purses land_homes) ++ ((W_Acts cI cZ q_acts q_acts_saved acts_saved acts_next acts_kept)))) [.ref q_s, .int v1, .int v2, .int v3] sz) (mtQi (dC, dI) (tyZ cI cZ) ((W_X cI cZ q_s q_rows q_tape q_land q_spare q_firstImage q_secondImage q_acts q_basket q_asks s_finding) ++ ((W_Isle cI cZ q_land q_land_heights q_land_holders q_land_kinds q_land_purses q_land_homes land_told land_low land_high land_price land_hour land_bidders land_heights land_holders land_kinds land_purses land_homes) ++ ((W_Acts cI cZ q_acts q_acts_saved acts_saved acts_next acts_kept)))) ((W_X cI cZ q_s q_rows q_tape q_land q_spare q_firstImage q_secondImage q_acts q_basket q_asks s_finding) ++ ((W_Isle cI cZ q_land q_land_heights q_land_holders q_land_kinds q_land_purses q_land_homes land_told land_low land_high land_price land_hour land_bidders land_heights res.2.1 land_kinds land_purses land_homes) ++ ((W_Acts cI cZ q_acts q_acts_saved res.2.2.1 res.2.2.2.1 res.2.2.2.2)))) res.1 sz) 0 0 (va_A ((W_X cI cZ q_s q_rows q_tape q_land q_spare q_firstImage q_secondImage q_acts q_basket q_asks s_finding) ++ ((W_Isle cI cZ q_land q_land_heights q_land_holders q_land_kinds q_land_purses q_land_homes land_told land_low land_high land_price land_hour land_bidders land_heights land_holders land_kinds land_purses land_homes) ++ ((W_Acts cI cZ q_acts q_acts_saved acts_saved acts_next acts_kept)))) sz) := by
  refine Met.ofW (cc := cX8_give) (maxL := 4) (ret := (some .int)) (by decide) rfl ?_
  intro p e s m args below meth c s₁ B hml hv
  obtain ⟨rfl, hsz, hP, hK, hD0⟩ := hv
  have hx := B.exec
  have hb := B.bytes
  have hr := B.returns
  have hts := atoms_spec (ws := wsX8_give) B.pre
  have hown : s.vm.findClass RX8 = some m.cls := findClass_of_methodNamed B.named
  have hlocks := B.notSynchronized
  subst hsz
  have hD := hD0.self (sz := s.heap.size)
  obtain ⟨A, hAe⟩ : ∃ A, A = va_A ((W_X cI cZ q_s q_rows q_tape q_land q_spare q_firstImage q_secondImage q_acts q_basket q_asks s_finding) ++ ((W_Isle cI cZ q_land q_land_heights q_land_holders q_land_kinds q_land_purses q_land_homes land_told land_low land_high land_price land_hour land_bidders land_heights land_holders land_kinds land_purses land_homes) ++ ((W_Acts cI cZ q_acts q_acts_saved acts_saved acts_next acts_kept)))) s.heap.size := ⟨_, rfl⟩
  rw [← hAe] at hD
  have hA : ∀ q : Nat, s.heap.size ≤ q → A q := fun q h => by rw [hAe]; exact Or.inr h
  have hS : va_S A s.heap s.heap [] := va_S.rf
  have hl := lv_entry ([.ref q_s, .int v1, .int v2, .int v3]) (n := 4) (Nat.le_of_ble_eq_true rfl)
  rw [lg_entry_eq]
  generalize (lg_sl ([.ref q_s, .int v1, .int v2, .int v3]) ++ List.replicate (4 - (lg_sl ([.ref q_s, .int v1, .int v2, .int v3])).length) Slot.unset).toArray = ls at hl ⊢
  have hl : lv_has ls 4 [(0, .ref q_s), (1, .int v1), (2, .int v2), (3, .int v3)] := hl
  obtain ⟨QQ, hQQ⟩ : ∃ Q, Q = MQ below (mtQi (dC, dI) (tyZ cI cZ) ((W_X cI cZ q_s q_rows q_tape q_land q_spare q_firstImage q_secondImage q_acts q_basket q_asks s_finding) ++ ((W_Isle cI cZ q_land q_land_heights q_land_holders q_land_kinds q_land_purses q_land_homes land_told land_low land_high land_price land_hour land_bidders land_heights land_holders land_kinds land_purses land_homes) ++ ((W_Acts cI cZ q_acts q_acts_saved acts_saved acts_next acts_kept)))) ((W_X cI cZ q_s q_rows q_tape q_land q_spare q_firstImage q_secondImage q_acts q_basket q_asks s_finding) ++ ((W_Isle cI cZ q_land q_land_heights q_land_holders q_land_kinds q_land_purses q_land_homes land_told land_low land_high land_price land_hour land_bidders land_heights res.2.1 land_kinds land_purses land_homes) ++ ((W_Acts cI cZ q_acts q_acts_saved res.2.2.1 res.2.2.2.1 res.2.2.2.2)))) res.1 s.heap.size) ([.ref q_s, .int v1, .int v2, .int v3] : List Value).toArray s 0 0 (va_A ((W_X cI cZ q_s q_rows q_tape q_land q_spare q_firstImage q_secondImage q_acts q_basket q_asks s_finding) ++ ((W_Isle cI cZ q_land q_land_heights q_land_holders q_land_kinds q_land_purses q_land_homes land_told land_low land_high land_price land_hour land_bidders land_heights land_holders land_kinds land_purses land_homes) ++ ((W_Acts cI cZ q_acts q_acts_saved acts_saved acts_next acts_kept)))) s.heap.size) := ⟨_, rfl⟩
  rw [← hQQ]
  have w_0 := hts (Cond.fieldLink RX8 26 "TideInches" "land" "LTideInches$Isle;") (List.mem_of_getElem? (i := 1) rfl)
  have w_1 := (fun w hw => List.mem_cons_of_mem _ (List.mem_append_left _ (List.mem_append_left _ (List.mem_append_right _ hw))) : ∀ w ∈ wsX80, w ∈ wsX8_give)
  have w_2 := hts (Cond.constant RX8 68 (-1000001)) (List.mem_of_getElem? (i := 2) rfl)
  have w_3 := hts (Cond.fieldLink RX8 42 "TideInches" "acts" "LTideInches$Acts;") (List.mem_of_getElem? (i := 4) rfl)
  have w_4 := hts (Cond.constant RX8 136 (-1000002)) (List.mem_of_getElem? (i := 3) rfl)
  have h := hf
  unfold fX8_give at h
  refine lv_aload_n hx hb dX8_give_0 rfl (lv_at hl 0 rfl) ?_
  refine va_get (D := (dC, dI)) (ci := 6) (v := .ref q_land) (C := RX8) (T := TX8) (N := 10) hx hb hts w_1 hown hK hP 0 rfl rfl 2 (by decide) w_0 (fun _ h9 => h9) rfl dX8_give_1 ?_
  refine lv_iload_n hx hb dX8_give_4 rfl (lv_at hl 1 rfl) ?_
  obtain ⟨r_1, hc_1, h⟩ := bd1_of h
  refine cl_rV (As := [.int v1]) (rest := []) ⟨hx, hb, hml, hown, hts⟩ (m_X3_hasBidder l dC dI cI cZ q_land q_land_heights q_land_holders q_land_kinds q_land_purses q_land_homes land_told land_low land_high land_price land_hour land_bidders land_heights land_holders land_kinds land_purses land_homes v1 (r_1) hc_1) (cwV 1 hts gX8_give_X3_hasBidder rfl rfl rfl ⟨rfl, ddX3_hasBidder⟩ ⟨Nat.le_of_ble_eq_true rfl, Nat.le_of_ble_eq_true rfl⟩) hK hP [1, 2, 3, 4, 5, 6] rfl rfl rfl rfl rfl hl.1 (Nat.le_of_ble_eq_true rfl) ⟨Nat.zero_le _, Nat.zero_le _⟩ dX8_give_5 ?_
  refine lv_if_eq (tgt := 34) hx hb dX8_give_8 (by decide) (fun c_2 => ?_) (fun c_2 => ?_)
  · have h := (if_pos c_2).symm.trans h
    refine lv_ldc hx hb hown w_2 dX8_give_34 ?_
    have h := Option.some.inj h
    subst h
    rw [hQQ]
    subst hAe
    exact W.iret (v := (-1000001)) hx hb hr (fun t ht hW => ⟨⟨_, (), rfl, rfl, by rw [ht]; exact hP, va_K.moved hW.alike hK, hD⟩, hS.F ht⟩) hS.2.2 dX8_give_36
  · have h := (if_neg c_2).symm.trans h
    refine lv_aload_n hx hb dX8_give_11 rfl (lv_at hl 0 rfl) ?_
    refine va_get (D := (dC, dI)) (ci := 6) (v := .ref q_land) (C := RX8) (T := TX8) (N := 10) hx hb hts w_1 hown hK hP 0 rfl rfl 2 (by decide) w_0 (fun _ h9 => h9) rfl dX8_give_12 ?_
    refine lv_iload_n hx hb dX8_give_15 rfl (lv_at hl 2 rfl) ?_
    obtain ⟨r_3, hc_3, h⟩ := bd1_of h
    refine cl_rV (As := [.int v2]) (rest := []) ⟨hx, hb, hml, hown, hts⟩ (m_X3_hasBidder l dC dI cI cZ q_land q_land_heights q_land_holders q_land_kinds q_land_purses q_land_homes land_told land_low land_high land_price land_hour land_bidders land_heights land_holders land_kinds land_purses land_homes v2 (r_3) hc_3) (cwV 1 hts gX8_give_X3_hasBidder rfl rfl rfl ⟨rfl, ddX3_hasBidder⟩ ⟨Nat.le_of_ble_eq_true rfl, Nat.le_of_ble_eq_true rfl⟩) hK hP [1, 2, 3, 4, 5, 6] rfl rfl rfl rfl rfl hl.1 (Nat.le_of_ble_eq_true rfl) ⟨Nat.zero_le _, Nat.zero_le _⟩ dX8_give_16 ?_
    refine lv_if_eq (tgt := 34) hx hb dX8_give_19 (by decide) (fun c_4 => ?_) (fun c_4 => ?_)
    · have h := (if_pos c_4).symm.trans h
      refine lv_ldc hx hb hown w_2 dX8_give_34 ?_
      have h := Option.some.inj h
      subst h
      rw [hQQ]
      subst hAe
      exact W.iret (v := (-1000001)) hx hb hr (fun t ht hW => ⟨⟨_, (), rfl, rfl, by rw [ht]; exact hP, va_K.moved hW.alike hK, hD⟩, hS.F ht⟩) hS.2.2 dX8_give_36
    · have h := (if_neg c_4).symm.trans h
      refine lv_iload_n hx hb dX8_give_22 rfl (lv_at hl 1 rfl) ?_
      refine lv_iload_n hx hb dX8_give_23 rfl (lv_at hl 2 rfl) ?_
      refine lv_icmp_eq (tgt := 34) hx hb dX8_give_24 (by decide) (fun c_5 => ?_) (fun c_5 => ?_)
      · have h := (if_pos c_5).symm.trans h
        refine lv_ldc hx hb hown w_2 dX8_give_34 ?_
        have h := Option.some.inj h
        subst h
        rw [hQQ]
        subst hAe
        exact W.iret (v := (-1000001)) hx hb hr (fun t ht hW => ⟨⟨_, (), rfl, rfl, by rw [ht]; exact hP, va_K.moved hW.alike hK, hD⟩, hS.F ht⟩) hS.2.2 dX8_give_36
      · have h := (if_neg c_5).symm.trans h
        refine lv_iload_n hx hb dX8_give_27 rfl (lv_at hl 3 rfl) ?_
        obtain ⟨r_6, hc_6, h⟩ := bd1_of h
        refine cl_pS (As := [.int v3]) (rest := []) ⟨hx, hb, hml, hown, hts⟩ (m_X8_isCell l v3 (r_6) hc_6) (va_cwS 1 hts gX8_give_X8_isCell rfl rfl rfl ddX8_isCell ⟨Nat.le_of_ble_eq_true rfl, Nat.le_of_ble_eq_true rfl⟩) rfl rfl hl.1 (Nat.le_of_ble_eq_true rfl) ⟨Nat.zero_le _, Nat.zero_le _⟩ dX8_give_28 ?_
        refine lv_if_ne (tgt := 37) hx hb dX8_give_31 (by decide) (fun c_7 => ?_) (fun c_7 => ?_)
        · have h := (if_neg c_7).symm.trans h
          refine lv_aload_n hx hb dX8_give_37 rfl (lv_at hl 0 rfl) ?_
          refine va_get (D := (dC, dI)) (ci := 6) (v := .ref q_land) (C := RX8) (T := TX8) (N := 10) hx hb hts w_1 hown hK hP 0 rfl rfl 2 (by decide) w_0 (fun _ h9 => h9) rfl dX8_give_38 ?_
          refine lv_iload_n hx hb dX8_give_41 rfl (lv_at hl 3 rfl) ?_
          obtain ⟨r_8, hc_8, h⟩ := bd1_of h
          refine cl_rV (As := [.int v3]) (rest := []) ⟨hx, hb, hml, hown, hts⟩ (m_X3_holder l dC dI cI cZ q_land q_land_heights q_land_holders q_land_kinds q_land_purses q_land_homes land_told land_low land_high land_price land_hour land_bidders land_heights land_holders land_kinds land_purses land_homes v3 (r_8) hc_8) (cwV 1 hts gX8_give_X3_holder rfl rfl rfl ⟨rfl, ddX3_holder⟩ ⟨Nat.le_of_ble_eq_true rfl, Nat.le_of_ble_eq_true rfl⟩) hK hP [1, 2, 3, 4, 5, 6] rfl rfl rfl rfl rfl hl.1 (Nat.le_of_ble_eq_true rfl) ⟨Nat.zero_le _, Nat.zero_le _⟩ dX8_give_42 ?_
          refine lv_iload_n hx hb dX8_give_45 rfl (lv_at hl 1 rfl) ?_
          refine lv_icmp_eq (tgt := 52) hx hb dX8_give_46 (by decide) (fun c_9 => ?_) (fun c_9 => ?_)
          · have h := (if_pos c_9).symm.trans h
            refine lv_aload_n hx hb dX8_give_52 rfl (lv_at hl 0 rfl) ?_
            refine va_get (D := (dC, dI)) (ci := 6) (v := .ref q_acts) (C := RX8) (T := TX8) (N := 10) hx hb hts w_1 hown hK hP 0 rfl rfl 6 (by decide) w_3 (fun _ h9 => h9) rfl dX8_give_53 ?_
            refine lv_aload_n hx hb dX8_give_56 rfl (lv_at hl 0 rfl) ?_
            refine va_get (D := (dC, dI)) (ci := 6) (v := .ref q_land) (C := RX8) (T := TX8) (N := 10) hx hb hts w_1 hown hK hP 0 rfl rfl 2 (by decide) w_0 (fun _ h9 => h9) rfl dX8_give_57 ?_
            obtain ⟨acts_saved_10, acts_next_10, acts_kept_10, hc_10, h⟩ := bd3_of h
            refine cl_mVv (As := [.ref q_land]) (rest := []) (ws' := (W_X cI cZ q_s q_rows q_tape q_land q_spare q_firstImage q_secondImage q_acts q_basket q_asks s_finding) ++ ((W_Isle cI cZ q_land q_land_heights q_land_holders q_land_kinds q_land_purses q_land_homes land_told land_low land_high land_price land_hour land_bidders land_heights land_holders land_kinds land_purses land_homes) ++ ((W_Acts cI cZ q_acts q_acts_saved acts_saved_10 acts_next_10 acts_kept_10)))) (wr := (W_X cI cZ q_s q_rows q_tape q_land q_spare q_firstImage q_secondImage q_acts q_basket q_asks s_finding)) ⟨hx, hb, hml, hown, hts⟩ (m_X0_keep l dC dI cI cZ q_acts q_acts_saved q_land q_land_heights q_land_holders q_land_kinds q_land_purses q_land_homes acts_saved acts_next acts_kept land_told land_low land_high land_price land_hour land_bidders land_heights land_holders land_kinds land_purses land_homes _ (acts_saved_10, acts_next_10, acts_kept_10) hc_10) (cwV 1 hts gX8_give_X0_keep rfl rfl rfl ⟨rfl, ddX0_keep⟩ ⟨Nat.le_of_ble_eq_true rfl, Nat.le_of_ble_eq_true rfl⟩) hK hP hD hS hA [7, 8, 1, 2, 3, 4, 5, 6] [0] rfl rfl rfl rfl (by decide) [0, 3, 4, 5, 6, 7, 8, 1, 2] rfl rfl rfl rfl rfl rfl rfl hl.1 (Nat.le_of_ble_eq_true rfl) ⟨Nat.zero_le _, Nat.zero_le _⟩ dX8_give_60 (fun H locs hP hD hS => ?_)
            refine lv_aload_n hx hb dX8_give_63 rfl (lv_at hl 0 rfl) ?_
            refine va_get (D := (dC, dI)) (ci := 6) (v := .ref q_land) (C := RX8) (T := TX8) (N := 10) hx hb hts w_1 hown hK hP 0 rfl rfl 2 (by decide) w_0 (fun _ h9 => h9) rfl dX8_give_64 ?_
            refine lv_iload_n hx hb dX8_give_67 rfl (lv_at hl 3 rfl) ?_
            refine lv_iload_n hx hb dX8_give_68 rfl (lv_at hl 2 rfl) ?_
            obtain ⟨land_holders_11, hc_11, h⟩ := bd1_of h
            refine cl_mVv (As := [.int v3, .int v2]) (rest := []) (ws' := (W_X cI cZ q_s q_rows q_tape q_land q_spare q_firstImage q_secondImage q_acts q_basket q_asks s_finding) ++ ((W_Isle cI cZ q_land q_land_heights q_land_holders q_land_kinds q_land_purses q_land_homes land_told land_low land_high land_price land_hour land_bidders land_heights land_holders_11 land_kinds land_purses land_homes) ++ ((W_Acts cI cZ q_acts q_acts_saved acts_saved_10 acts_next_10 acts_kept_10)))) (wr := (W_X cI cZ q_s q_rows q_tape q_land q_spare q_firstImage q_secondImage q_acts q_basket q_asks s_finding) ++ ((W_Acts cI cZ q_acts q_acts_saved acts_saved_10 acts_next_10 acts_kept_10))) ⟨hx, hb, hml, hown, hts⟩ (m_X3_handOver l dC dI cI cZ q_land q_land_heights q_land_holders q_land_kinds q_land_purses q_land_homes land_told land_low land_high land_price land_hour land_bidders land_heights land_holders land_kinds land_purses land_homes v3 v2 _ (land_holders_11) hc_11) (cwV 2 hts gX8_give_X3_handOver rfl rfl rfl ⟨rfl, ddX3_handOver⟩ ⟨Nat.le_of_ble_eq_true rfl, Nat.le_of_ble_eq_true rfl⟩) hK hP hD hS hA [1, 2, 3, 4, 5, 6] [0, 7, 8] rfl rfl rfl rfl (by decide) [0, 3, 4, 5, 6, 7, 8, 1, 2] rfl rfl rfl rfl rfl rfl rfl hl.1 (Nat.le_of_ble_eq_true rfl) ⟨Nat.zero_le _, Nat.zero_le _⟩ dX8_give_69 (fun H locs hP hD hS => ?_)
            refine lv_aload_n hx hb dX8_give_72 rfl (lv_at hl 0 rfl) ?_
            refine va_get (D := (dC, dI)) (ci := 6) (v := .ref q_land) (C := RX8) (T := TX8) (N := 10) hx hb hts w_1 hown hK hP 0 rfl rfl 2 (by decide) w_0 (fun _ h9 => h9) rfl dX8_give_73 ?_
            refine lv_iload_n hx hb dX8_give_76 rfl (lv_at hl 2 rfl) ?_
            obtain ⟨r_12, hc_12, h⟩ := bd1_of h
            refine cl_rV (As := [.int v2]) (rest := []) ⟨hx, hb, hml, hown, hts⟩ (m_X3_cellsOf l dC dI cI cZ q_land q_land_heights q_land_holders q_land_kinds q_land_purses q_land_homes land_told land_low land_high land_price land_hour land_bidders land_heights land_holders_11 land_kinds land_purses land_homes v2 (r_12) hc_12) (cwV 1 hts gX8_give_X3_cellsOf rfl rfl rfl ⟨rfl, ddX3_cellsOf⟩ ⟨Nat.le_of_ble_eq_true rfl, Nat.le_of_ble_eq_true rfl⟩) hK hP [1, 2, 3, 4, 5, 6] rfl rfl rfl rfl rfl hl.1 (Nat.le_of_ble_eq_true rfl) ⟨Nat.zero_le _, Nat.zero_le _⟩ dX8_give_77 ?_
            have h := Option.some.inj h
            subst h
            rw [hQQ]
            subst hAe
            exact W.iret (v := r_12) hx hb hr (fun t ht hW => ⟨⟨_, (), rfl, rfl, by rw [ht]; exact hP, va_K.moved hW.alike hK, hD⟩, hS.F ht⟩) hS.2.2 dX8_give_80
          · have h := (if_neg c_9).symm.trans h
            refine lv_ldc hx hb hown w_4 dX8_give_49 ?_
            have h := Option.some.inj h
            subst h
            rw [hQQ]
            subst hAe
            exact W.iret (v := (-1000002)) hx hb hr (fun t ht hW => ⟨⟨_, (), rfl, rfl, by rw [ht]; exact hP, va_K.moved hW.alike hK, hD⟩, hS.F ht⟩) hS.2.2 dX8_give_51
        · have h := (if_pos c_7).symm.trans h
          refine lv_ldc hx hb hown w_2 dX8_give_34 ?_
          have h := Option.some.inj h
          subst h
          rw [hQQ]
          subst hAe
          exact W.iret (v := (-1000001)) hx hb hr (fun t ht hW => ⟨⟨_, (), rfl, rfl, by rw [ht]; exact hP, va_K.moved hW.alike hK, hD⟩, hS.F ht⟩) hS.2.2 dX8_give_36
def fX8_bidder (land_bidders : Int32) (land_holders : (Nat → Int32)) (land_purses : (Nat → Int32)) (land_homes : (Nat → Int32)) (v1 : Int32) (v2 : Int32) : Option (Int32) :=
  bd1 (fX3_hasBidder land_bidders v1) (fun r_1 => (if r_1 = 0 then some ((-1000001)) else (if v2 = 0 then bd1 (fX3_purse land_purses v1) (fun r_4 => some (r_4)) else (if v2 = 1 then bd1 (fX3_homeOf land_homes v1) (fun r_6 => some (r_6)) else (if v2 = 2 then bd1 (fX3_cellsOf land_holders v1) (fun r_8 => some (r_8)) else some ((-1000001)))))))
abbrev rmX8_bidder : Room := { frames := 1, cells := 0, slots := 0, locals := 23 }
theorem ddX8_bidder : yX8_bidder.cls ≠ "java/lang/invoke/MethodHandle" ∧ yX8_bidder.cls ≠ "java/lang/invoke/VarHandle" ∧ (parseMethodDescriptor yX8_bidder.desc).map (fun d => d.parameters.length) = some 2 := by decide +kernel
set_option maxHeartbeats 4000000 in
set_option maxRecDepth 100000 in
theorem m_X8_bidder (l : Launch) (dC : Nat → ClassId) (dI : Nat → Nat → Nat) (cI cZ : ClassId) (q_s q_rows q_tape q_land q_spare q_firstImage q_secondImage q_acts q_basket q_asks q_land q_land_heights q_land_holders q_land_kinds q_land_purses q_land_homes : Nat) (s_finding : Int32) (land_told : Int32) (land_low : Int32) (land_high : Int32) (land_price : Int32) (land_hour : Int32) (land_bidders : Int32) (land_heights : (Nat → Int32)) (land_holders : (Nat → Int32)) (land_kinds : (Nat → Int32)) (land_purses : (Nat → Int32)) (land_homes : (Nat → Int32)) (v1 : Int32) (v2 : Int32) (res : Int32) (hf : fX8_bidder land_bidders land_holders land_purses land_homes v1 v2 = some res) : Met l yX8_bidder wsX8_bidder rmX8_bidder (rdPc (dC, dI) (tyZ cI cZ) ((W_X cI cZ q_s q_rows q_tape q_land q_spare q_firstImage q_secondImage q_acts q_basket q_asks s_finding) ++ ((W_Isle cI cZ q_land q_land_heights q_land_holders q_land_kinds q_land_purses q_land_homes land_told land_low land_high land_price land_hour land_bidders land_heights land_holders land_kinds land_purses land_homes))) [.ref q_s, .int v1, .int v2]) (rdQ res) 0 0 (fun _ => False) := by
  refine Met.ofW (cc := cX8_bidder) (maxL := 3) (ret := (some .int)) (by decide) rfl ?_
  intro p e s m args below meth c s₁ B hml hv
  obtain ⟨rfl, hP, hK⟩ := hv
  have hx := B.exec
  have hb := B.bytes
  have hr := B.returns
  have hts := atoms_spec (ws := wsX8_bidder) B.pre
  have hown : s.vm.findClass RX8 = some m.cls := findClass_of_methodNamed B.named
  have hlocks := B.notSynchronized
  have hl := lv_entry ([.ref q_s, .int v1, .int v2]) (n := 3) (Nat.le_of_ble_eq_true rfl)
  rw [lg_entry_eq]
  generalize (lg_sl ([.ref q_s, .int v1, .int v2]) ++ List.replicate (3 - (lg_sl ([.ref q_s, .int v1, .int v2])).length) Slot.unset).toArray = ls at hl ⊢
  have hl : lv_has ls 3 [(0, .ref q_s), (1, .int v1), (2, .int v2)] := hl
  obtain ⟨QQ, hQQ⟩ : ∃ Q, Q = MQ below (rdQ res) ([.ref q_s, .int v1, .int v2] : List Value).toArray s 0 0 (fun _ => False) := ⟨_, rfl⟩
  rw [← hQQ]
  have w_0 := hts (Cond.fieldLink RX8 26 "TideInches" "land" "LTideInches$Isle;") (List.mem_of_getElem? (i := 1) rfl)
  have w_1 := (fun w hw => List.mem_cons_of_mem _ (List.mem_append_left _ (List.mem_append_right _ hw)) : ∀ w ∈ wsX80, w ∈ wsX8_bidder)
  have w_2 := hts (Cond.constant RX8 68 (-1000001)) (List.mem_of_getElem? (i := 2) rfl)
  have h := hf
  unfold fX8_bidder at h
  refine lv_aload_n hx hb dX8_bidder_0 rfl (lv_at hl 0 rfl) ?_
  refine va_get (D := (dC, dI)) (ci := 6) (v := .ref q_land) (C := RX8) (T := TX8) (N := 10) hx hb hts w_1 hown hK hP 0 rfl rfl 2 (by decide) w_0 (fun _ h9 => h9) rfl dX8_bidder_1 ?_
  refine lv_iload_n hx hb dX8_bidder_4 rfl (lv_at hl 1 rfl) ?_
  obtain ⟨r_1, hc_1, h⟩ := bd1_of h
  refine cl_rV (As := [.int v1]) (rest := []) ⟨hx, hb, hml, hown, hts⟩ (m_X3_hasBidder l dC dI cI cZ q_land q_land_heights q_land_holders q_land_kinds q_land_purses q_land_homes land_told land_low land_high land_price land_hour land_bidders land_heights land_holders land_kinds land_purses land_homes v1 (r_1) hc_1) (cwV 1 hts gX8_bidder_X3_hasBidder rfl rfl rfl ⟨rfl, ddX3_hasBidder⟩ ⟨Nat.le_of_ble_eq_true rfl, Nat.le_of_ble_eq_true rfl⟩) hK hP [1, 2, 3, 4, 5, 6] rfl rfl rfl rfl rfl hl.1 (Nat.le_of_ble_eq_true rfl) ⟨Nat.zero_le _, Nat.zero_le _⟩ dX8_bidder_5 ?_
  refine lv_if_ne (tgt := 14) hx hb dX8_bidder_8 (by decide) (fun c_2 => ?_) (fun c_2 => ?_)
  · have h := (if_neg c_2).symm.trans h
    refine lv_iload_n hx hb dX8_bidder_14 rfl (lv_at hl 2 rfl) ?_
    by_cases c_3 : v2 = 0
    · have h := (if_pos c_3).symm.trans h
      refine lv_tableIn (tgt := 40) hx hb dX8_bidder_15 (by rw [c_3]; decide) (by rw [c_3]; decide) (by rw [c_3]; rfl) (by decide) ?_
      refine lv_aload_n hx hb dX8_bidder_40 rfl (lv_at hl 0 rfl) ?_
      refine va_get (D := (dC, dI)) (ci := 6) (v := .ref q_land) (C := RX8) (T := TX8) (N := 10) hx hb hts w_1 hown hK hP 0 rfl rfl 2 (by decide) w_0 (fun _ h9 => h9) rfl dX8_bidder_41 ?_
      refine lv_iload_n hx hb dX8_bidder_44 rfl (lv_at hl 1 rfl) ?_
      obtain ⟨r_4, hc_4, h⟩ := bd1_of h
      refine cl_rV (As := [.int v1]) (rest := []) ⟨hx, hb, hml, hown, hts⟩ (m_X3_purse l dC dI cI cZ q_land q_land_heights q_land_holders q_land_kinds q_land_purses q_land_homes land_told land_low land_high land_price land_hour land_bidders land_heights land_holders land_kinds land_purses land_homes v1 (r_4) hc_4) (cwV 1 hts gX8_bidder_X3_purse rfl rfl rfl ⟨rfl, ddX3_purse⟩ ⟨Nat.le_of_ble_eq_true rfl, Nat.le_of_ble_eq_true rfl⟩) hK hP [1, 2, 3, 4, 5, 6] rfl rfl rfl rfl rfl hl.1 (Nat.le_of_ble_eq_true rfl) ⟨Nat.zero_le _, Nat.zero_le _⟩ dX8_bidder_45 ?_
      rw [hQQ]
      exact W.iret (v := r_4) hx hb hr (fun t ht hW => ⟨_, rfl, Option.some.inj h, ht⟩) (fun q hq => by cases hq) dX8_bidder_48
    have h := (if_neg c_3).symm.trans h
    by_cases c_5 : v2 = 1
    · have h := (if_pos c_5).symm.trans h
      refine lv_tableIn (tgt := 49) hx hb dX8_bidder_15 (by rw [c_5]; decide) (by rw [c_5]; decide) (by rw [c_5]; rfl) (by decide) ?_
      refine lv_aload_n hx hb dX8_bidder_49 rfl (lv_at hl 0 rfl) ?_
      refine va_get (D := (dC, dI)) (ci := 6) (v := .ref q_land) (C := RX8) (T := TX8) (N := 10) hx hb hts w_1 hown hK hP 0 rfl rfl 2 (by decide) w_0 (fun _ h9 => h9) rfl dX8_bidder_50 ?_
      refine lv_iload_n hx hb dX8_bidder_53 rfl (lv_at hl 1 rfl) ?_
      obtain ⟨r_6, hc_6, h⟩ := bd1_of h
      refine cl_rV (As := [.int v1]) (rest := []) ⟨hx, hb, hml, hown, hts⟩ (m_X3_homeOf l dC dI cI cZ q_land q_land_heights q_land_holders q_land_kinds q_land_purses q_land_homes land_told land_low land_high land_price land_hour land_bidders land_heights land_holders land_kinds land_purses land_homes v1 (r_6) hc_6) (cwV 1 hts gX8_bidder_X3_homeOf rfl rfl rfl ⟨rfl, ddX3_homeOf⟩ ⟨Nat.le_of_ble_eq_true rfl, Nat.le_of_ble_eq_true rfl⟩) hK hP [1, 2, 3, 4, 5, 6] rfl rfl rfl rfl rfl hl.1 (Nat.le_of_ble_eq_true rfl) ⟨Nat.zero_le _, Nat.zero_le _⟩ dX8_bidder_54 ?_
      rw [hQQ]
      exact W.iret (v := r_6) hx hb hr (fun t ht hW => ⟨_, rfl, Option.some.inj h, ht⟩) (fun q hq => by cases hq) dX8_bidder_57
    have h := (if_neg c_5).symm.trans h
    by_cases c_7 : v2 = 2
    · have h := (if_pos c_7).symm.trans h
      refine lv_tableIn (tgt := 58) hx hb dX8_bidder_15 (by rw [c_7]; decide) (by rw [c_7]; decide) (by rw [c_7]; rfl) (by decide) ?_
      refine lv_aload_n hx hb dX8_bidder_58 rfl (lv_at hl 0 rfl) ?_
      refine va_get (D := (dC, dI)) (ci := 6) (v := .ref q_land) (C := RX8) (T := TX8) (N := 10) hx hb hts w_1 hown hK hP 0 rfl rfl 2 (by decide) w_0 (fun _ h9 => h9) rfl dX8_bidder_59 ?_
      refine lv_iload_n hx hb dX8_bidder_62 rfl (lv_at hl 1 rfl) ?_
      obtain ⟨r_8, hc_8, h⟩ := bd1_of h
      refine cl_rV (As := [.int v1]) (rest := []) ⟨hx, hb, hml, hown, hts⟩ (m_X3_cellsOf l dC dI cI cZ q_land q_land_heights q_land_holders q_land_kinds q_land_purses q_land_homes land_told land_low land_high land_price land_hour land_bidders land_heights land_holders land_kinds land_purses land_homes v1 (r_8) hc_8) (cwV 1 hts gX8_bidder_X3_cellsOf rfl rfl rfl ⟨rfl, ddX3_cellsOf⟩ ⟨Nat.le_of_ble_eq_true rfl, Nat.le_of_ble_eq_true rfl⟩) hK hP [1, 2, 3, 4, 5, 6] rfl rfl rfl rfl rfl hl.1 (Nat.le_of_ble_eq_true rfl) ⟨Nat.zero_le _, Nat.zero_le _⟩ dX8_bidder_63 ?_
      rw [hQQ]
      exact W.iret (v := r_8) hx hb hr (fun t ht hW => ⟨_, rfl, Option.some.inj h, ht⟩) (fun q hq => by cases hq) dX8_bidder_66
    have h := (if_neg c_7).symm.trans h
    have n_3 : (v2).toInt ≠ 0 := ne_tn c_3 rfl
    have n_5 : (v2).toInt ≠ 1 := ne_tn c_5 rfl
    have n_7 : (v2).toInt ≠ 2 := ne_tn c_7 rfl
    refine lv_tableOut (tgt := 67) hx hb dX8_bidder_15 (by omega) (by decide) ?_
    refine lv_ldc hx hb hown w_2 dX8_bidder_67 ?_
    rw [hQQ]
    exact W.iret (v := (-1000001)) hx hb hr (fun t ht hW => ⟨_, rfl, Option.some.inj h, ht⟩) (fun q hq => by cases hq) dX8_bidder_69
  · have h := (if_pos c_2).symm.trans h
    refine lv_ldc hx hb hown w_2 dX8_bidder_11 ?_
    rw [hQQ]
    exact W.iret (v := (-1000001)) hx hb hr (fun t ht hW => ⟨_, rfl, Option.some.inj h, ht⟩) (fun q hq => by cases hq) dX8_bidder_13
def fX8_cell (land_told : Int32) (land_low : Int32) (land_high : Int32) (land_hour : Int32) (land_heights : (Nat → Int32)) (land_holders : (Nat → Int32)) (v1 : Int32) (v2 : Int32) : Option (Int32) :=
  bd1 (fX3_isTold land_told) (fun r_1 => (if r_1 = 0 then some ((-1000002)) else bd1 (fX8_isCell v1) (fun r_3 => (if r_3 = 0 then some ((-1000001)) else (if v2 = 0 then bd1 (fX3_height land_heights v1) (fun r_6 => some (r_6)) else (if v2 = 1 then bd1 (fX3_isHeld land_holders v1) (fun r_8 => (if r_8 = 0 then some ((-1000000)) else bd1 (fX3_holder land_holders v1) (fun r_10 => some (r_10)))) else (if v2 = 2 then bd1 (fX3_isDryBehind land_low land_high land_hour land_heights 0 v1) (fun r_12 => (if r_12 = 0 then some (0) else some (1))) else (if v2 = 3 then bd1 (fX3_levelBehind land_low land_high land_hour 0) (fun r_15 => bd1 (fX3_height land_heights v1) (fun r_16 => some ((imax 0 (r_15 - r_16))))) else some ((-1000001))))))))))
abbrev rmX8_cell : Room := { frames := 2, cells := 0, slots := 0, locals := 45 }
theorem ddX8_cell : yX8_cell.cls ≠ "java/lang/invoke/MethodHandle" ∧ yX8_cell.cls ≠ "java/lang/invoke/VarHandle" ∧ (parseMethodDescriptor yX8_cell.desc).map (fun d => d.parameters.length) = some 2 := by decide +kernel
set_option maxHeartbeats 4000000 in
set_option maxRecDepth 100000 in
theorem m_X8_cell (l : Launch) (dC : Nat → ClassId) (dI : Nat → Nat → Nat) (cI cZ : ClassId) (q_s q_rows q_tape q_land q_spare q_firstImage q_secondImage q_acts q_basket q_asks q_land q_land_heights q_land_holders q_land_kinds q_land_purses q_land_homes : Nat) (s_finding : Int32) (land_told : Int32) (land_low : Int32) (land_high : Int32) (land_price : Int32) (land_hour : Int32) (land_bidders : Int32) (land_heights : (Nat → Int32)) (land_holders : (Nat → Int32)) (land_kinds : (Nat → Int32)) (land_purses : (Nat → Int32)) (land_homes : (Nat → Int32)) (v1 : Int32) (v2 : Int32) (res : Int32) (hf : fX8_cell land_told land_low land_high land_hour land_heights land_holders v1 v2 = some res) : Met l yX8_cell wsX8_cell rmX8_cell (rdPc (dC, dI) (tyZ cI cZ) ((W_X cI cZ q_s q_rows q_tape q_land q_spare q_firstImage q_secondImage q_acts q_basket q_asks s_finding) ++ ((W_Isle cI cZ q_land q_land_heights q_land_holders q_land_kinds q_land_purses q_land_homes land_told land_low land_high land_price land_hour land_bidders land_heights land_holders land_kinds land_purses land_homes))) [.ref q_s, .int v1, .int v2]) (rdQ res) 0 0 (fun _ => False) := by
  refine Met.ofW (cc := cX8_cell) (maxL := 3) (ret := (some .int)) (by decide) rfl ?_
  intro p e s m args below meth c s₁ B hml hv
  obtain ⟨rfl, hP, hK⟩ := hv
  have hx := B.exec
  have hb := B.bytes
  have hr := B.returns
  have hts := atoms_spec (ws := wsX8_cell) B.pre
  have hown : s.vm.findClass RX8 = some m.cls := findClass_of_methodNamed B.named
  have hlocks := B.notSynchronized
  have hl := lv_entry ([.ref q_s, .int v1, .int v2]) (n := 3) (Nat.le_of_ble_eq_true rfl)
  rw [lg_entry_eq]
  generalize (lg_sl ([.ref q_s, .int v1, .int v2]) ++ List.replicate (3 - (lg_sl ([.ref q_s, .int v1, .int v2])).length) Slot.unset).toArray = ls at hl ⊢
  have hl : lv_has ls 3 [(0, .ref q_s), (1, .int v1), (2, .int v2)] := hl
  obtain ⟨QQ, hQQ⟩ : ∃ Q, Q = MQ below (rdQ res) ([.ref q_s, .int v1, .int v2] : List Value).toArray s 0 0 (fun _ => False) := ⟨_, rfl⟩
  rw [← hQQ]
  have w_0 := hts (Cond.fieldLink RX8 26 "TideInches" "land" "LTideInches$Isle;") (List.mem_of_getElem? (i := 1) rfl)
  have w_1 := (fun w hw => List.mem_cons_of_mem _ (List.mem_append_left _ (List.mem_append_right _ hw)) : ∀ w ∈ wsX80, w ∈ wsX8_cell)
  have w_2 := hts (Cond.constant RX8 199 (-1000000)) (List.mem_of_getElem? (i := 4) rfl)
  have w_3 := hts (Cond.methodLink RX8 206 Lib.Math.max.name) (List.mem_of_getElem? (i := 5) rfl)
  have w_4 := hts (Cond.static Lib.Math.max.name) (List.mem_of_getElem? (i := 6) rfl)
  have w_5 := hts (Cond.initialized "java/lang/Math") (List.mem_of_getElem? (i := 7) rfl)
  have w_6 := hts (Cond.code Lib.Math.max.name Lib.Math.max.code 2 (some .int)) (List.mem_of_getElem? (i := 8) rfl)
  have w_7 := hts (Cond.constant RX8 68 (-1000001)) (List.mem_of_getElem? (i := 3) rfl)
  have w_8 := hts (Cond.constant RX8 136 (-1000002)) (List.mem_of_getElem? (i := 2) rfl)
  have h := hf
  unfold fX8_cell at h
  refine lv_aload_n hx hb dX8_cell_0 rfl (lv_at hl 0 rfl) ?_
  refine va_get (D := (dC, dI)) (ci := 6) (v := .ref q_land) (C := RX8) (T := TX8) (N := 10) hx hb hts w_1 hown hK hP 0 rfl rfl 2 (by decide) w_0 (fun _ h9 => h9) rfl dX8_cell_1 ?_
  obtain ⟨r_1, hc_1, h⟩ := bd1_of h
  refine cl_rV (As := []) (rest := []) ⟨hx, hb, hml, hown, hts⟩ (m_X3_isTold l dC dI cI cZ q_land q_land_heights q_land_holders q_land_kinds q_land_purses q_land_homes land_told land_low land_high land_price land_hour land_bidders land_heights land_holders land_kinds land_purses land_homes (r_1) hc_1) (cwV 0 hts gX8_cell_X3_isTold rfl rfl rfl ⟨rfl, ddX3_isTold⟩ ⟨Nat.le_of_ble_eq_true rfl, Nat.le_of_ble_eq_true rfl⟩) hK hP [1, 2, 3, 4, 5, 6] rfl rfl rfl rfl rfl hl.1 (Nat.le_of_ble_eq_true rfl) ⟨Nat.zero_le _, Nat.zero_le _⟩ dX8_cell_4 ?_
  refine lv_if_ne (tgt := 13) hx hb dX8_cell_7 (by decide) (fun c_2 => ?_) (fun c_2 => ?_)
  · have h := (if_neg c_2).symm.trans h
    refine lv_iload_n hx hb dX8_cell_13 rfl (lv_at hl 1 rfl) ?_
    obtain ⟨r_3, hc_3, h⟩ := bd1_of h
    refine cl_pS (As := [.int v1]) (rest := []) ⟨hx, hb, hml, hown, hts⟩ (m_X8_isCell l v1 (r_3) hc_3) (va_cwS 1 hts gX8_cell_X8_isCell rfl rfl rfl ddX8_isCell ⟨Nat.le_of_ble_eq_true rfl, Nat.le_of_ble_eq_true rfl⟩) rfl rfl hl.1 (Nat.le_of_ble_eq_true rfl) ⟨Nat.zero_le _, Nat.zero_le _⟩ dX8_cell_14 ?_
    refine lv_if_ne (tgt := 23) hx hb dX8_cell_17 (by decide) (fun c_4 => ?_) (fun c_4 => ?_)
    · have h := (if_neg c_4).symm.trans h
      refine lv_iload_n hx hb dX8_cell_23 rfl (lv_at hl 2 rfl) ?_
      by_cases c_5 : v2 = 0
      · have h := (if_pos c_5).symm.trans h
        refine lv_tableIn (tgt := 56) hx hb dX8_cell_24 (by rw [c_5]; decide) (by rw [c_5]; decide) (by rw [c_5]; rfl) (by decide) ?_
        refine lv_aload_n hx hb dX8_cell_56 rfl (lv_at hl 0 rfl) ?_
        refine va_get (D := (dC, dI)) (ci := 6) (v := .ref q_land) (C := RX8) (T := TX8) (N := 10) hx hb hts w_1 hown hK hP 0 rfl rfl 2 (by decide) w_0 (fun _ h9 => h9) rfl dX8_cell_57 ?_
        refine lv_iload_n hx hb dX8_cell_60 rfl (lv_at hl 1 rfl) ?_
        obtain ⟨r_6, hc_6, h⟩ := bd1_of h
        refine cl_rV (As := [.int v1]) (rest := []) ⟨hx, hb, hml, hown, hts⟩ (m_X3_height l dC dI cI cZ q_land q_land_heights q_land_holders q_land_kinds q_land_purses q_land_homes land_told land_low land_high land_price land_hour land_bidders land_heights land_holders land_kinds land_purses land_homes v1 (r_6) hc_6) (cwV 1 hts gX8_cell_X3_height rfl rfl rfl ⟨rfl, ddX3_height⟩ ⟨Nat.le_of_ble_eq_true rfl, Nat.le_of_ble_eq_true rfl⟩) hK hP [1, 2, 3, 4, 5, 6] rfl rfl rfl rfl rfl hl.1 (Nat.le_of_ble_eq_true rfl) ⟨Nat.zero_le _, Nat.zero_le _⟩ dX8_cell_61 ?_
        rw [hQQ]
        exact W.iret (v := r_6) hx hb hr (fun t ht hW => ⟨_, rfl, Option.some.inj h, ht⟩) (fun q hq => by cases hq) dX8_cell_64
      have h := (if_neg c_5).symm.trans h
      by_cases c_7 : v2 = 1
      · have h := (if_pos c_7).symm.trans h
        refine lv_tableIn (tgt := 65) hx hb dX8_cell_24 (by rw [c_7]; decide) (by rw [c_7]; decide) (by rw [c_7]; rfl) (by decide) ?_
        refine lv_aload_n hx hb dX8_cell_65 rfl (lv_at hl 0 rfl) ?_
        refine va_get (D := (dC, dI)) (ci := 6) (v := .ref q_land) (C := RX8) (T := TX8) (N := 10) hx hb hts w_1 hown hK hP 0 rfl rfl 2 (by decide) w_0 (fun _ h9 => h9) rfl dX8_cell_66 ?_
        refine lv_iload_n hx hb dX8_cell_69 rfl (lv_at hl 1 rfl) ?_
        obtain ⟨r_8, hc_8, h⟩ := bd1_of h
        refine cl_rV (As := [.int v1]) (rest := []) ⟨hx, hb, hml, hown, hts⟩ (m_X3_isHeld l dC dI cI cZ q_land q_land_heights q_land_holders q_land_kinds q_land_purses q_land_homes land_told land_low land_high land_price land_hour land_bidders land_heights land_holders land_kinds land_purses land_homes v1 (r_8) hc_8) (cwV 1 hts gX8_cell_X3_isHeld rfl rfl rfl ⟨rfl, ddX3_isHeld⟩ ⟨Nat.le_of_ble_eq_true rfl, Nat.le_of_ble_eq_true rfl⟩) hK hP [1, 2, 3, 4, 5, 6] rfl rfl rfl rfl rfl hl.1 (Nat.le_of_ble_eq_true rfl) ⟨Nat.zero_le _, Nat.zero_le _⟩ dX8_cell_70 ?_
        refine lv_if_eq (tgt := 87) hx hb dX8_cell_73 (by decide) (fun c_9 => ?_) (fun c_9 => ?_)
        · have h := (if_pos c_9).symm.trans h
          refine lv_ldc hx hb hown w_2 dX8_cell_87 ?_
          rw [hQQ]
          exact W.iret (v := (-1000000)) hx hb hr (fun t ht hW => ⟨_, rfl, Option.some.inj h, ht⟩) (fun q hq => by cases hq) dX8_cell_89
        · have h := (if_neg c_9).symm.trans h
          refine lv_aload_n hx hb dX8_cell_76 rfl (lv_at hl 0 rfl) ?_
          refine va_get (D := (dC, dI)) (ci := 6) (v := .ref q_land) (C := RX8) (T := TX8) (N := 10) hx hb hts w_1 hown hK hP 0 rfl rfl 2 (by decide) w_0 (fun _ h9 => h9) rfl dX8_cell_77 ?_
          refine lv_iload_n hx hb dX8_cell_80 rfl (lv_at hl 1 rfl) ?_
          obtain ⟨r_10, hc_10, h⟩ := bd1_of h
          refine cl_rV (As := [.int v1]) (rest := []) ⟨hx, hb, hml, hown, hts⟩ (m_X3_holder l dC dI cI cZ q_land q_land_heights q_land_holders q_land_kinds q_land_purses q_land_homes land_told land_low land_high land_price land_hour land_bidders land_heights land_holders land_kinds land_purses land_homes v1 (r_10) hc_10) (cwV 1 hts gX8_cell_X3_holder rfl rfl rfl ⟨rfl, ddX3_holder⟩ ⟨Nat.le_of_ble_eq_true rfl, Nat.le_of_ble_eq_true rfl⟩) hK hP [1, 2, 3, 4, 5, 6] rfl rfl rfl rfl rfl hl.1 (Nat.le_of_ble_eq_true rfl) ⟨Nat.zero_le _, Nat.zero_le _⟩ dX8_cell_81 ?_
          refine lv_goto (tgt := 89) hx hb dX8_cell_84 (by decide) ?_
          rw [hQQ]
          exact W.iret (v := r_10) hx hb hr (fun t ht hW => ⟨_, rfl, Option.some.inj h, ht⟩) (fun q hq => by cases hq) dX8_cell_89
      have h := (if_neg c_7).symm.trans h
      by_cases c_11 : v2 = 2
      · have h := (if_pos c_11).symm.trans h
        refine lv_tableIn (tgt := 90) hx hb dX8_cell_24 (by rw [c_11]; decide) (by rw [c_11]; decide) (by rw [c_11]; rfl) (by decide) ?_
        refine lv_aload_n hx hb dX8_cell_90 rfl (lv_at hl 0 rfl) ?_
        refine va_get (D := (dC, dI)) (ci := 6) (v := .ref q_land) (C := RX8) (T := TX8) (N := 10) hx hb hts w_1 hown hK hP 0 rfl rfl 2 (by decide) w_0 (fun _ h9 => h9) rfl dX8_cell_91 ?_
        refine lv_iconst (v := 0) hx hb dX8_cell_94 (by decide) ?_
        refine lv_iload_n hx hb dX8_cell_95 rfl (lv_at hl 1 rfl) ?_
        obtain ⟨r_12, hc_12, h⟩ := bd1_of h
        refine cl_rV (As := [.int 0, .int v1]) (rest := []) ⟨hx, hb, hml, hown, hts⟩ (m_X3_isDryBehind l dC dI cI cZ q_land q_land_heights q_land_holders q_land_kinds q_land_purses q_land_homes land_told land_low land_high land_price land_hour land_bidders land_heights land_holders land_kinds land_purses land_homes 0 v1 (r_12) hc_12) (cwV 2 hts gX8_cell_X3_isDryBehind rfl rfl rfl ⟨rfl, ddX3_isDryBehind⟩ ⟨Nat.le_of_ble_eq_true rfl, Nat.le_of_ble_eq_true rfl⟩) hK hP [1, 2, 3, 4, 5, 6] rfl rfl rfl rfl rfl hl.1 (Nat.le_of_ble_eq_true rfl) ⟨Nat.zero_le _, Nat.zero_le _⟩ dX8_cell_96 ?_
        refine lv_if_eq (tgt := 106) hx hb dX8_cell_99 (by decide) (fun c_13 => ?_) (fun c_13 => ?_)
        · have h := (if_pos c_13).symm.trans h
          refine lv_iconst (v := 0) hx hb dX8_cell_106 (by decide) ?_
          rw [hQQ]
          exact W.iret (v := 0) hx hb hr (fun t ht hW => ⟨_, rfl, Option.some.inj h, ht⟩) (fun q hq => by cases hq) dX8_cell_107
        · have h := (if_neg c_13).symm.trans h
          refine lv_iconst (v := 1) hx hb dX8_cell_102 (by decide) ?_
          refine lv_goto (tgt := 107) hx hb dX8_cell_103 (by decide) ?_
          rw [hQQ]
          exact W.iret (v := 1) hx hb hr (fun t ht hW => ⟨_, rfl, Option.some.inj h, ht⟩) (fun q hq => by cases hq) dX8_cell_107
      have h := (if_neg c_11).symm.trans h
      by_cases c_14 : v2 = 3
      · have h := (if_pos c_14).symm.trans h
        refine lv_tableIn (tgt := 108) hx hb dX8_cell_24 (by rw [c_14]; decide) (by rw [c_14]; decide) (by rw [c_14]; rfl) (by decide) ?_
        refine lv_iconst (v := 0) hx hb dX8_cell_108 (by decide) ?_
        refine lv_aload_n hx hb dX8_cell_109 rfl (lv_at hl 0 rfl) ?_
        refine va_get (D := (dC, dI)) (ci := 6) (v := .ref q_land) (C := RX8) (T := TX8) (N := 10) hx hb hts w_1 hown hK hP 0 rfl rfl 2 (by decide) w_0 (fun _ h9 => h9) rfl dX8_cell_110 ?_
        refine lv_iconst (v := 0) hx hb dX8_cell_113 (by decide) ?_
        obtain ⟨r_15, hc_15, h⟩ := bd1_of h
        refine cl_rV (As := [.int 0]) (rest := [.int 0]) ⟨hx, hb, hml, hown, hts⟩ (m_X3_levelBehind l dC dI cI cZ q_land q_land_heights q_land_holders q_land_kinds q_land_purses q_land_homes land_told land_low land_high land_price land_hour land_bidders land_heights land_holders land_kinds land_purses land_homes 0 (r_15) hc_15) (cwV 1 hts gX8_cell_X3_levelBehind rfl rfl rfl ⟨rfl, ddX3_levelBehind⟩ ⟨Nat.le_of_ble_eq_true rfl, Nat.le_of_ble_eq_true rfl⟩) hK hP [1, 2, 3, 4, 5, 6] rfl rfl rfl rfl rfl hl.1 (Nat.le_of_ble_eq_true rfl) ⟨Nat.zero_le _, Nat.zero_le _⟩ dX8_cell_114 ?_
        refine lv_aload_n hx hb dX8_cell_117 rfl (lv_at hl 0 rfl) ?_
        refine va_get (D := (dC, dI)) (ci := 6) (v := .ref q_land) (C := RX8) (T := TX8) (N := 10) hx hb hts w_1 hown hK hP 0 rfl rfl 2 (by decide) w_0 (fun _ h9 => h9) rfl dX8_cell_118 ?_
        refine lv_iload_n hx hb dX8_cell_121 rfl (lv_at hl 1 rfl) ?_
        obtain ⟨r_16, hc_16, h⟩ := bd1_of h
        refine cl_rV (As := [.int v1]) (rest := [.int r_15, .int 0]) ⟨hx, hb, hml, hown, hts⟩ (m_X3_height l dC dI cI cZ q_land q_land_heights q_land_holders q_land_kinds q_land_purses q_land_homes land_told land_low land_high land_price land_hour land_bidders land_heights land_holders land_kinds land_purses land_homes v1 (r_16) hc_16) (cwV 1 hts gX8_cell_X3_height rfl rfl rfl ⟨rfl, ddX3_height⟩ ⟨Nat.le_of_ble_eq_true rfl, Nat.le_of_ble_eq_true rfl⟩) hK hP [1, 2, 3, 4, 5, 6] rfl rfl rfl rfl rfl hl.1 (Nat.le_of_ble_eq_true rfl) ⟨Nat.zero_le _, Nat.zero_le _⟩ dX8_cell_122 ?_
        refine lv_isub hx hb dX8_cell_125 ?_
        refine va_mmax hx hb (hml.trans hl.1.symm) hown w_3 w_4 w_5 w_6 (Nat.le_of_ble_eq_true rfl) (Nat.le_of_ble_eq_true rfl) (Nat.zero_le _) (Nat.zero_le _) dX8_cell_126 ?_
        rw [hQQ]
        exact W.iret (v := (imax 0 (r_15 - r_16))) hx hb hr (fun t ht hW => ⟨_, rfl, Option.some.inj h, ht⟩) (fun q hq => by cases hq) dX8_cell_129
      have h := (if_neg c_14).symm.trans h
      have n_5 : (v2).toInt ≠ 0 := ne_tn c_5 rfl
      have n_7 : (v2).toInt ≠ 1 := ne_tn c_7 rfl
      have n_11 : (v2).toInt ≠ 2 := ne_tn c_11 rfl
      have n_14 : (v2).toInt ≠ 3 := ne_tn c_14 rfl
      refine lv_tableOut (tgt := 130) hx hb dX8_cell_24 (by omega) (by decide) ?_
      refine lv_ldc hx hb hown w_7 dX8_cell_130 ?_
      rw [hQQ]
      exact W.iret (v := (-1000001)) hx hb hr (fun t ht hW => ⟨_, rfl, Option.some.inj h, ht⟩) (fun q hq => by cases hq) dX8_cell_132
    · have h := (if_pos c_4).symm.trans h
      refine lv_ldc hx hb hown w_7 dX8_cell_20 ?_
      rw [hQQ]
      exact W.iret (v := (-1000001)) hx hb hr (fun t ht hW => ⟨_, rfl, Option.some.inj h, ht⟩) (fun q hq => by cases hq) dX8_cell_22
  · have h := (if_pos c_2).symm.trans h
    refine lv_ldc hx hb hown w_8 dX8_cell_10 ?_
    rw [hQQ]
    exact W.iret (v := (-1000002)) hx hb hr (fun t ht hW => ⟨_, rfl, Option.some.inj h, ht⟩) (fun q hq => by cases hq) dX8_cell_12
def fX8_price (land_low : Int32) (land_high : Int32) (land_price : Int32) (land_hour : Int32) (land_bidders : Int32) (land_heights : (Nat → Int32)) (land_kinds : (Nat → Int32)) (v1 : Int32) (v2 : Int32) : Option (Int32) :=
  bd1 (fX3_hasBidder land_bidders v1) (fun r_1 => (if r_1 = 0 then some ((-1000001)) else bd1 (fX8_isCell v2) (fun r_3 => (if r_3 = 0 then some ((-1000001)) else bd1 (fX3_canHave land_low land_high land_hour land_heights land_kinds v1 v2) (fun r_5 => (if r_5 = 0 then some ((-1000000)) else bd1 (fX3_costTo land_price land_heights land_kinds v1 v2) (fun r_7 => some (r_7))))))))
abbrev rmX8_price : Room := { frames := 3, cells := 0, slots := 0, locals := 67 }
theorem ddX8_price : yX8_price.cls ≠ "java/lang/invoke/MethodHandle" ∧ yX8_price.cls ≠ "java/lang/invoke/VarHandle" ∧ (parseMethodDescriptor yX8_price.desc).map (fun d => d.parameters.length) = some 2 := by decide +kernel
set_option maxHeartbeats 4000000 in
set_option maxRecDepth 100000 in
theorem m_X8_price (l : Launch) (dC : Nat → ClassId) (dI : Nat → Nat → Nat) (cI cZ : ClassId) (q_s q_rows q_tape q_land q_spare q_firstImage q_secondImage q_acts q_basket q_asks q_land q_land_heights q_land_holders q_land_kinds q_land_purses q_land_homes : Nat) (s_finding : Int32) (land_told : Int32) (land_low : Int32) (land_high : Int32) (land_price : Int32) (land_hour : Int32) (land_bidders : Int32) (land_heights : (Nat → Int32)) (land_holders : (Nat → Int32)) (land_kinds : (Nat → Int32)) (land_purses : (Nat → Int32)) (land_homes : (Nat → Int32)) (v1 : Int32) (v2 : Int32) (res : Int32) (hf : fX8_price land_low land_high land_price land_hour land_bidders land_heights land_kinds v1 v2 = some res) : Met l yX8_price wsX8_price rmX8_price (rdPc (dC, dI) (tyZ cI cZ) ((W_X cI cZ q_s q_rows q_tape q_land q_spare q_firstImage q_secondImage q_acts q_basket q_asks s_finding) ++ ((W_Isle cI cZ q_land q_land_heights q_land_holders q_land_kinds q_land_purses q_land_homes land_told land_low land_high land_price land_hour land_bidders land_heights land_holders land_kinds land_purses land_homes))) [.ref q_s, .int v1, .int v2]) (rdQ res) 0 0 (fun _ => False) := by
  refine Met.ofW (cc := cX8_price) (maxL := 3) (ret := (some .int)) (by decide) rfl ?_
  intro p e s m args below meth c s₁ B hml hv
  obtain ⟨rfl, hP, hK⟩ := hv
  have hx := B.exec
  have hb := B.bytes
  have hr := B.returns
  have hts := atoms_spec (ws := wsX8_price) B.pre
  have hown : s.vm.findClass RX8 = some m.cls := findClass_of_methodNamed B.named
  have hlocks := B.notSynchronized
  have hl := lv_entry ([.ref q_s, .int v1, .int v2]) (n := 3) (Nat.le_of_ble_eq_true rfl)
  rw [lg_entry_eq]
  generalize (lg_sl ([.ref q_s, .int v1, .int v2]) ++ List.replicate (3 - (lg_sl ([.ref q_s, .int v1, .int v2])).length) Slot.unset).toArray = ls at hl ⊢
  have hl : lv_has ls 3 [(0, .ref q_s), (1, .int v1), (2, .int v2)] := hl
  obtain ⟨QQ, hQQ⟩ : ∃ Q, Q = MQ below (rdQ res) ([.ref q_s, .int v1, .int v2] : List Value).toArray s 0 0 (fun _ => False) := ⟨_, rfl⟩
  rw [← hQQ]
  have w_0 := hts (Cond.fieldLink RX8 26 "TideInches" "land" "LTideInches$Isle;") (List.mem_of_getElem? (i := 1) rfl)
  have w_1 := (fun w hw => List.mem_cons_of_mem _ (List.mem_append_left _ (List.mem_append_right _ hw)) : ∀ w ∈ wsX80, w ∈ wsX8_price)
  have w_2 := hts (Cond.constant RX8 68 (-1000001)) (List.mem_of_getElem? (i := 2) rfl)
  have w_3 := hts (Cond.constant RX8 199 (-1000000)) (List.mem_of_getElem? (i := 3) rfl)
  have h := hf
  unfold fX8_price at h
  refine lv_aload_n hx hb dX8_price_0 rfl (lv_at hl 0 rfl) ?_
  refine va_get (D := (dC, dI)) (ci := 6) (v := .ref q_land) (C := RX8) (T := TX8) (N := 10) hx hb hts w_1 hown hK hP 0 rfl rfl 2 (by decide) w_0 (fun _ h9 => h9) rfl dX8_price_1 ?_
  refine lv_iload_n hx hb dX8_price_4 rfl (lv_at hl 1 rfl) ?_
  obtain ⟨r_1, hc_1, h⟩ := bd1_of h
  refine cl_rV (As := [.int v1]) (rest := []) ⟨hx, hb, hml, hown, hts⟩ (m_X3_hasBidder l dC dI cI cZ q_land q_land_heights q_land_holders q_land_kinds q_land_purses q_land_homes land_told land_low land_high land_price land_hour land_bidders land_heights land_holders land_kinds land_purses land_homes v1 (r_1) hc_1) (cwV 1 hts gX8_price_X3_hasBidder rfl rfl rfl ⟨rfl, ddX3_hasBidder⟩ ⟨Nat.le_of_ble_eq_true rfl, Nat.le_of_ble_eq_true rfl⟩) hK hP [1, 2, 3, 4, 5, 6] rfl rfl rfl rfl rfl hl.1 (Nat.le_of_ble_eq_true rfl) ⟨Nat.zero_le _, Nat.zero_le _⟩ dX8_price_5 ?_
  refine lv_if_eq (tgt := 18) hx hb dX8_price_8 (by decide) (fun c_2 => ?_) (fun c_2 => ?_)
  · have h := (if_pos c_2).symm.trans h
    refine lv_ldc hx hb hown w_2 dX8_price_18 ?_
    rw [hQQ]
    exact W.iret (v := (-1000001)) hx hb hr (fun t ht hW => ⟨_, rfl, Option.some.inj h, ht⟩) (fun q hq => by cases hq) dX8_price_20
  · have h := (if_neg c_2).symm.trans h
    refine lv_iload_n hx hb dX8_price_11 rfl (lv_at hl 2 rfl) ?_
    obtain ⟨r_3, hc_3, h⟩ := bd1_of h
    refine cl_pS (As := [.int v2]) (rest := []) ⟨hx, hb, hml, hown, hts⟩ (m_X8_isCell l v2 (r_3) hc_3) (va_cwS 1 hts gX8_price_X8_isCell rfl rfl rfl ddX8_isCell ⟨Nat.le_of_ble_eq_true rfl, Nat.le_of_ble_eq_true rfl⟩) rfl rfl hl.1 (Nat.le_of_ble_eq_true rfl) ⟨Nat.zero_le _, Nat.zero_le _⟩ dX8_price_12 ?_
    refine lv_if_ne (tgt := 21) hx hb dX8_price_15 (by decide) (fun c_4 => ?_) (fun c_4 => ?_)
    · have h := (if_neg c_4).symm.trans h
      refine lv_aload_n hx hb dX8_price_21 rfl (lv_at hl 0 rfl) ?_
      refine va_get (D := (dC, dI)) (ci := 6) (v := .ref q_land) (C := RX8) (T := TX8) (N := 10) hx hb hts w_1 hown hK hP 0 rfl rfl 2 (by decide) w_0 (fun _ h9 => h9) rfl dX8_price_22 ?_
      refine lv_iload_n hx hb dX8_price_25 rfl (lv_at hl 1 rfl) ?_
      refine lv_iload_n hx hb dX8_price_26 rfl (lv_at hl 2 rfl) ?_
      obtain ⟨r_5, hc_5, h⟩ := bd1_of h
      refine cl_rV (As := [.int v1, .int v2]) (rest := []) ⟨hx, hb, hml, hown, hts⟩ (m_X3_canHave l dC dI cI cZ q_land q_land_heights q_land_holders q_land_kinds q_land_purses q_land_homes land_told land_low land_high land_price land_hour land_bidders land_heights land_holders land_kinds land_purses land_homes v1 v2 (r_5) hc_5) (cwV 2 hts gX8_price_X3_canHave rfl rfl rfl ⟨rfl, ddX3_canHave⟩ ⟨Nat.le_of_ble_eq_true rfl, Nat.le_of_ble_eq_true rfl⟩) hK hP [1, 2, 3, 4, 5, 6] rfl rfl rfl rfl rfl hl.1 (Nat.le_of_ble_eq_true rfl) ⟨Nat.zero_le _, Nat.zero_le _⟩ dX8_price_27 ?_
      refine lv_if_eq (tgt := 45) hx hb dX8_price_30 (by decide) (fun c_6 => ?_) (fun c_6 => ?_)
      · have h := (if_pos c_6).symm.trans h
        refine lv_ldc hx hb hown w_3 dX8_price_45 ?_
        rw [hQQ]
        exact W.iret (v := (-1000000)) hx hb hr (fun t ht hW => ⟨_, rfl, Option.some.inj h, ht⟩) (fun q hq => by cases hq) dX8_price_47
      · have h := (if_neg c_6).symm.trans h
        refine lv_aload_n hx hb dX8_price_33 rfl (lv_at hl 0 rfl) ?_
        refine va_get (D := (dC, dI)) (ci := 6) (v := .ref q_land) (C := RX8) (T := TX8) (N := 10) hx hb hts w_1 hown hK hP 0 rfl rfl 2 (by decide) w_0 (fun _ h9 => h9) rfl dX8_price_34 ?_
        refine lv_iload_n hx hb dX8_price_37 rfl (lv_at hl 1 rfl) ?_
        refine lv_iload_n hx hb dX8_price_38 rfl (lv_at hl 2 rfl) ?_
        obtain ⟨r_7, hc_7, h⟩ := bd1_of h
        refine cl_rV (As := [.int v1, .int v2]) (rest := []) ⟨hx, hb, hml, hown, hts⟩ (m_X3_costTo l dC dI cI cZ q_land q_land_heights q_land_holders q_land_kinds q_land_purses q_land_homes land_told land_low land_high land_price land_hour land_bidders land_heights land_holders land_kinds land_purses land_homes v1 v2 (r_7) hc_7) (cwV 2 hts gX8_price_X3_costTo rfl rfl rfl ⟨rfl, ddX3_costTo⟩ ⟨Nat.le_of_ble_eq_true rfl, Nat.le_of_ble_eq_true rfl⟩) hK hP [1, 2, 3, 4, 5, 6] rfl rfl rfl rfl rfl hl.1 (Nat.le_of_ble_eq_true rfl) ⟨Nat.zero_le _, Nat.zero_le _⟩ dX8_price_39 ?_
        refine lv_goto (tgt := 47) hx hb dX8_price_42 (by decide) ?_
        rw [hQQ]
        exact W.iret (v := r_7) hx hb hr (fun t ht hW => ⟨_, rfl, Option.some.inj h, ht⟩) (fun q hq => by cases hq) dX8_price_47
    · have h := (if_pos c_4).symm.trans h
      refine lv_ldc hx hb hown w_2 dX8_price_18 ?_
      rw [hQQ]
      exact W.iret (v := (-1000001)) hx hb hr (fun t ht hW => ⟨_, rfl, Option.some.inj h, ht⟩) (fun q hq => by cases hq) dX8_price_20
def fX8_ahead (land_told : Int32) (land_low : Int32) (land_high : Int32) (land_hour : Int32) (land_heights : (Nat → Int32)) (v1 : Int32) (v2 : Int32) : Option (Int32) :=
  bd1 (fX3_isTold land_told) (fun r_1 => (if r_1 = 0 then some ((-1000002)) else (if v1 < 0 then some ((-1000001)) else (if v1 ≤ 60 then (if v2 = 0 then bd1 (fX3_levelBehind land_low land_high land_hour v1) (fun r_6 => some (r_6)) else (if v2 = 1 then bd1 (fX3_dryBehind land_low land_high land_hour land_heights v1) (fun r_8 => some (r_8)) else (if v2 = 2 then bd1 (fX3_dryBehind land_low land_high land_hour land_heights v1) (fun r_10 => bd1 (fX6_parts r_10) (fun r_11 => some (r_11))) else some ((-1000001))))) else some ((-1000001))))))
abbrev rmX8_ahead : Room := { frames := 3, cells := 0, slots := 0, locals := 69 }
theorem ddX8_ahead : yX8_ahead.cls ≠ "java/lang/invoke/MethodHandle" ∧ yX8_ahead.cls ≠ "java/lang/invoke/VarHandle" ∧ (parseMethodDescriptor yX8_ahead.desc).map (fun d => d.parameters.length) = some 2 := by decide +kernel
set_option maxHeartbeats 4000000 in
set_option maxRecDepth 100000 in
theorem m_X8_ahead (l : Launch) (dC : Nat → ClassId) (dI : Nat → Nat → Nat) (cI cZ : ClassId) (q_s q_rows q_tape q_land q_spare q_firstImage q_secondImage q_acts q_basket q_asks q_land q_land_heights q_land_holders q_land_kinds q_land_purses q_land_homes : Nat) (s_finding : Int32) (land_told : Int32) (land_low : Int32) (land_high : Int32) (land_price : Int32) (land_hour : Int32) (land_bidders : Int32) (land_heights : (Nat → Int32)) (land_holders : (Nat → Int32)) (land_kinds : (Nat → Int32)) (land_purses : (Nat → Int32)) (land_homes : (Nat → Int32)) (v1 : Int32) (v2 : Int32) (res : Int32) (hf : fX8_ahead land_told land_low land_high land_hour land_heights v1 v2 = some res) : Met l yX8_ahead wsX8_ahead rmX8_ahead (rdPc (dC, dI) (tyZ cI cZ) ((W_X cI cZ q_s q_rows q_tape q_land q_spare q_firstImage q_secondImage q_acts q_basket q_asks s_finding) ++ ((W_Isle cI cZ q_land q_land_heights q_land_holders q_land_kinds q_land_purses q_land_homes land_told land_low land_high land_price land_hour land_bidders land_heights land_holders land_kinds land_purses land_homes))) [.ref q_s, .int v1, .int v2]) (rdQ res) 0 0 (fun _ => False) := by
  refine Met.ofW (cc := cX8_ahead) (maxL := 3) (ret := (some .int)) (by decide) rfl ?_
  intro p e s m args below meth c s₁ B hml hv
  obtain ⟨rfl, hP, hK⟩ := hv
  have hx := B.exec
  have hb := B.bytes
  have hr := B.returns
  have hts := atoms_spec (ws := wsX8_ahead) B.pre
  have hown : s.vm.findClass RX8 = some m.cls := findClass_of_methodNamed B.named
  have hlocks := B.notSynchronized
  have hl := lv_entry ([.ref q_s, .int v1, .int v2]) (n := 3) (Nat.le_of_ble_eq_true rfl)
  rw [lg_entry_eq]
  generalize (lg_sl ([.ref q_s, .int v1, .int v2]) ++ List.replicate (3 - (lg_sl ([.ref q_s, .int v1, .int v2])).length) Slot.unset).toArray = ls at hl ⊢
  have hl : lv_has ls 3 [(0, .ref q_s), (1, .int v1), (2, .int v2)] := hl
  obtain ⟨QQ, hQQ⟩ : ∃ Q, Q = MQ below (rdQ res) ([.ref q_s, .int v1, .int v2] : List Value).toArray s 0 0 (fun _ => False) := ⟨_, rfl⟩
  rw [← hQQ]
  have w_0 := hts (Cond.fieldLink RX8 26 "TideInches" "land" "LTideInches$Isle;") (List.mem_of_getElem? (i := 1) rfl)
  have w_1 := (fun w hw => List.mem_cons_of_mem _ (List.mem_append_left _ (List.mem_append_right _ hw)) : ∀ w ∈ wsX80, w ∈ wsX8_ahead)
  have w_2 := hts (Cond.constant RX8 68 (-1000001)) (List.mem_of_getElem? (i := 3) rfl)
  have w_3 := hts (Cond.constant RX8 136 (-1000002)) (List.mem_of_getElem? (i := 2) rfl)
  have h := hf
  unfold fX8_ahead at h
  refine lv_aload_n hx hb dX8_ahead_0 rfl (lv_at hl 0 rfl) ?_
  refine va_get (D := (dC, dI)) (ci := 6) (v := .ref q_land) (C := RX8) (T := TX8) (N := 10) hx hb hts w_1 hown hK hP 0 rfl rfl 2 (by decide) w_0 (fun _ h9 => h9) rfl dX8_ahead_1 ?_
  obtain ⟨r_1, hc_1, h⟩ := bd1_of h
  refine cl_rV (As := []) (rest := []) ⟨hx, hb, hml, hown, hts⟩ (m_X3_isTold l dC dI cI cZ q_land q_land_heights q_land_holders q_land_kinds q_land_purses q_land_homes land_told land_low land_high land_price land_hour land_bidders land_heights land_holders land_kinds land_purses land_homes (r_1) hc_1) (cwV 0 hts gX8_ahead_X3_isTold rfl rfl rfl ⟨rfl, ddX3_isTold⟩ ⟨Nat.le_of_ble_eq_true rfl, Nat.le_of_ble_eq_true rfl⟩) hK hP [1, 2, 3, 4, 5, 6] rfl rfl rfl rfl rfl hl.1 (Nat.le_of_ble_eq_true rfl) ⟨Nat.zero_le _, Nat.zero_le _⟩ dX8_ahead_4 ?_
  refine lv_if_ne (tgt := 13) hx hb dX8_ahead_7 (by decide) (fun c_2 => ?_) (fun c_2 => ?_)
  · have h := (if_neg c_2).symm.trans h
    refine lv_iload_n hx hb dX8_ahead_13 rfl (lv_at hl 1 rfl) ?_
    refine lv_if_lt (tgt := 23) hx hb dX8_ahead_14 (by decide) (fun c_3 => ?_) (fun c_3 => ?_)
    · have h := (if_pos c_3).symm.trans h
      refine lv_ldc hx hb hown w_2 dX8_ahead_23 ?_
      rw [hQQ]
      exact W.iret (v := (-1000001)) hx hb hr (fun t ht hW => ⟨_, rfl, Option.some.inj h, ht⟩) (fun q hq => by cases hq) dX8_ahead_25
    · have h := (if_neg c_3).symm.trans h
      refine lv_iload_n hx hb dX8_ahead_17 rfl (lv_at hl 1 rfl) ?_
      refine lv_bipush (v := 60) hx hb dX8_ahead_18 (by decide) ?_
      refine lv_icmp_le (tgt := 26) hx hb dX8_ahead_20 (by decide) (fun c_4 => ?_) (fun c_4 => ?_)
      · have h := (if_pos c_4).symm.trans h
        refine lv_iload_n hx hb dX8_ahead_26 rfl (lv_at hl 2 rfl) ?_
        by_cases c_5 : v2 = 0
        · have h := (if_pos c_5).symm.trans h
          refine lv_tableIn (tgt := 52) hx hb dX8_ahead_27 (by rw [c_5]; decide) (by rw [c_5]; decide) (by rw [c_5]; rfl) (by decide) ?_
          refine lv_aload_n hx hb dX8_ahead_52 rfl (lv_at hl 0 rfl) ?_
          refine va_get (D := (dC, dI)) (ci := 6) (v := .ref q_land) (C := RX8) (T := TX8) (N := 10) hx hb hts w_1 hown hK hP 0 rfl rfl 2 (by decide) w_0 (fun _ h9 => h9) rfl dX8_ahead_53 ?_
          refine lv_iload_n hx hb dX8_ahead_56 rfl (lv_at hl 1 rfl) ?_
          obtain ⟨r_6, hc_6, h⟩ := bd1_of h
          refine cl_rV (As := [.int v1]) (rest := []) ⟨hx, hb, hml, hown, hts⟩ (m_X3_levelBehind l dC dI cI cZ q_land q_land_heights q_land_holders q_land_kinds q_land_purses q_land_homes land_told land_low land_high land_price land_hour land_bidders land_heights land_holders land_kinds land_purses land_homes v1 (r_6) hc_6) (cwV 1 hts gX8_ahead_X3_levelBehind rfl rfl rfl ⟨rfl, ddX3_levelBehind⟩ ⟨Nat.le_of_ble_eq_true rfl, Nat.le_of_ble_eq_true rfl⟩) hK hP [1, 2, 3, 4, 5, 6] rfl rfl rfl rfl rfl hl.1 (Nat.le_of_ble_eq_true rfl) ⟨Nat.zero_le _, Nat.zero_le _⟩ dX8_ahead_57 ?_
          rw [hQQ]
          exact W.iret (v := r_6) hx hb hr (fun t ht hW => ⟨_, rfl, Option.some.inj h, ht⟩) (fun q hq => by cases hq) dX8_ahead_60
        have h := (if_neg c_5).symm.trans h
        by_cases c_7 : v2 = 1
        · have h := (if_pos c_7).symm.trans h
          refine lv_tableIn (tgt := 61) hx hb dX8_ahead_27 (by rw [c_7]; decide) (by rw [c_7]; decide) (by rw [c_7]; rfl) (by decide) ?_
          refine lv_aload_n hx hb dX8_ahead_61 rfl (lv_at hl 0 rfl) ?_
          refine va_get (D := (dC, dI)) (ci := 6) (v := .ref q_land) (C := RX8) (T := TX8) (N := 10) hx hb hts w_1 hown hK hP 0 rfl rfl 2 (by decide) w_0 (fun _ h9 => h9) rfl dX8_ahead_62 ?_
          refine lv_iload_n hx hb dX8_ahead_65 rfl (lv_at hl 1 rfl) ?_
          obtain ⟨r_8, hc_8, h⟩ := bd1_of h
          refine cl_rV (As := [.int v1]) (rest := []) ⟨hx, hb, hml, hown, hts⟩ (m_X3_dryBehind l dC dI cI cZ q_land q_land_heights q_land_holders q_land_kinds q_land_purses q_land_homes land_told land_low land_high land_price land_hour land_bidders land_heights land_holders land_kinds land_purses land_homes v1 (r_8) hc_8) (cwV 1 hts gX8_ahead_X3_dryBehind rfl rfl rfl ⟨rfl, ddX3_dryBehind⟩ ⟨Nat.le_of_ble_eq_true rfl, Nat.le_of_ble_eq_true rfl⟩) hK hP [1, 2, 3, 4, 5, 6] rfl rfl rfl rfl rfl hl.1 (Nat.le_of_ble_eq_true rfl) ⟨Nat.zero_le _, Nat.zero_le _⟩ dX8_ahead_66 ?_
          rw [hQQ]
          exact W.iret (v := r_8) hx hb hr (fun t ht hW => ⟨_, rfl, Option.some.inj h, ht⟩) (fun q hq => by cases hq) dX8_ahead_69
        have h := (if_neg c_7).symm.trans h
        by_cases c_9 : v2 = 2
        · have h := (if_pos c_9).symm.trans h
          refine lv_tableIn (tgt := 70) hx hb dX8_ahead_27 (by rw [c_9]; decide) (by rw [c_9]; decide) (by rw [c_9]; rfl) (by decide) ?_
          refine lv_aload_n hx hb dX8_ahead_70 rfl (lv_at hl 0 rfl) ?_
          refine va_get (D := (dC, dI)) (ci := 6) (v := .ref q_land) (C := RX8) (T := TX8) (N := 10) hx hb hts w_1 hown hK hP 0 rfl rfl 2 (by decide) w_0 (fun _ h9 => h9) rfl dX8_ahead_71 ?_
          refine lv_iload_n hx hb dX8_ahead_74 rfl (lv_at hl 1 rfl) ?_
          obtain ⟨r_10, hc_10, h⟩ := bd1_of h
          refine cl_rV (As := [.int v1]) (rest := []) ⟨hx, hb, hml, hown, hts⟩ (m_X3_dryBehind l dC dI cI cZ q_land q_land_heights q_land_holders q_land_kinds q_land_purses q_land_homes land_told land_low land_high land_price land_hour land_bidders land_heights land_holders land_kinds land_purses land_homes v1 (r_10) hc_10) (cwV 1 hts gX8_ahead_X3_dryBehind rfl rfl rfl ⟨rfl, ddX3_dryBehind⟩ ⟨Nat.le_of_ble_eq_true rfl, Nat.le_of_ble_eq_true rfl⟩) hK hP [1, 2, 3, 4, 5, 6] rfl rfl rfl rfl rfl hl.1 (Nat.le_of_ble_eq_true rfl) ⟨Nat.zero_le _, Nat.zero_le _⟩ dX8_ahead_75 ?_
          obtain ⟨r_11, hc_11, h⟩ := bd1_of h
          refine cl_pS (As := [.int r_10]) (rest := []) ⟨hx, hb, hml, hown, hts⟩ (m_X6_parts l r_10 (r_11) hc_11) (va_cwS 1 hts gX8_ahead_X6_parts rfl rfl rfl ddX6_parts ⟨Nat.le_of_ble_eq_true rfl, Nat.le_of_ble_eq_true rfl⟩) rfl rfl hl.1 (Nat.le_of_ble_eq_true rfl) ⟨Nat.zero_le _, Nat.zero_le _⟩ dX8_ahead_78 ?_
          rw [hQQ]
          exact W.iret (v := r_11) hx hb hr (fun t ht hW => ⟨_, rfl, Option.some.inj h, ht⟩) (fun q hq => by cases hq) dX8_ahead_81
        have h := (if_neg c_9).symm.trans h
        have n_5 : (v2).toInt ≠ 0 := ne_tn c_5 rfl
        have n_7 : (v2).toInt ≠ 1 := ne_tn c_7 rfl
        have n_9 : (v2).toInt ≠ 2 := ne_tn c_9 rfl
        refine lv_tableOut (tgt := 82) hx hb dX8_ahead_27 (by omega) (by decide) ?_
        refine lv_ldc hx hb hown w_2 dX8_ahead_82 ?_
        rw [hQQ]
        exact W.iret (v := (-1000001)) hx hb hr (fun t ht hW => ⟨_, rfl, Option.some.inj h, ht⟩) (fun q hq => by cases hq) dX8_ahead_84
      · have h := (if_neg c_4).symm.trans h
        refine lv_ldc hx hb hown w_2 dX8_ahead_23 ?_
        rw [hQQ]
        exact W.iret (v := (-1000001)) hx hb hr (fun t ht hW => ⟨_, rfl, Option.some.inj h, ht⟩) (fun q hq => by cases hq) dX8_ahead_25
  · have h := (if_pos c_2).symm.trans h
    refine lv_ldc hx hb hown w_3 dX8_ahead_10 ?_
    rw [hQQ]
    exact W.iret (v := (-1000002)) hx hb hr (fun t ht hW => ⟨_, rfl, Option.some.inj h, ht⟩) (fun q hq => by cases hq) dX8_ahead_12
def fX8_stays (land_told : Int32) (land_low : Int32) (land_high : Int32) (land_hour : Int32) (land_heights : (Nat → Int32)) (land_holders : (Nat → Int32)) (land_kinds : (Nat → Int32)) (v1 : Int32) : Option (Int32) :=
  bd1 (fX3_isTold land_told) (fun r_1 => (if r_1 = 0 then some ((-1000002)) else bd1 (fX8_isCell v1) (fun r_3 => (if r_3 = 0 then some ((-1000001)) else bd1 (fX3_isHeld land_holders v1) (fun r_5 => (if r_5 = 0 then some ((-1000000)) else bd1 (fX3_holder land_holders v1) (fun r_7 => bd1 (fX3_hoursTillLost land_low land_high land_hour land_heights land_kinds r_7 v1 60) (fun r_8 => (if r_8 ≤ 60 then some (r_8) else some ((-1000000)))))))))))
abbrev rmX8_stays : Room := { frames := 2, cells := 0, slots := 0, locals := 47 }
theorem ddX8_stays : yX8_stays.cls ≠ "java/lang/invoke/MethodHandle" ∧ yX8_stays.cls ≠ "java/lang/invoke/VarHandle" ∧ (parseMethodDescriptor yX8_stays.desc).map (fun d => d.parameters.length) = some 1 := by decide +kernel
set_option maxHeartbeats 4000000 in
set_option maxRecDepth 100000 in
theorem m_X8_stays (l : Launch) (dC : Nat → ClassId) (dI : Nat → Nat → Nat) (cI cZ : ClassId) (q_s q_rows q_tape q_land q_spare q_firstImage q_secondImage q_acts q_basket q_asks q_land q_land_heights q_land_holders q_land_kinds q_land_purses q_land_homes : Nat) (s_finding : Int32) (land_told : Int32) (land_low : Int32) (land_high : Int32) (land_price : Int32) (land_hour : Int32) (land_bidders : Int32) (land_heights : (Nat → Int32)) (land_holders : (Nat → Int32)) (land_kinds : (Nat → Int32)) (land_purses : (Nat → Int32)) (land_homes : (Nat → Int32)) (v1 : Int32) (res : Int32) (hf : fX8_stays land_told land_low land_high land_hour land_heights land_holders land_kinds v1 = some res) : Met l yX8_stays wsX8_stays rmX8_stays (rdPc (dC, dI) (tyZ cI cZ) ((W_X cI cZ q_s q_rows q_tape q_land q_spare q_firstImage q_secondImage q_acts q_basket q_asks s_finding) ++ ((W_Isle cI cZ q_land q_land_heights q_land_holders q_land_kinds q_land_purses q_land_homes land_told land_low land_high land_price land_hour land_bidders land_heights land_holders land_kinds land_purses land_homes))) [.ref q_s, .int v1]) (rdQ res) 0 0 (fun _ => False) := by
  refine Met.ofW (cc := cX8_stays) (maxL := 3) (ret := (some .int)) (by decide) rfl ?_
  intro p e s m args below meth c s₁ B hml hv
  obtain ⟨rfl, hP, hK⟩ := hv
  have hx := B.exec
  have hb := B.bytes
  have hr := B.returns
  have hts := atoms_spec (ws := wsX8_stays) B.pre
  have hown : s.vm.findClass RX8 = some m.cls := findClass_of_methodNamed B.named
  have hlocks := B.notSynchronized
  have hl := lv_entry ([.ref q_s, .int v1]) (n := 3) (Nat.le_of_ble_eq_true rfl)
  rw [lg_entry_eq]
  generalize (lg_sl ([.ref q_s, .int v1]) ++ List.replicate (3 - (lg_sl ([.ref q_s, .int v1])).length) Slot.unset).toArray = ls at hl ⊢
  have hl : lv_has ls 3 [(0, .ref q_s), (1, .int v1)] := hl
  obtain ⟨QQ, hQQ⟩ : ∃ Q, Q = MQ below (rdQ res) ([.ref q_s, .int v1] : List Value).toArray s 0 0 (fun _ => False) := ⟨_, rfl⟩
  rw [← hQQ]
  have w_0 := hts (Cond.fieldLink RX8 26 "TideInches" "land" "LTideInches$Isle;") (List.mem_of_getElem? (i := 1) rfl)
  have w_1 := (fun w hw => List.mem_cons_of_mem _ (List.mem_append_left _ (List.mem_append_right _ hw)) : ∀ w ∈ wsX80, w ∈ wsX8_stays)
  have w_2 := hts (Cond.constant RX8 199 (-1000000)) (List.mem_of_getElem? (i := 4) rfl)
  have w_3 := hts (Cond.constant RX8 68 (-1000001)) (List.mem_of_getElem? (i := 3) rfl)
  have w_4 := hts (Cond.constant RX8 136 (-1000002)) (List.mem_of_getElem? (i := 2) rfl)
  have h := hf
  unfold fX8_stays at h
  refine lv_aload_n hx hb dX8_stays_0 rfl (lv_at hl 0 rfl) ?_
  refine va_get (D := (dC, dI)) (ci := 6) (v := .ref q_land) (C := RX8) (T := TX8) (N := 10) hx hb hts w_1 hown hK hP 0 rfl rfl 2 (by decide) w_0 (fun _ h9 => h9) rfl dX8_stays_1 ?_
  obtain ⟨r_1, hc_1, h⟩ := bd1_of h
  refine cl_rV (As := []) (rest := []) ⟨hx, hb, hml, hown, hts⟩ (m_X3_isTold l dC dI cI cZ q_land q_land_heights q_land_holders q_land_kinds q_land_purses q_land_homes land_told land_low land_high land_price land_hour land_bidders land_heights land_holders land_kinds land_purses land_homes (r_1) hc_1) (cwV 0 hts gX8_stays_X3_isTold rfl rfl rfl ⟨rfl, ddX3_isTold⟩ ⟨Nat.le_of_ble_eq_true rfl, Nat.le_of_ble_eq_true rfl⟩) hK hP [1, 2, 3, 4, 5, 6] rfl rfl rfl rfl rfl hl.1 (Nat.le_of_ble_eq_true rfl) ⟨Nat.zero_le _, Nat.zero_le _⟩ dX8_stays_4 ?_
  refine lv_if_ne (tgt := 13) hx hb dX8_stays_7 (by decide) (fun c_2 => ?_) (fun c_2 => ?_)
  · have h := (if_neg c_2).symm.trans h
    refine lv_iload_n hx hb dX8_stays_13 rfl (lv_at hl 1 rfl) ?_
    obtain ⟨r_3, hc_3, h⟩ := bd1_of h
    refine cl_pS (As := [.int v1]) (rest := []) ⟨hx, hb, hml, hown, hts⟩ (m_X8_isCell l v1 (r_3) hc_3) (va_cwS 1 hts gX8_stays_X8_isCell rfl rfl rfl ddX8_isCell ⟨Nat.le_of_ble_eq_true rfl, Nat.le_of_ble_eq_true rfl⟩) rfl rfl hl.1 (Nat.le_of_ble_eq_true rfl) ⟨Nat.zero_le _, Nat.zero_le _⟩ dX8_stays_14 ?_
    refine lv_if_ne (tgt := 23) hx hb dX8_stays_17 (by decide) (fun c_4 => ?_) (fun c_4 => ?_)
    · have h := (if_neg c_4).symm.trans h
      refine lv_aload_n hx hb dX8_stays_23 rfl (lv_at hl 0 rfl) ?_
      refine va_get (D := (dC, dI)) (ci := 6) (v := .ref q_land) (C := RX8) (T := TX8) (N := 10) hx hb hts w_1 hown hK hP 0 rfl rfl 2 (by decide) w_0 (fun _ h9 => h9) rfl dX8_stays_24 ?_
      refine lv_iload_n hx hb dX8_stays_27 rfl (lv_at hl 1 rfl) ?_
      obtain ⟨r_5, hc_5, h⟩ := bd1_of h
      refine cl_rV (As := [.int v1]) (rest := []) ⟨hx, hb, hml, hown, hts⟩ (m_X3_isHeld l dC dI cI cZ q_land q_land_heights q_land_holders q_land_kinds q_land_purses q_land_homes land_told land_low land_high land_price land_hour land_bidders land_heights land_holders land_kinds land_purses land_homes v1 (r_5) hc_5) (cwV 1 hts gX8_stays_X3_isHeld rfl rfl rfl ⟨rfl, ddX3_isHeld⟩ ⟨Nat.le_of_ble_eq_true rfl, Nat.le_of_ble_eq_true rfl⟩) hK hP [1, 2, 3, 4, 5, 6] rfl rfl rfl rfl rfl hl.1 (Nat.le_of_ble_eq_true rfl) ⟨Nat.zero_le _, Nat.zero_le _⟩ dX8_stays_28 ?_
      refine lv_if_ne (tgt := 37) hx hb dX8_stays_31 (by decide) (fun c_6 => ?_) (fun c_6 => ?_)
      · have h := (if_neg c_6).symm.trans h
        refine lv_aload_n hx hb dX8_stays_37 rfl (lv_at hl 0 rfl) ?_
        refine va_get (D := (dC, dI)) (ci := 6) (v := .ref q_land) (C := RX8) (T := TX8) (N := 10) hx hb hts w_1 hown hK hP 0 rfl rfl 2 (by decide) w_0 (fun _ h9 => h9) rfl dX8_stays_38 ?_
        refine lv_aload_n hx hb dX8_stays_41 rfl (lv_at hl 0 rfl) ?_
        refine va_get (D := (dC, dI)) (ci := 6) (v := .ref q_land) (C := RX8) (T := TX8) (N := 10) hx hb hts w_1 hown hK hP 0 rfl rfl 2 (by decide) w_0 (fun _ h9 => h9) rfl dX8_stays_42 ?_
        refine lv_iload_n hx hb dX8_stays_45 rfl (lv_at hl 1 rfl) ?_
        obtain ⟨r_7, hc_7, h⟩ := bd1_of h
        refine cl_rV (As := [.int v1]) (rest := [.ref q_land]) ⟨hx, hb, hml, hown, hts⟩ (m_X3_holder l dC dI cI cZ q_land q_land_heights q_land_holders q_land_kinds q_land_purses q_land_homes land_told land_low land_high land_price land_hour land_bidders land_heights land_holders land_kinds land_purses land_homes v1 (r_7) hc_7) (cwV 1 hts gX8_stays_X3_holder rfl rfl rfl ⟨rfl, ddX3_holder⟩ ⟨Nat.le_of_ble_eq_true rfl, Nat.le_of_ble_eq_true rfl⟩) hK hP [1, 2, 3, 4, 5, 6] rfl rfl rfl rfl rfl hl.1 (Nat.le_of_ble_eq_true rfl) ⟨Nat.zero_le _, Nat.zero_le _⟩ dX8_stays_46 ?_
        refine lv_iload_n hx hb dX8_stays_49 rfl (lv_at hl 1 rfl) ?_
        refine lv_bipush (v := 60) hx hb dX8_stays_50 (by decide) ?_
        obtain ⟨r_8, hc_8, h⟩ := bd1_of h
        refine cl_rV (As := [.int r_7, .int v1, .int 60]) (rest := []) ⟨hx, hb, hml, hown, hts⟩ (m_X3_hoursTillLost l dC dI cI cZ q_land q_land_heights q_land_holders q_land_kinds q_land_purses q_land_homes land_told land_low land_high land_price land_hour land_bidders land_heights land_holders land_kinds land_purses land_homes r_7 v1 60 (r_8) hc_8) (cwV 3 hts gX8_stays_X3_hoursTillLost rfl rfl rfl ⟨rfl, ddX3_hoursTillLost⟩ ⟨Nat.le_of_ble_eq_true rfl, Nat.le_of_ble_eq_true rfl⟩) hK hP [1, 2, 3, 4, 5, 6] rfl rfl rfl rfl rfl hl.1 (Nat.le_of_ble_eq_true rfl) ⟨Nat.zero_le _, Nat.zero_le _⟩ dX8_stays_52 ?_
        refine lv_istore_n (lv' := [(2, .int r_8), (0, .ref q_s), (1, .int v1)]) hx hb dX8_stays_55 rfl hl (by decide) rfl (fun ls hl => ?_)
        refine lv_iload_n hx hb dX8_stays_56 rfl (lv_at hl 0 rfl) ?_
        refine lv_bipush (v := 60) hx hb dX8_stays_57 (by decide) ?_
        refine lv_icmp_le (tgt := 67) hx hb dX8_stays_59 (by decide) (fun c_9 => ?_) (fun c_9 => ?_)
        · have h := (if_pos c_9).symm.trans h
          refine lv_iload_n hx hb dX8_stays_67 rfl (lv_at hl 0 rfl) ?_
          rw [hQQ]
          exact W.iret (v := r_8) hx hb hr (fun t ht hW => ⟨_, rfl, Option.some.inj h, ht⟩) (fun q hq => by cases hq) dX8_stays_68
        · have h := (if_neg c_9).symm.trans h
          refine lv_ldc hx hb hown w_2 dX8_stays_62 ?_
          refine lv_goto (tgt := 68) hx hb dX8_stays_64 (by decide) ?_
          rw [hQQ]
          exact W.iret (v := (-1000000)) hx hb hr (fun t ht hW => ⟨_, rfl, Option.some.inj h, ht⟩) (fun q hq => by cases hq) dX8_stays_68
      · have h := (if_pos c_6).symm.trans h
        refine lv_ldc hx hb hown w_2 dX8_stays_34 ?_
        rw [hQQ]
        exact W.iret (v := (-1000000)) hx hb hr (fun t ht hW => ⟨_, rfl, Option.some.inj h, ht⟩) (fun q hq => by cases hq) dX8_stays_36
    · have h := (if_pos c_4).symm.trans h
      refine lv_ldc hx hb hown w_3 dX8_stays_20 ?_
      rw [hQQ]
      exact W.iret (v := (-1000001)) hx hb hr (fun t ht hW => ⟨_, rfl, Option.some.inj h, ht⟩) (fun q hq => by cases hq) dX8_stays_22
  · have h := (if_pos c_2).symm.trans h
    refine lv_ldc hx hb hown w_4 dX8_stays_10 ?_
    rw [hQQ]
    exact W.iret (v := (-1000002)) hx hb hr (fun t ht hW => ⟨_, rfl, Option.some.inj h, ht⟩) (fun q hq => by cases hq) dX8_stays_12
def fX8_isChoice (v0 : Int32) : Option (Int32) :=
  (if v0 = 0 then some (1) else (if v0 = 1 then some (1) else some (0)))
abbrev rmX8_isChoice : Room := { frames := 0, cells := 0, slots := 0, locals := 0 }
theorem ddX8_isChoice : yX8_isChoice.cls ≠ "java/lang/invoke/MethodHandle" ∧ yX8_isChoice.cls ≠ "java/lang/invoke/VarHandle" ∧ (parseMethodDescriptor yX8_isChoice.desc).map (fun d => d.parameters.length) = some 1 := by decide +kernel
set_option maxHeartbeats 4000000 in
set_option maxRecDepth 100000 in
theorem m_X8_isChoice (l : Launch) (v0 : Int32) (res : Int32) (hf : fX8_isChoice v0 = some res) : Met l yX8_isChoice wsX8_isChoice rmX8_isChoice (psPc [.int v0]) (rdQ res) 0 0 (fun _ => False) := by
  refine Met.ofW (cc := cX8_isChoice) (maxL := 1) (ret := (some .boolean)) (by decide) rfl ?_
  intro p e s m args below meth c s₁ B hml hv
  obtain rfl := hv
  have hx := B.exec
  have hb := B.bytes
  have hr := B.returns
  have hts := atoms_spec (ws := wsX8_isChoice) B.pre
  have hown : s.vm.findClass RX8 = some m.cls := findClass_of_methodNamed B.named
  have hlocks := B.notSynchronized
  have hl := lv_entry ([.int v0]) (n := 1) (Nat.le_of_ble_eq_true rfl)
  rw [lg_entry_eq]
  generalize (lg_sl ([.int v0]) ++ List.replicate (1 - (lg_sl ([.int v0])).length) Slot.unset).toArray = ls at hl ⊢
  have hl : lv_has ls 1 [(0, .int v0)] := hl
  obtain ⟨QQ, hQQ⟩ : ∃ Q, Q = MQ below (rdQ res) ([.int v0] : List Value).toArray s 0 0 (fun _ => False) := ⟨_, rfl⟩
  rw [← hQQ]
  have h := hf
  unfold fX8_isChoice at h
  refine lv_iload_n hx hb dX8_isChoice_0 rfl (lv_at hl 0 rfl) ?_
  refine lv_if_eq (tgt := 9) hx hb dX8_isChoice_1 (by decide) (fun c_1 => ?_) (fun c_1 => ?_)
  · have h := (if_pos c_1).symm.trans h
    refine lv_iconst (v := 1) hx hb dX8_isChoice_9 (by decide) ?_
    refine lv_goto (tgt := 14) hx hb dX8_isChoice_10 (by decide) ?_
    rw [hQQ]
    exact W.zret (v := 1) (ty := .boolean) hx hb hr rfl (fun t ht hW => ⟨_, rfl, Option.some.inj h, ht⟩) (fun q hq => by cases hq) dX8_isChoice_14
  · have h := (if_neg c_1).symm.trans h
    refine lv_iload_n hx hb dX8_isChoice_4 rfl (lv_at hl 0 rfl) ?_
    refine lv_iconst (v := 1) hx hb dX8_isChoice_5 (by decide) ?_
    refine lv_icmp_ne (tgt := 13) hx hb dX8_isChoice_6 (by decide) (fun c_2 => ?_) (fun c_2 => ?_)
    · have h := (if_neg c_2).symm.trans h
      refine lv_iconst (v := 0) hx hb dX8_isChoice_13 (by decide) ?_
      rw [hQQ]
      exact W.zret (v := 0) (ty := .boolean) hx hb hr rfl (fun t ht hW => ⟨_, rfl, Option.some.inj h, ht⟩) (fun q hq => by cases hq) dX8_isChoice_14
    · have h := (if_pos c_2).symm.trans h
      refine lv_iconst (v := 1) hx hb dX8_isChoice_9 (by decide) ?_
      refine lv_goto (tgt := 14) hx hb dX8_isChoice_10 (by decide) ?_
      rw [hQQ]
      exact W.zret (v := 1) (ty := .boolean) hx hb hr rfl (fun t ht hW => ⟨_, rfl, Option.some.inj h, ht⟩) (fun q hq => by cases hq) dX8_isChoice_14
def fX8_when_L32 (land_low : Int32) (land_high : Int32) (land_hour : Int32) (land_heights : (Nat → Int32)) (v1 : Int32) (v2 : Int32) : Nat → Int32 → Option (Int32)
  | 0, _ => none
  | n + 1, v3_h32 => (if 60 < v3_h32 then some ((-1000000)) else bd1 (fX3_isDryBehind land_low land_high land_hour land_heights v3_h32 v1) (fun r_8 => (if v2 = 1 then (if r_8 = 1 then some (v3_h32) else ((fX8_when_L32 land_low land_high land_hour land_heights v1 v2 n) (v3_h32 + 1))) else (if r_8 = 0 then some (v3_h32) else ((fX8_when_L32 land_low land_high land_hour land_heights v1 v2 n) (v3_h32 + 1))))))
def fX8_when (land_told : Int32) (land_low : Int32) (land_high : Int32) (land_hour : Int32) (land_heights : (Nat → Int32)) (v1 : Int32) (v2 : Int32) : Option (Int32) :=
  bd1 (fX3_isTold land_told) (fun r_1 => (if r_1 = 0 then some ((-1000002)) else bd1 (fX8_isCell v1) (fun r_3 => (if r_3 = 0 then some ((-1000001)) else bd1 (fX8_isChoice v2) (fun r_5 => (if r_5 = 0 then some ((-1000001)) else (fX8_when_L32 land_low land_high land_hour land_heights v1 v2 FU 0)))))))
abbrev rmX8_when : Room := { frames := 2, cells := 0, slots := 0, locals := 45 }
theorem ddX8_when : yX8_when.cls ≠ "java/lang/invoke/MethodHandle" ∧ yX8_when.cls ≠ "java/lang/invoke/VarHandle" ∧ (parseMethodDescriptor yX8_when.desc).map (fun d => d.parameters.length) = some 2 := by decide +kernel
set_option maxHeartbeats 4000000 in
set_option maxRecDepth 100000 in
theorem m_X8_when (l : Launch) (dC : Nat → ClassId) (dI : Nat → Nat → Nat) (cI cZ : ClassId) (q_s q_rows q_tape q_land q_spare q_firstImage q_secondImage q_acts q_basket q_asks q_land q_land_heights q_land_holders q_land_kinds q_land_purses q_land_homes : Nat) (s_finding : Int32) (land_told : Int32) (land_low : Int32) (land_high : Int32) (land_price : Int32) (land_hour : Int32) (land_bidders : Int32) (land_heights : (Nat → Int32)) (land_holders : (Nat → Int32)) (land_kinds : (Nat → Int32)) (land_purses : (Nat → Int32)) (land_homes : (Nat → Int32)) (v1 : Int32) (v2 : Int32) (res : Int32) (hf : fX8_when land_told land_low land_high land_hour land_heights v1 v2 = some res) : Met l yX8_when wsX8_when rmX8_when (rdPc (dC, dI) (tyZ cI cZ) ((W_X cI cZ q_s q_rows q_tape q_land q_spare q_firstImage q_secondImage q_acts q_basket q_asks s_finding) ++ ((W_Isle cI cZ q_land q_land_heights q_land_holders q_land_kinds q_land_purses q_land_homes land_told land_low land_high land_price land_hour land_bidders land_heights land_holders land_kinds land_purses land_homes))) [.ref q_s, .int v1, .int v2]) (rdQ res) 0 0 (fun _ => False) := by
  refine Met.ofW (cc := cX8_when) (maxL := 4) (ret := (some .int)) (by decide) rfl ?_
  intro p e s m args below meth c s₁ B hml hv
  obtain ⟨rfl, hP, hK⟩ := hv
  have hx := B.exec
  have hb := B.bytes
  have hr := B.returns
  have hts := atoms_spec (ws := wsX8_when) B.pre
  have hown : s.vm.findClass RX8 = some m.cls := findClass_of_methodNamed B.named
  have hlocks := B.notSynchronized
  have hl := lv_entry ([.ref q_s, .int v1, .int v2]) (n := 4) (Nat.le_of_ble_eq_true rfl)
  rw [lg_entry_eq]
  generalize (lg_sl ([.ref q_s, .int v1, .int v2]) ++ List.replicate (4 - (lg_sl ([.ref q_s, .int v1, .int v2])).length) Slot.unset).toArray = ls at hl ⊢
  have hl : lv_has ls 4 [(0, .ref q_s), (1, .int v1), (2, .int v2)] := hl
  obtain ⟨QQ, hQQ⟩ : ∃ Q, Q = MQ below (rdQ res) ([.ref q_s, .int v1, .int v2] : List Value).toArray s 0 0 (fun _ => False) := ⟨_, rfl⟩
  rw [← hQQ]
  have w_0 := hts (Cond.fieldLink RX8 26 "TideInches" "land" "LTideInches$Isle;") (List.mem_of_getElem? (i := 1) rfl)
  have w_1 := (fun w hw => List.mem_cons_of_mem _ (List.mem_append_left _ (List.mem_append_right _ hw)) : ∀ w ∈ wsX80, w ∈ wsX8_when)
  have w_2 := hts (Cond.constant RX8 68 (-1000001)) (List.mem_of_getElem? (i := 3) rfl)
  have w_3 := hts (Cond.constant RX8 199 (-1000000)) (List.mem_of_getElem? (i := 4) rfl)
  have w_4 := hts (Cond.constant RX8 136 (-1000002)) (List.mem_of_getElem? (i := 2) rfl)
  have h := hf
  unfold fX8_when at h
  refine lv_aload_n hx hb dX8_when_0 rfl (lv_at hl 0 rfl) ?_
  refine va_get (D := (dC, dI)) (ci := 6) (v := .ref q_land) (C := RX8) (T := TX8) (N := 10) hx hb hts w_1 hown hK hP 0 rfl rfl 2 (by decide) w_0 (fun _ h9 => h9) rfl dX8_when_1 ?_
  obtain ⟨r_1, hc_1, h⟩ := bd1_of h
  refine cl_rV (As := []) (rest := []) ⟨hx, hb, hml, hown, hts⟩ (m_X3_isTold l dC dI cI cZ q_land q_land_heights q_land_holders q_land_kinds q_land_purses q_land_homes land_told land_low land_high land_price land_hour land_bidders land_heights land_holders land_kinds land_purses land_homes (r_1) hc_1) (cwV 0 hts gX8_when_X3_isTold rfl rfl rfl ⟨rfl, ddX3_isTold⟩ ⟨Nat.le_of_ble_eq_true rfl, Nat.le_of_ble_eq_true rfl⟩) hK hP [1, 2, 3, 4, 5, 6] rfl rfl rfl rfl rfl hl.1 (Nat.le_of_ble_eq_true rfl) ⟨Nat.zero_le _, Nat.zero_le _⟩ dX8_when_4 ?_
  refine lv_if_ne (tgt := 13) hx hb dX8_when_7 (by decide) (fun c_2 => ?_) (fun c_2 => ?_)
  · have h := (if_neg c_2).symm.trans h
    refine lv_iload_n hx hb dX8_when_13 rfl (lv_at hl 1 rfl) ?_
    obtain ⟨r_3, hc_3, h⟩ := bd1_of h
    refine cl_pS (As := [.int v1]) (rest := []) ⟨hx, hb, hml, hown, hts⟩ (m_X8_isCell l v1 (r_3) hc_3) (va_cwS 1 hts gX8_when_X8_isCell rfl rfl rfl ddX8_isCell ⟨Nat.le_of_ble_eq_true rfl, Nat.le_of_ble_eq_true rfl⟩) rfl rfl hl.1 (Nat.le_of_ble_eq_true rfl) ⟨Nat.zero_le _, Nat.zero_le _⟩ dX8_when_14 ?_
    refine lv_if_eq (tgt := 27) hx hb dX8_when_17 (by decide) (fun c_4 => ?_) (fun c_4 => ?_)
    · have h := (if_pos c_4).symm.trans h
      refine lv_ldc hx hb hown w_2 dX8_when_27 ?_
      rw [hQQ]
      exact W.iret (v := (-1000001)) hx hb hr (fun t ht hW => ⟨_, rfl, Option.some.inj h, ht⟩) (fun q hq => by cases hq) dX8_when_29
    · have h := (if_neg c_4).symm.trans h
      refine lv_iload_n hx hb dX8_when_20 rfl (lv_at hl 2 rfl) ?_
      obtain ⟨r_5, hc_5, h⟩ := bd1_of h
      refine cl_pS (As := [.int v2]) (rest := []) ⟨hx, hb, hml, hown, hts⟩ (m_X8_isChoice l v2 (r_5) hc_5) (va_cwS 1 hts gX8_when_X8_isChoice rfl rfl rfl ddX8_isChoice ⟨Nat.le_of_ble_eq_true rfl, Nat.le_of_ble_eq_true rfl⟩) rfl rfl hl.1 (Nat.le_of_ble_eq_true rfl) ⟨Nat.zero_le _, Nat.zero_le _⟩ dX8_when_21 ?_
      refine lv_if_ne (tgt := 30) hx hb dX8_when_24 (by decide) (fun c_6 => ?_) (fun c_6 => ?_)
      · have h := (if_neg c_6).symm.trans h
        refine lv_iconst (v := 0) hx hb dX8_when_30 (by decide) ?_
        refine lv_istore_n (lv' := [(3, .int 0), (0, .ref q_s), (1, .int v1), (2, .int v2)]) hx hb dX8_when_31 rfl hl (by decide) rfl (fun ls hl => ?_)
        have KL32 : ∀ (n : Nat) (v3_h32 : Int32) (ls : Array Slot), lv_has ls 4 [(0, .ref q_s), (1, .int v1), (2, .int v2), (3, .int v3_h32)] → fX8_when_L32 land_low land_high land_hour land_heights v1 v2 n v3_h32 = some res → W p l e (headSpec wsX8_when rmX8_when).room s m ([.ref q_s, .int v1, .int v2] : List Value).toArray below meth c s.heap [] 0 0 QQ (F0 m 32 ls []) := by
          intro  n
          induction n with
          | zero => intro v3_h32 ls hl h; rw [fX8_when_L32.eq_1] at h; cases h
          | succ n ih =>
            intro v3_h32 ls hl h
            rw [fX8_when_L32.eq_2] at h
            refine lv_iload_n hx hb dX8_when_32 rfl (lv_at hl 3 rfl) ?_
            refine lv_bipush (v := 60) hx hb dX8_when_33 (by decide) ?_
            refine lv_icmp_gt (tgt := 68) hx hb dX8_when_35 (by decide) (fun c_7 => ?_) (fun c_7 => ?_)
            · have h := (if_pos c_7).symm.trans h
              refine lv_ldc hx hb hown w_3 dX8_when_68 ?_
              rw [hQQ]
              exact W.iret (v := (-1000000)) hx hb hr (fun t ht hW => ⟨_, rfl, Option.some.inj h, ht⟩) (fun q hq => by cases hq) dX8_when_70
            · have h := (if_neg c_7).symm.trans h
              refine lv_aload_n hx hb dX8_when_38 rfl (lv_at hl 0 rfl) ?_
              refine va_get (D := (dC, dI)) (ci := 6) (v := .ref q_land) (C := RX8) (T := TX8) (N := 10) hx hb hts w_1 hown hK hP 0 rfl rfl 2 (by decide) w_0 (fun _ h9 => h9) rfl dX8_when_39 ?_
              refine lv_iload_n hx hb dX8_when_42 rfl (lv_at hl 3 rfl) ?_
              refine lv_iload_n hx hb dX8_when_43 rfl (lv_at hl 1 rfl) ?_
              obtain ⟨r_8, hc_8, h⟩ := bd1_of h
              refine cl_rV (As := [.int v3_h32, .int v1]) (rest := []) ⟨hx, hb, hml, hown, hts⟩ (m_X3_isDryBehind l dC dI cI cZ q_land q_land_heights q_land_holders q_land_kinds q_land_purses q_land_homes land_told land_low land_high land_price land_hour land_bidders land_heights land_holders land_kinds land_purses land_homes v3_h32 v1 (r_8) hc_8) (cwV 2 hts gX8_when_X3_isDryBehind rfl rfl rfl ⟨rfl, ddX3_isDryBehind⟩ ⟨Nat.le_of_ble_eq_true rfl, Nat.le_of_ble_eq_true rfl⟩) hK hP [1, 2, 3, 4, 5, 6] rfl rfl rfl rfl rfl hl.1 (Nat.le_of_ble_eq_true rfl) ⟨Nat.zero_le _, Nat.zero_le _⟩ dX8_when_44 ?_
              refine lv_iload_n hx hb dX8_when_47 rfl (lv_at hl 2 rfl) ?_
              refine lv_iconst (v := 1) hx hb dX8_when_48 (by decide) ?_
              refine lv_icmp_ne (tgt := 56) hx hb dX8_when_49 (by decide) (fun c_9 => ?_) (fun c_9 => ?_)
              · have h := (if_neg c_9).symm.trans h
                refine lv_iconst (v := 0) hx hb dX8_when_56 (by decide) ?_
                refine lv_icmp_ne (tgt := 62) hx hb dX8_when_57 (by decide) (fun c_10 => ?_) (fun c_10 => ?_)
                · have h := (if_neg c_10).symm.trans h
                  refine lv_iinc (v := (v3_h32 + 1)) (lv' := [(3, .int (v3_h32 + 1)), (0, .ref q_s), (1, .int v1), (2, .int v2)]) hx hb dX8_when_62 hl (k := 3) rfl rfl (by decide) rfl (fun ls hl => ?_)
                  refine lv_goto (tgt := 32) hx hb dX8_when_65 (by decide) ?_
                  exact ih (v3_h32 + 1) _ (lv_sub hl [1, 2, 3, 0] rfl) h
                · have h := (if_pos c_10).symm.trans h
                  refine lv_iload_n hx hb dX8_when_60 rfl (lv_at hl 3 rfl) ?_
                  rw [hQQ]
                  exact W.iret (v := v3_h32) hx hb hr (fun t ht hW => ⟨_, rfl, Option.some.inj h, ht⟩) (fun q hq => by cases hq) dX8_when_61
              · have h := (if_pos c_9).symm.trans h
                refine lv_iconst (v := 1) hx hb dX8_when_52 (by decide) ?_
                refine lv_goto (tgt := 57) hx hb dX8_when_53 (by decide) ?_
                refine lv_icmp_ne (tgt := 62) hx hb dX8_when_57 (by decide) (fun c_11 => ?_) (fun c_11 => ?_)
                · have h := (if_neg c_11).symm.trans h
                  refine lv_iinc (v := (v3_h32 + 1)) (lv' := [(3, .int (v3_h32 + 1)), (0, .ref q_s), (1, .int v1), (2, .int v2)]) hx hb dX8_when_62 hl (k := 3) rfl rfl (by decide) rfl (fun ls hl => ?_)
                  refine lv_goto (tgt := 32) hx hb dX8_when_65 (by decide) ?_
                  exact ih (v3_h32 + 1) _ (lv_sub hl [1, 2, 3, 0] rfl) h
                · have h := (if_pos c_11).symm.trans h
                  refine lv_iload_n hx hb dX8_when_60 rfl (lv_at hl 3 rfl) ?_
                  rw [hQQ]
                  exact W.iret (v := v3_h32) hx hb hr (fun t ht hW => ⟨_, rfl, Option.some.inj h, ht⟩) (fun q hq => by cases hq) dX8_when_61
        exact KL32 FU 0 _ (lv_sub hl [1, 2, 3, 0] rfl) h
      · have h := (if_pos c_6).symm.trans h
        refine lv_ldc hx hb hown w_2 dX8_when_27 ?_
        rw [hQQ]
        exact W.iret (v := (-1000001)) hx hb hr (fun t ht hW => ⟨_, rfl, Option.some.inj h, ht⟩) (fun q hq => by cases hq) dX8_when_29
  · have h := (if_pos c_2).symm.trans h
    refine lv_ldc hx hb hown w_4 dX8_when_10 ?_
    rw [hQQ]
    exact W.iret (v := (-1000002)) hx hb hr (fun t ht hW => ⟨_, rfl, Option.some.inj h, ht⟩) (fun q hq => by cases hq) dX8_when_12
def fX8_cuts (land_told : Int32) (land_low : Int32) (land_high : Int32) (land_hour : Int32) (land_heights : (Nat → Int32)) : Option (Int32) :=
  bd1 (fX3_isTold land_told) (fun r_1 => (if r_1 = 0 then some ((-1000002)) else bd1 (fX3_dryBehind land_low land_high land_hour land_heights 0) (fun r_3 => bd1 (fX6_cutting r_3) (fun r_4 => some (r_4)))))
abbrev rmX8_cuts : Room := { frames := 4, cells := 0, slots := 0, locals := 92 }
theorem ddX8_cuts : yX8_cuts.cls ≠ "java/lang/invoke/MethodHandle" ∧ yX8_cuts.cls ≠ "java/lang/invoke/VarHandle" ∧ (parseMethodDescriptor yX8_cuts.desc).map (fun d => d.parameters.length) = some 0 := by decide +kernel
set_option maxHeartbeats 4000000 in
set_option maxRecDepth 100000 in
theorem m_X8_cuts (l : Launch) (dC : Nat → ClassId) (dI : Nat → Nat → Nat) (cI cZ : ClassId) (q_s q_rows q_tape q_land q_spare q_firstImage q_secondImage q_acts q_basket q_asks q_land q_land_heights q_land_holders q_land_kinds q_land_purses q_land_homes : Nat) (s_finding : Int32) (land_told : Int32) (land_low : Int32) (land_high : Int32) (land_price : Int32) (land_hour : Int32) (land_bidders : Int32) (land_heights : (Nat → Int32)) (land_holders : (Nat → Int32)) (land_kinds : (Nat → Int32)) (land_purses : (Nat → Int32)) (land_homes : (Nat → Int32)) (res : Int32) (hf : fX8_cuts land_told land_low land_high land_hour land_heights = some res) : Met l yX8_cuts wsX8_cuts rmX8_cuts (rdPc (dC, dI) (tyZ cI cZ) ((W_X cI cZ q_s q_rows q_tape q_land q_spare q_firstImage q_secondImage q_acts q_basket q_asks s_finding) ++ ((W_Isle cI cZ q_land q_land_heights q_land_holders q_land_kinds q_land_purses q_land_homes land_told land_low land_high land_price land_hour land_bidders land_heights land_holders land_kinds land_purses land_homes))) [.ref q_s]) (rdQ res) 0 0 (fun _ => False) := by
  refine Met.ofW (cc := cX8_cuts) (maxL := 1) (ret := (some .int)) (by decide) rfl ?_
  intro p e s m args below meth c s₁ B hml hv
  obtain ⟨rfl, hP, hK⟩ := hv
  have hx := B.exec
  have hb := B.bytes
  have hr := B.returns
  have hts := atoms_spec (ws := wsX8_cuts) B.pre
  have hown : s.vm.findClass RX8 = some m.cls := findClass_of_methodNamed B.named
  have hlocks := B.notSynchronized
  have hl := lv_entry ([.ref q_s]) (n := 1) (Nat.le_of_ble_eq_true rfl)
  rw [lg_entry_eq]
  generalize (lg_sl ([.ref q_s]) ++ List.replicate (1 - (lg_sl ([.ref q_s])).length) Slot.unset).toArray = ls at hl ⊢
  have hl : lv_has ls 1 [(0, .ref q_s)] := hl
  obtain ⟨QQ, hQQ⟩ : ∃ Q, Q = MQ below (rdQ res) ([.ref q_s] : List Value).toArray s 0 0 (fun _ => False) := ⟨_, rfl⟩
  rw [← hQQ]
  have w_0 := hts (Cond.fieldLink RX8 26 "TideInches" "land" "LTideInches$Isle;") (List.mem_of_getElem? (i := 1) rfl)
  have w_1 := (fun w hw => List.mem_cons_of_mem _ (List.mem_append_left _ (List.mem_append_right _ hw)) : ∀ w ∈ wsX80, w ∈ wsX8_cuts)
  have w_2 := hts (Cond.constant RX8 136 (-1000002)) (List.mem_of_getElem? (i := 2) rfl)
  have h := hf
  unfold fX8_cuts at h
  refine lv_aload_n hx hb dX8_cuts_0 rfl (lv_at hl 0 rfl) ?_
  refine va_get (D := (dC, dI)) (ci := 6) (v := .ref q_land) (C := RX8) (T := TX8) (N := 10) hx hb hts w_1 hown hK hP 0 rfl rfl 2 (by decide) w_0 (fun _ h9 => h9) rfl dX8_cuts_1 ?_
  obtain ⟨r_1, hc_1, h⟩ := bd1_of h
  refine cl_rV (As := []) (rest := []) ⟨hx, hb, hml, hown, hts⟩ (m_X3_isTold l dC dI cI cZ q_land q_land_heights q_land_holders q_land_kinds q_land_purses q_land_homes land_told land_low land_high land_price land_hour land_bidders land_heights land_holders land_kinds land_purses land_homes (r_1) hc_1) (cwV 0 hts gX8_cuts_X3_isTold rfl rfl rfl ⟨rfl, ddX3_isTold⟩ ⟨Nat.le_of_ble_eq_true rfl, Nat.le_of_ble_eq_true rfl⟩) hK hP [1, 2, 3, 4, 5, 6] rfl rfl rfl rfl rfl hl.1 (Nat.le_of_ble_eq_true rfl) ⟨Nat.zero_le _, Nat.zero_le _⟩ dX8_cuts_4 ?_
  refine lv_if_eq (tgt := 24) hx hb dX8_cuts_7 (by decide) (fun c_2 => ?_) (fun c_2 => ?_)
  · have h := (if_pos c_2).symm.trans h
    refine lv_ldc hx hb hown w_2 dX8_cuts_24 ?_
    rw [hQQ]
    exact W.iret (v := (-1000002)) hx hb hr (fun t ht hW => ⟨_, rfl, Option.some.inj h, ht⟩) (fun q hq => by cases hq) dX8_cuts_26
  · have h := (if_neg c_2).symm.trans h
    refine lv_aload_n hx hb dX8_cuts_10 rfl (lv_at hl 0 rfl) ?_
    refine va_get (D := (dC, dI)) (ci := 6) (v := .ref q_land) (C := RX8) (T := TX8) (N := 10) hx hb hts w_1 hown hK hP 0 rfl rfl 2 (by decide) w_0 (fun _ h9 => h9) rfl dX8_cuts_11 ?_
    refine lv_iconst (v := 0) hx hb dX8_cuts_14 (by decide) ?_
    obtain ⟨r_3, hc_3, h⟩ := bd1_of h
    refine cl_rV (As := [.int 0]) (rest := []) ⟨hx, hb, hml, hown, hts⟩ (m_X3_dryBehind l dC dI cI cZ q_land q_land_heights q_land_holders q_land_kinds q_land_purses q_land_homes land_told land_low land_high land_price land_hour land_bidders land_heights land_holders land_kinds land_purses land_homes 0 (r_3) hc_3) (cwV 1 hts gX8_cuts_X3_dryBehind rfl rfl rfl ⟨rfl, ddX3_dryBehind⟩ ⟨Nat.le_of_ble_eq_true rfl, Nat.le_of_ble_eq_true rfl⟩) hK hP [1, 2, 3, 4, 5, 6] rfl rfl rfl rfl rfl hl.1 (Nat.le_of_ble_eq_true rfl) ⟨Nat.zero_le _, Nat.zero_le _⟩ dX8_cuts_15 ?_
    obtain ⟨r_4, hc_4, h⟩ := bd1_of h
    refine cl_pS (As := [.int r_3]) (rest := []) ⟨hx, hb, hml, hown, hts⟩ (m_X6_cutting l r_3 (r_4) hc_4) (va_cwS 1 hts gX8_cuts_X6_cutting rfl rfl rfl ddX6_cutting ⟨Nat.le_of_ble_eq_true rfl, Nat.le_of_ble_eq_true rfl⟩) rfl rfl hl.1 (Nat.le_of_ble_eq_true rfl) ⟨Nat.zero_le _, Nat.zero_le _⟩ dX8_cuts_18 ?_
    refine lv_goto (tgt := 26) hx hb dX8_cuts_21 (by decide) ?_
    rw [hQQ]
    exact W.iret (v := r_4) hx hb hr (fun t ht hW => ⟨_, rfl, Option.some.inj h, ht⟩) (fun q hq => by cases hq) dX8_cuts_26
def fX8_home (land_low : Int32) (land_high : Int32) (land_hour : Int32) (land_bidders : Int32) (land_heights : (Nat → Int32)) (land_holders : (Nat → Int32)) (land_homes : (Nat → Int32)) (v1 : Int32) (v2 : Int32) : Option (Int32) :=
  bd1 (fX3_hasBidder land_bidders v1) (fun r_1 => (if r_1 = 0 then some ((-1000001)) else bd1 (fX8_isCell v2) (fun r_3 => (if r_3 = 0 then some ((-1000001)) else bd1 (fX3_hoursToHome land_low land_high land_hour land_heights land_holders land_homes v1 v2) (fun r_5 => (if 0 ≤ r_5 then some (r_5) else some ((-1000000))))))))
abbrev rmX8_home : Room := { frames := 3, cells := 0, slots := 0, locals := 70 }
theorem ddX8_home : yX8_home.cls ≠ "java/lang/invoke/MethodHandle" ∧ yX8_home.cls ≠ "java/lang/invoke/VarHandle" ∧ (parseMethodDescriptor yX8_home.desc).map (fun d => d.parameters.length) = some 2 := by decide +kernel
set_option maxHeartbeats 4000000 in
set_option maxRecDepth 100000 in
theorem m_X8_home (l : Launch) (dC : Nat → ClassId) (dI : Nat → Nat → Nat) (cI cZ : ClassId) (q_s q_rows q_tape q_land q_spare q_firstImage q_secondImage q_acts q_basket q_asks q_land q_land_heights q_land_holders q_land_kinds q_land_purses q_land_homes : Nat) (s_finding : Int32) (land_told : Int32) (land_low : Int32) (land_high : Int32) (land_price : Int32) (land_hour : Int32) (land_bidders : Int32) (land_heights : (Nat → Int32)) (land_holders : (Nat → Int32)) (land_kinds : (Nat → Int32)) (land_purses : (Nat → Int32)) (land_homes : (Nat → Int32)) (v1 : Int32) (v2 : Int32) (res : Int32) (hf : fX8_home land_low land_high land_hour land_bidders land_heights land_holders land_homes v1 v2 = some res) : Met l yX8_home wsX8_home rmX8_home (rdPc (dC, dI) (tyZ cI cZ) ((W_X cI cZ q_s q_rows q_tape q_land q_spare q_firstImage q_secondImage q_acts q_basket q_asks s_finding) ++ ((W_Isle cI cZ q_land q_land_heights q_land_holders q_land_kinds q_land_purses q_land_homes land_told land_low land_high land_price land_hour land_bidders land_heights land_holders land_kinds land_purses land_homes))) [.ref q_s, .int v1, .int v2]) (rdQ res) 0 0 (fun _ => False) := by
  refine Met.ofW (cc := cX8_home) (maxL := 4) (ret := (some .int)) (by decide) rfl ?_
  intro p e s m args below meth c s₁ B hml hv
  obtain ⟨rfl, hP, hK⟩ := hv
  have hx := B.exec
  have hb := B.bytes
  have hr := B.returns
  have hts := atoms_spec (ws := wsX8_home) B.pre
  have hown : s.vm.findClass RX8 = some m.cls := findClass_of_methodNamed B.named
  have hlocks := B.notSynchronized
  have hl := lv_entry ([.ref q_s, .int v1, .int v2]) (n := 4) (Nat.le_of_ble_eq_true rfl)
  rw [lg_entry_eq]
  generalize (lg_sl ([.ref q_s, .int v1, .int v2]) ++ List.replicate (4 - (lg_sl ([.ref q_s, .int v1, .int v2])).length) Slot.unset).toArray = ls at hl ⊢
  have hl : lv_has ls 4 [(0, .ref q_s), (1, .int v1), (2, .int v2)] := hl
  obtain ⟨QQ, hQQ⟩ : ∃ Q, Q = MQ below (rdQ res) ([.ref q_s, .int v1, .int v2] : List Value).toArray s 0 0 (fun _ => False) := ⟨_, rfl⟩
  rw [← hQQ]
  have w_0 := hts (Cond.fieldLink RX8 26 "TideInches" "land" "LTideInches$Isle;") (List.mem_of_getElem? (i := 1) rfl)
  have w_1 := (fun w hw => List.mem_cons_of_mem _ (List.mem_append_left _ (List.mem_append_right _ hw)) : ∀ w ∈ wsX80, w ∈ wsX8_home)
  have w_2 := hts (Cond.constant RX8 68 (-1000001)) (List.mem_of_getElem? (i := 2) rfl)
  have w_3 := hts (Cond.constant RX8 199 (-1000000)) (List.mem_of_getElem? (i := 3) rfl)
  have h := hf
  unfold fX8_home at h
  refine lv_aload_n hx hb dX8_home_0 rfl (lv_at hl 0 rfl) ?_
  refine va_get (D := (dC, dI)) (ci := 6) (v := .ref q_land) (C := RX8) (T := TX8) (N := 10) hx hb hts w_1 hown hK hP 0 rfl rfl 2 (by decide) w_0 (fun _ h9 => h9) rfl dX8_home_1 ?_
  refine lv_iload_n hx hb dX8_home_4 rfl (lv_at hl 1 rfl) ?_
  obtain ⟨r_1, hc_1, h⟩ := bd1_of h
  refine cl_rV (As := [.int v1]) (rest := []) ⟨hx, hb, hml, hown, hts⟩ (m_X3_hasBidder l dC dI cI cZ q_land q_land_heights q_land_holders q_land_kinds q_land_purses q_land_homes land_told land_low land_high land_price land_hour land_bidders land_heights land_holders land_kinds land_purses land_homes v1 (r_1) hc_1) (cwV 1 hts gX8_home_X3_hasBidder rfl rfl rfl ⟨rfl, ddX3_hasBidder⟩ ⟨Nat.le_of_ble_eq_true rfl, Nat.le_of_ble_eq_true rfl⟩) hK hP [1, 2, 3, 4, 5, 6] rfl rfl rfl rfl rfl hl.1 (Nat.le_of_ble_eq_true rfl) ⟨Nat.zero_le _, Nat.zero_le _⟩ dX8_home_5 ?_
  refine lv_if_eq (tgt := 18) hx hb dX8_home_8 (by decide) (fun c_2 => ?_) (fun c_2 => ?_)
  · have h := (if_pos c_2).symm.trans h
    refine lv_ldc hx hb hown w_2 dX8_home_18 ?_
    rw [hQQ]
    exact W.iret (v := (-1000001)) hx hb hr (fun t ht hW => ⟨_, rfl, Option.some.inj h, ht⟩) (fun q hq => by cases hq) dX8_home_20
  · have h := (if_neg c_2).symm.trans h
    refine lv_iload_n hx hb dX8_home_11 rfl (lv_at hl 2 rfl) ?_
    obtain ⟨r_3, hc_3, h⟩ := bd1_of h
    refine cl_pS (As := [.int v2]) (rest := []) ⟨hx, hb, hml, hown, hts⟩ (m_X8_isCell l v2 (r_3) hc_3) (va_cwS 1 hts gX8_home_X8_isCell rfl rfl rfl ddX8_isCell ⟨Nat.le_of_ble_eq_true rfl, Nat.le_of_ble_eq_true rfl⟩) rfl rfl hl.1 (Nat.le_of_ble_eq_true rfl) ⟨Nat.zero_le _, Nat.zero_le _⟩ dX8_home_12 ?_
    refine lv_if_ne (tgt := 21) hx hb dX8_home_15 (by decide) (fun c_4 => ?_) (fun c_4 => ?_)
    · have h := (if_neg c_4).symm.trans h
      refine lv_aload_n hx hb dX8_home_21 rfl (lv_at hl 0 rfl) ?_
      refine va_get (D := (dC, dI)) (ci := 6) (v := .ref q_land) (C := RX8) (T := TX8) (N := 10) hx hb hts w_1 hown hK hP 0 rfl rfl 2 (by decide) w_0 (fun _ h9 => h9) rfl dX8_home_22 ?_
      refine lv_iload_n hx hb dX8_home_25 rfl (lv_at hl 1 rfl) ?_
      refine lv_iload_n hx hb dX8_home_26 rfl (lv_at hl 2 rfl) ?_
      obtain ⟨r_5, hc_5, h⟩ := bd1_of h
      refine cl_rV (As := [.int v1, .int v2]) (rest := []) ⟨hx, hb, hml, hown, hts⟩ (m_X3_hoursToHome l dC dI cI cZ q_land q_land_heights q_land_holders q_land_kinds q_land_purses q_land_homes land_told land_low land_high land_price land_hour land_bidders land_heights land_holders land_kinds land_purses land_homes v1 v2 (r_5) hc_5) (cwV 2 hts gX8_home_X3_hoursToHome rfl rfl rfl ⟨rfl, ddX3_hoursToHome⟩ ⟨Nat.le_of_ble_eq_true rfl, Nat.le_of_ble_eq_true rfl⟩) hK hP [1, 2, 3, 4, 5, 6] rfl rfl rfl rfl rfl hl.1 (Nat.le_of_ble_eq_true rfl) ⟨Nat.zero_le _, Nat.zero_le _⟩ dX8_home_27 ?_
      refine lv_istore_n (lv' := [(3, .int r_5), (0, .ref q_s), (1, .int v1), (2, .int v2)]) hx hb dX8_home_30 rfl hl (by decide) rfl (fun ls hl => ?_)
      refine lv_iload_n hx hb dX8_home_31 rfl (lv_at hl 0 rfl) ?_
      refine lv_if_ge (tgt := 40) hx hb dX8_home_32 (by decide) (fun c_6 => ?_) (fun c_6 => ?_)
      · have h := (if_pos c_6).symm.trans h
        refine lv_iload_n hx hb dX8_home_40 rfl (lv_at hl 0 rfl) ?_
        rw [hQQ]
        exact W.iret (v := r_5) hx hb hr (fun t ht hW => ⟨_, rfl, Option.some.inj h, ht⟩) (fun q hq => by cases hq) dX8_home_41
      · have h := (if_neg c_6).symm.trans h
        refine lv_ldc hx hb hown w_3 dX8_home_35 ?_
        refine lv_goto (tgt := 41) hx hb dX8_home_37 (by decide) ?_
        rw [hQQ]
        exact W.iret (v := (-1000000)) hx hb hr (fun t ht hW => ⟨_, rfl, Option.some.inj h, ht⟩) (fun q hq => by cases hq) dX8_home_41
    · have h := (if_pos c_4).symm.trans h
      refine lv_ldc hx hb hown w_2 dX8_home_18 ?_
      rw [hQQ]
      exact W.iret (v := (-1000001)) hx hb hr (fun t ht hW => ⟨_, rfl, Option.some.inj h, ht⟩) (fun q hq => by cases hq) dX8_home_20
def fX8_buy (land_low : Int32) (land_high : Int32) (land_price : Int32) (land_hour : Int32) (land_bidders : Int32) (land_heights : (Nat → Int32)) (land_holders : (Nat → Int32)) (land_kinds : (Nat → Int32)) (land_purses : (Nat → Int32)) (basket_most : (Nat → Int32)) (basket_which : (Nat → Int32)) (basket_best : Int32) (v1 : Int32) (v2 : Int32) : Option (Int32 × (Nat → Int32) × (Nat → Int32) × Int32) :=
  bd1 (fX3_hasBidder land_bidders v1) (fun r_1 => (if r_1 = 0 then some ((-1000001), basket_most, basket_which, basket_best) else bd1 (fX8_isChoice v2) (fun r_3 => (if r_3 = 0 then some ((-1000001), basket_most, basket_which, basket_best) else bd3 (fX2_fill basket_most basket_which land_low land_high land_price land_hour land_heights land_holders land_kinds land_purses v1) (fun basket_most_5 basket_which_5 basket_best_5 => (if v2 = 0 then bd1 (fX2_heights basket_most_5 basket_best_5) (fun r_8 => some (r_8, basket_most_5, basket_which_5, basket_best_5)) else bd1 (fX2_cells basket_which_5 basket_best_5) (fun r_7 => some (r_7, basket_most_5, basket_which_5, basket_best_5))))))))
abbrev rmX8_buy : Room := { frames := 5, cells := 0, slots := 0, locals := 117 }
theorem ddX8_buy : yX8_buy.cls ≠ "java/lang/invoke/MethodHandle" ∧ yX8_buy.cls ≠ "java/lang/invoke/VarHandle" ∧ (parseMethodDescriptor yX8_buy.desc).map (fun d => d.parameters.length) = some 2 := by decide +kernel
set_option maxHeartbeats 4000000 in
set_option maxRecDepth 100000 in
theorem m_X8_buy (l : Launch) (dC : Nat → ClassId) (dI : Nat → Nat → Nat) (cI cZ : ClassId) (q_s q_rows q_tape q_land q_spare q_firstImage q_secondImage q_acts q_basket q_asks q_land q_land_heights q_land_holders q_land_kinds q_land_purses q_land_homes q_basket q_basket_most q_basket_which : Nat) (s_finding : Int32) (land_told : Int32) (land_low : Int32) (land_high : Int32) (land_price : Int32) (land_hour : Int32) (land_bidders : Int32) (land_heights : (Nat → Int32)) (land_holders : (Nat → Int32)) (land_kinds : (Nat → Int32)) (land_purses : (Nat → Int32)) (land_homes : (Nat → Int32)) (basket_most : (Nat → Int32)) (basket_which : (Nat → Int32)) (basket_best : Int32) (v1 : Int32) (v2 : Int32) (sz : Nat) (res : Int32 × (Nat → Int32) × (Nat → Int32) × Int32) (hf : fX8_buy land_low land_high land_price land_hour land_bidders land_heights land_holders land_kinds land_purses basket_most basket_which basket_best v1 v2 = some res) : Met l yX8_buy wsX8_buy rmX8_buy (mtPc (dC, dI) (tyZ cI cZ) ((W_X cI cZ q_s q_rows q_tape q_land q_spare q_firstImage q_secondImage q_acts q_basket q_asks s_finding) ++ ((W_Isle cI cZ q_land q_land_heights q_land_holders q_land_kinds q_land_purses q_land_homes land_told land_low land_high land_price land_hour land_bidders land_heights land_holders land_kinds land_purses land_homes) ++ ((W_Basket cI cZ q_basket q_basket_most q_basket_which basket_most basket_which basket_best)))) [.ref q_s, .int v1, .int v2] sz) (mtQi (dC, dI) (tyZ cI cZ) ((W_X cI cZ q_s q_rows q_tape q_land q_spare q_firstImage q_secondImage q_acts q_basket q_asks s_finding) ++ ((W_Isle cI cZ q_land q_land_heights q_land_holders q_land_kinds q_land_purses q_land_homes land_told land_low land_high land_price land_hour land_bidders land_heights land_holders land_kinds land_purses land_homes) ++ ((W_Basket cI cZ q_basket q_basket_most q_basket_which basket_most basket_which basket_best)))) ((W_X cI cZ q_s q_rows q_tape q_land q_spare q_firstImage q_secondImage q_acts q_basket q_asks s_finding) ++ ((W_Isle cI cZ q_land q_land_heights q_land_holders q_land_kinds q_land_purses q_land_homes land_told land_low land_high land_price land_hour land_bidders land_heights land_holders land_kinds land_purses land_homes) ++ ((W_Basket cI cZ q_basket q_basket_most q_basket_which res.2.1 res.2.2.1 res.2.2.2)))) res.1 sz) 0 0 (va_A ((W_X cI cZ q_s q_rows q_tape q_land q_spare q_firstImage q_secondImage q_acts q_basket q_asks s_finding) ++ ((W_Isle cI cZ q_land q_land_heights q_land_holders q_land_kinds q_land_purses q_land_homes land_told land_low land_high land_price land_hour land_bidders land_heights land_holders land_kinds land_purses land_homes) ++ ((W_Basket cI cZ q_basket q_basket_most q_basket_which basket_most basket_which basket_best)))) sz) := by
  refine Met.ofW (cc := cX8_buy) (maxL := 3) (ret := (some .int)) (by decide) rfl ?_
  intro p e s m args below meth c s₁ B hml hv
  obtain ⟨rfl, hsz, hP, hK, hD0⟩ := hv
  have hx := B.exec
  have hb := B.bytes
  have hr := B.returns
  have hts := atoms_spec (ws := wsX8_buy) B.pre
  have hown : s.vm.findClass RX8 = some m.cls := findClass_of_methodNamed B.named
  have hlocks := B.notSynchronized
  subst hsz
  have hD := hD0.self (sz := s.heap.size)
  obtain ⟨A, hAe⟩ : ∃ A, A = va_A ((W_X cI cZ q_s q_rows q_tape q_land q_spare q_firstImage q_secondImage q_acts q_basket q_asks s_finding) ++ ((W_Isle cI cZ q_land q_land_heights q_land_holders q_land_kinds q_land_purses q_land_homes land_told land_low land_high land_price land_hour land_bidders land_heights land_holders land_kinds land_purses land_homes) ++ ((W_Basket cI cZ q_basket q_basket_most q_basket_which basket_most basket_which basket_best)))) s.heap.size := ⟨_, rfl⟩
  rw [← hAe] at hD
  have hA : ∀ q : Nat, s.heap.size ≤ q → A q := fun q h => by rw [hAe]; exact Or.inr h
  have hS : va_S A s.heap s.heap [] := va_S.rf
  have hl := lv_entry ([.ref q_s, .int v1, .int v2]) (n := 3) (Nat.le_of_ble_eq_true rfl)
  rw [lg_entry_eq]
  generalize (lg_sl ([.ref q_s, .int v1, .int v2]) ++ List.replicate (3 - (lg_sl ([.ref q_s, .int v1, .int v2])).length) Slot.unset).toArray = ls at hl ⊢
  have hl : lv_has ls 3 [(0, .ref q_s), (1, .int v1), (2, .int v2)] := hl
  obtain ⟨QQ, hQQ⟩ : ∃ Q, Q = MQ below (mtQi (dC, dI) (tyZ cI cZ) ((W_X cI cZ q_s q_rows q_tape q_land q_spare q_firstImage q_secondImage q_acts q_basket q_asks s_finding) ++ ((W_Isle cI cZ q_land q_land_heights q_land_holders q_land_kinds q_land_purses q_land_homes land_told land_low land_high land_price land_hour land_bidders land_heights land_holders land_kinds land_purses land_homes) ++ ((W_Basket cI cZ q_basket q_basket_most q_basket_which basket_most basket_which basket_best)))) ((W_X cI cZ q_s q_rows q_tape q_land q_spare q_firstImage q_secondImage q_acts q_basket q_asks s_finding) ++ ((W_Isle cI cZ q_land q_land_heights q_land_holders q_land_kinds q_land_purses q_land_homes land_told land_low land_high land_price land_hour land_bidders land_heights land_holders land_kinds land_purses land_homes) ++ ((W_Basket cI cZ q_basket q_basket_most q_basket_which res.2.1 res.2.2.1 res.2.2.2)))) res.1 s.heap.size) ([.ref q_s, .int v1, .int v2] : List Value).toArray s 0 0 (va_A ((W_X cI cZ q_s q_rows q_tape q_land q_spare q_firstImage q_secondImage q_acts q_basket q_asks s_finding) ++ ((W_Isle cI cZ q_land q_land_heights q_land_holders q_land_kinds q_land_purses q_land_homes land_told land_low land_high land_price land_hour land_bidders land_heights land_holders land_kinds land_purses land_homes) ++ ((W_Basket cI cZ q_basket q_basket_most q_basket_which basket_most basket_which basket_best)))) s.heap.size) := ⟨_, rfl⟩
  rw [← hQQ]
  have w_0 := hts (Cond.fieldLink RX8 26 "TideInches" "land" "LTideInches$Isle;") (List.mem_of_getElem? (i := 1) rfl)
  have w_1 := (fun w hw => List.mem_cons_of_mem _ (List.mem_append_left _ (List.mem_append_left _ (List.mem_append_right _ hw))) : ∀ w ∈ wsX80, w ∈ wsX8_buy)
  have w_2 := hts (Cond.constant RX8 68 (-1000001)) (List.mem_of_getElem? (i := 2) rfl)
  have w_3 := hts (Cond.fieldLink RX8 49 "TideInches" "basket" "LTideInches$Basket;") (List.mem_of_getElem? (i := 3) rfl)
  have h := hf
  unfold fX8_buy at h
  refine lv_aload_n hx hb dX8_buy_0 rfl (lv_at hl 0 rfl) ?_
  refine va_get (D := (dC, dI)) (ci := 6) (v := .ref q_land) (C := RX8) (T := TX8) (N := 10) hx hb hts w_1 hown hK hP 0 rfl rfl 2 (by decide) w_0 (fun _ h9 => h9) rfl dX8_buy_1 ?_
  refine lv_iload_n hx hb dX8_buy_4 rfl (lv_at hl 1 rfl) ?_
  obtain ⟨r_1, hc_1, h⟩ := bd1_of h
  refine cl_rV (As := [.int v1]) (rest := []) ⟨hx, hb, hml, hown, hts⟩ (m_X3_hasBidder l dC dI cI cZ q_land q_land_heights q_land_holders q_land_kinds q_land_purses q_land_homes land_told land_low land_high land_price land_hour land_bidders land_heights land_holders land_kinds land_purses land_homes v1 (r_1) hc_1) (cwV 1 hts gX8_buy_X3_hasBidder rfl rfl rfl ⟨rfl, ddX3_hasBidder⟩ ⟨Nat.le_of_ble_eq_true rfl, Nat.le_of_ble_eq_true rfl⟩) hK hP [1, 2, 3, 4, 5, 6] rfl rfl rfl rfl rfl hl.1 (Nat.le_of_ble_eq_true rfl) ⟨Nat.zero_le _, Nat.zero_le _⟩ dX8_buy_5 ?_
  refine lv_if_eq (tgt := 18) hx hb dX8_buy_8 (by decide) (fun c_2 => ?_) (fun c_2 => ?_)
  · have h := (if_pos c_2).symm.trans h
    refine lv_ldc hx hb hown w_2 dX8_buy_18 ?_
    have h := Option.some.inj h
    subst h
    rw [hQQ]
    subst hAe
    exact W.iret (v := (-1000001)) hx hb hr (fun t ht hW => ⟨⟨_, (), rfl, rfl, by rw [ht]; exact hP, va_K.moved hW.alike hK, hD⟩, hS.F ht⟩) hS.2.2 dX8_buy_20
  · have h := (if_neg c_2).symm.trans h
    refine lv_iload_n hx hb dX8_buy_11 rfl (lv_at hl 2 rfl) ?_
    obtain ⟨r_3, hc_3, h⟩ := bd1_of h
    refine cl_pS (As := [.int v2]) (rest := []) ⟨hx, hb, hml, hown, hts⟩ (m_X8_isChoice l v2 (r_3) hc_3) (va_cwS 1 hts gX8_buy_X8_isChoice rfl rfl rfl ddX8_isChoice ⟨Nat.le_of_ble_eq_true rfl, Nat.le_of_ble_eq_true rfl⟩) rfl rfl hl.1 (Nat.le_of_ble_eq_true rfl) ⟨Nat.zero_le _, Nat.zero_le _⟩ dX8_buy_12 ?_
    refine lv_if_ne (tgt := 21) hx hb dX8_buy_15 (by decide) (fun c_4 => ?_) (fun c_4 => ?_)
    · have h := (if_neg c_4).symm.trans h
      refine lv_aload_n hx hb dX8_buy_21 rfl (lv_at hl 0 rfl) ?_
      refine va_get (D := (dC, dI)) (ci := 6) (v := .ref q_basket) (C := RX8) (T := TX8) (N := 10) hx hb hts w_1 hown hK hP 0 rfl rfl 7 (by decide) w_3 (fun _ h9 => h9) rfl dX8_buy_22 ?_
      refine lv_aload_n hx hb dX8_buy_25 rfl (lv_at hl 0 rfl) ?_
      refine va_get (D := (dC, dI)) (ci := 6) (v := .ref q_land) (C := RX8) (T := TX8) (N := 10) hx hb hts w_1 hown hK hP 0 rfl rfl 2 (by decide) w_0 (fun _ h9 => h9) rfl dX8_buy_26 ?_
      refine lv_iload_n hx hb dX8_buy_29 rfl (lv_at hl 1 rfl) ?_
      obtain ⟨basket_most_5, basket_which_5, basket_best_5, hc_5, h⟩ := bd3_of h
      refine cl_mVv (As := [.ref q_land, .int v1]) (rest := []) (ws' := (W_X cI cZ q_s q_rows q_tape q_land q_spare q_firstImage q_secondImage q_acts q_basket q_asks s_finding) ++ ((W_Isle cI cZ q_land q_land_heights q_land_holders q_land_kinds q_land_purses q_land_homes land_told land_low land_high land_price land_hour land_bidders land_heights land_holders land_kinds land_purses land_homes) ++ ((W_Basket cI cZ q_basket q_basket_most q_basket_which basket_most_5 basket_which_5 basket_best_5)))) (wr := (W_X cI cZ q_s q_rows q_tape q_land q_spare q_firstImage q_secondImage q_acts q_basket q_asks s_finding)) ⟨hx, hb, hml, hown, hts⟩ (m_X2_fill l dC dI cI cZ q_basket q_basket_most q_basket_which q_land q_land_heights q_land_holders q_land_kinds q_land_purses q_land_homes basket_most basket_which basket_best land_told land_low land_high land_price land_hour land_bidders land_heights land_holders land_kinds land_purses land_homes v1 _ (basket_most_5, basket_which_5, basket_best_5) hc_5) (cwV 2 hts gX8_buy_X2_fill rfl rfl rfl ⟨rfl, ddX2_fill⟩ ⟨Nat.le_of_ble_eq_true rfl, Nat.le_of_ble_eq_true rfl⟩) hK hP hD hS hA [7, 8, 9, 1, 2, 3, 4, 5, 6] [0] rfl rfl rfl rfl (by decide) [0, 4, 5, 6, 7, 8, 9, 1, 2, 3] rfl rfl rfl rfl rfl rfl rfl hl.1 (Nat.le_of_ble_eq_true rfl) ⟨Nat.zero_le _, Nat.zero_le _⟩ dX8_buy_30 (fun H locs hP hD hS => ?_)
      refine lv_iload_n hx hb dX8_buy_33 rfl (lv_at hl 2 rfl) ?_
      refine lv_if_ne (tgt := 47) hx hb dX8_buy_34 (by decide) (fun c_6 => ?_) (fun c_6 => ?_)
      · have h := (if_neg c_6).symm.trans h
        refine lv_aload_n hx hb dX8_buy_47 rfl (lv_at hl 0 rfl) ?_
        refine va_get (D := (dC, dI)) (ci := 6) (v := .ref q_basket) (C := RX8) (T := TX8) (N := 10) hx hb hts w_1 hown hK hP 0 rfl rfl 7 (by decide) w_3 (fun _ h9 => h9) rfl dX8_buy_48 ?_
        obtain ⟨r_7, hc_7, h⟩ := bd1_of h
        refine cl_rV (As := []) (rest := []) ⟨hx, hb, hml, hown, hts⟩ (m_X2_cells l dC dI cI cZ q_basket q_basket_most q_basket_which basket_most_5 basket_which_5 basket_best_5 (r_7) hc_7) (cwV 0 hts gX8_buy_X2_cells rfl rfl rfl ⟨rfl, ddX2_cells⟩ ⟨Nat.le_of_ble_eq_true rfl, Nat.le_of_ble_eq_true rfl⟩) hK hP [7, 8, 9] rfl rfl rfl rfl rfl hl.1 (Nat.le_of_ble_eq_true rfl) ⟨Nat.zero_le _, Nat.zero_le _⟩ dX8_buy_51 ?_
        have h := Option.some.inj h
        subst h
        rw [hQQ]
        subst hAe
        exact W.iret (v := r_7) hx hb hr (fun t ht hW => ⟨⟨_, (), rfl, rfl, by rw [ht]; exact hP, va_K.moved hW.alike hK, hD⟩, hS.F ht⟩) hS.2.2 dX8_buy_54
      · have h := (if_pos c_6).symm.trans h
        refine lv_aload_n hx hb dX8_buy_37 rfl (lv_at hl 0 rfl) ?_
        refine va_get (D := (dC, dI)) (ci := 6) (v := .ref q_basket) (C := RX8) (T := TX8) (N := 10) hx hb hts w_1 hown hK hP 0 rfl rfl 7 (by decide) w_3 (fun _ h9 => h9) rfl dX8_buy_38 ?_
        obtain ⟨r_8, hc_8, h⟩ := bd1_of h
        refine cl_rV (As := []) (rest := []) ⟨hx, hb, hml, hown, hts⟩ (m_X2_heights l dC dI cI cZ q_basket q_basket_most q_basket_which basket_most_5 basket_which_5 basket_best_5 (r_8) hc_8) (cwV 0 hts gX8_buy_X2_heights rfl rfl rfl ⟨rfl, ddX2_heights⟩ ⟨Nat.le_of_ble_eq_true rfl, Nat.le_of_ble_eq_true rfl⟩) hK hP [7, 8, 9] rfl rfl rfl rfl rfl hl.1 (Nat.le_of_ble_eq_true rfl) ⟨Nat.zero_le _, Nat.zero_le _⟩ dX8_buy_41 ?_
        refine lv_goto (tgt := 54) hx hb dX8_buy_44 (by decide) ?_
        have h := Option.some.inj h
        subst h
        rw [hQQ]
        subst hAe
        exact W.iret (v := r_8) hx hb hr (fun t ht hW => ⟨⟨_, (), rfl, rfl, by rw [ht]; exact hP, va_K.moved hW.alike hK, hD⟩, hS.F ht⟩) hS.2.2 dX8_buy_54
    · have h := (if_pos c_4).symm.trans h
      refine lv_ldc hx hb hown w_2 dX8_buy_18 ?_
      have h := Option.some.inj h
      subst h
      rw [hQQ]
      subst hAe
      exact W.iret (v := (-1000001)) hx hb hr (fun t ht hW => ⟨⟨_, (), rfl, rfl, by rw [ht]; exact hP, va_K.moved hW.alike hK, hD⟩, hS.F ht⟩) hS.2.2 dX8_buy_20
