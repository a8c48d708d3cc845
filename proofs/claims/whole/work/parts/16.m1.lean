def fX9_in (v0 : Int64) (v2 : Int64) (v4 : Int64) : Option (Int32) :=
  (if (lg_cmp v0 v2) < 0 then some (0) else (if 0 < (lg_cmp v0 v4) then some (0) else some (1)))
abbrev rmX9_in : Room := { frames := 0, cells := 0, slots := 0, locals := 0 }
theorem ddX9_in : yX9_in.cls ≠ "java/lang/invoke/MethodHandle" ∧ yX9_in.cls ≠ "java/lang/invoke/VarHandle" ∧ (parseMethodDescriptor yX9_in.desc).map (fun d => d.parameters.length) = some 3 := by decide +kernel
set_option maxHeartbeats 4000000 in
set_option maxRecDepth 100000 in
theorem m_X9_in (l : Launch) (v0 : Int64) (v2 : Int64) (v4 : Int64) (res : Int32) (hf : fX9_in v0 v2 v4 = some res) : Met l yX9_in wsX9_in rmX9_in (psPc [.long v0, .long v2, .long v4]) (rdQ res) 0 0 (fun _ => False) := by
  refine Met.ofW (cc := cX9_in) (maxL := 6) (ret := (some .boolean)) (by decide) rfl ?_
  intro p e s m args below meth c s₁ B hml hv
  obtain rfl := hv
  have hx := B.exec
  have hb := B.bytes
  have hr := B.returns
  have hts := atoms_spec (ws := wsX9_in) B.pre
  have hown : s.vm.findClass RX9 = some m.cls := findClass_of_methodNamed B.named
  have hlocks := B.notSynchronized
  have hl := lv_entry ([.long v0, .long v2, .long v4]) (n := 6) (Nat.le_of_ble_eq_true rfl)
  rw [lg_entry_eq]
  generalize (lg_sl ([.long v0, .long v2, .long v4]) ++ List.replicate (6 - (lg_sl ([.long v0, .long v2, .long v4])).length) Slot.unset).toArray = ls at hl ⊢
  have hl : lv_has ls 6 [(0, .long v0), (2, .long v2), (4, .long v4)] := hl
  obtain ⟨QQ, hQQ⟩ : ∃ Q, Q = MQ below (rdQ res) ([.long v0, .long v2, .long v4] : List Value).toArray s 0 0 (fun _ => False) := ⟨_, rfl⟩
  rw [← hQQ]
  have h := hf
  unfold fX9_in at h
  refine lv_lload_n hx hb dX9_in_0 rfl (lv_at hl 0 rfl) ?_
  refine lv_lload_n hx hb dX9_in_1 rfl (lv_at hl 1 rfl) ?_
  refine W.lcmp hx hb dX9_in_2 ?_
  refine lv_if_lt (tgt := 17) hx hb dX9_in_3 (by decide) (fun c_1 => ?_) (fun c_1 => ?_)
  · have h := (if_pos c_1).symm.trans h
    refine lv_iconst (v := 0) hx hb dX9_in_17 (by decide) ?_
    rw [hQQ]
    exact W.zret (v := 0) (ty := .boolean) hx hb hr rfl (fun t ht hW => ⟨_, rfl, Option.some.inj h, ht⟩) (fun q hq => by cases hq) dX9_in_18
  · have h := (if_neg c_1).symm.trans h
    refine lv_lload_n hx hb dX9_in_6 rfl (lv_at hl 0 rfl) ?_
    refine lv_lload hx hb dX9_in_7 (lv_at hl 2 rfl) ?_
    refine W.lcmp hx hb dX9_in_9 ?_
    refine lv_if_gt (tgt := 17) hx hb dX9_in_10 (by decide) (fun c_2 => ?_) (fun c_2 => ?_)
    · have h := (if_pos c_2).symm.trans h
      refine lv_iconst (v := 0) hx hb dX9_in_17 (by decide) ?_
      rw [hQQ]
      exact W.zret (v := 0) (ty := .boolean) hx hb hr rfl (fun t ht hW => ⟨_, rfl, Option.some.inj h, ht⟩) (fun q hq => by cases hq) dX9_in_18
    · have h := (if_neg c_2).symm.trans h
      refine lv_iconst (v := 1) hx hb dX9_in_13 (by decide) ?_
      refine lv_goto (tgt := 18) hx hb dX9_in_14 (by decide) ?_
      rw [hQQ]
      exact W.zret (v := 1) (ty := .boolean) hx hb hr rfl (fun t ht hW => ⟨_, rfl, Option.some.inj h, ht⟩) (fun q hq => by cases hq) dX9_in_18
def fX9_finding (v1 : Int32) : Option (Int32 × Int32) :=
  some (((-1000010) - v1), v1)
abbrev rmX9_finding : Room := { frames := 0, cells := 0, slots := 0, locals := 0 }
theorem ddX9_finding : yX9_finding.cls ≠ "java/lang/invoke/MethodHandle" ∧ yX9_finding.cls ≠ "java/lang/invoke/VarHandle" ∧ (parseMethodDescriptor yX9_finding.desc).map (fun d => d.parameters.length) = some 1 := by decide +kernel
set_option maxHeartbeats 4000000 in
set_option maxRecDepth 100000 in
theorem m_X9_finding (l : Launch) (dC : Nat → ClassId) (dI : Nat → Nat → Nat) (cI cZ : ClassId) (q_s q_s_lane q_s_many q_s_item q_s_isle q_s_fresh q_s_then q_s_was q_s_tape q_s_isKept q_s_kept q_s_trace : Nat) (s_thrown : Int32) (s_status : Int32) (s_lane : (Nat → Int32)) (s_many : (Nat → Int32)) (s_item : (Nat → Int32)) (s_isle : (Nat → Int32)) (s_fresh : (Nat → Int32)) (s_then : (Nat → Int32)) (s_was : (Nat → Int32)) (s_acts : Int32) (s_tape : (Nat → Int32)) (s_taped : Int32) (s_cursor : Int32) (s_start : Int32) (s_token : Int32) (s_value : Int32) (s_fault : Int32) (s_faultAt : Int32) (s_latest : Int32) (s_isKept : (Nat → Int32)) (s_kept : (Nat → Int32)) (s_trace : (Nat → Int32)) (s_traced : Int32) (v1 : Int32) (sz : Nat) (res : Int32 × Int32) (hf : fX9_finding v1 = some res) : Met l yX9_finding wsX9_finding rmX9_finding (mtPc (dC, dI) (tyZ cI cZ) ((W_M cI cZ q_s q_s_lane q_s_many q_s_item q_s_isle q_s_fresh q_s_then q_s_was q_s_tape q_s_isKept q_s_kept q_s_trace s_thrown s_status s_lane s_many s_item s_isle s_fresh s_then s_was s_acts s_tape s_taped s_cursor s_start s_token s_value s_fault s_faultAt s_latest s_isKept s_kept s_trace s_traced)) [.ref q_s, .int v1] sz) (mtQi (dC, dI) (tyZ cI cZ) ((W_M cI cZ q_s q_s_lane q_s_many q_s_item q_s_isle q_s_fresh q_s_then q_s_was q_s_tape q_s_isKept q_s_kept q_s_trace s_thrown s_status s_lane s_many s_item s_isle s_fresh s_then s_was s_acts s_tape s_taped s_cursor s_start s_token s_value s_fault s_faultAt s_latest s_isKept s_kept s_trace s_traced)) ((W_M cI cZ q_s q_s_lane q_s_many q_s_item q_s_isle q_s_fresh q_s_then q_s_was q_s_tape q_s_isKept q_s_kept q_s_trace s_thrown res.2 s_lane s_many s_item s_isle s_fresh s_then s_was s_acts s_tape s_taped s_cursor s_start s_token s_value s_fault s_faultAt s_latest s_isKept s_kept s_trace s_traced)) res.1 sz) 0 0 (va_A ((W_M cI cZ q_s q_s_lane q_s_many q_s_item q_s_isle q_s_fresh q_s_then q_s_was q_s_tape q_s_isKept q_s_kept q_s_trace s_thrown s_status s_lane s_many s_item s_isle s_fresh s_then s_was s_acts s_tape s_taped s_cursor s_start s_token s_value s_fault s_faultAt s_latest s_isKept s_kept s_trace s_traced)) sz) := by
  refine Met.ofW (cc := cX9_finding) (maxL := 2) (ret := (some .int)) (by decide) rfl ?_
  intro p e s m args below meth c s₁ B hml hv
  obtain ⟨rfl, hsz, hP, hK, hD0⟩ := hv
  have hx := B.exec
  have hb := B.bytes
  have hr := B.returns
  have hts := atoms_spec (ws := wsX9_finding) B.pre
  have hown : s.vm.findClass RX9 = some m.cls := findClass_of_methodNamed B.named
  have hlocks := B.notSynchronized
  subst hsz
  have hD := hD0.self (sz := s.heap.size)
  obtain ⟨A, hAe⟩ : ∃ A, A = va_A ((W_M cI cZ q_s q_s_lane q_s_many q_s_item q_s_isle q_s_fresh q_s_then q_s_was q_s_tape q_s_isKept q_s_kept q_s_trace s_thrown s_status s_lane s_many s_item s_isle s_fresh s_then s_was s_acts s_tape s_taped s_cursor s_start s_token s_value s_fault s_faultAt s_latest s_isKept s_kept s_trace s_traced)) s.heap.size := ⟨_, rfl⟩
  rw [← hAe] at hD
  have hA : ∀ q : Nat, s.heap.size ≤ q → A q := fun q h => by rw [hAe]; exact Or.inr h
  have hS : va_S A s.heap s.heap [] := va_S.rf
  have hl := lv_entry ([.ref q_s, .int v1]) (n := 2) (Nat.le_of_ble_eq_true rfl)
  rw [lg_entry_eq]
  generalize (lg_sl ([.ref q_s, .int v1]) ++ List.replicate (2 - (lg_sl ([.ref q_s, .int v1])).length) Slot.unset).toArray = ls at hl ⊢
  have hl : lv_has ls 2 [(0, .ref q_s), (1, .int v1)] := hl
  obtain ⟨QQ, hQQ⟩ : ∃ Q, Q = MQ below (mtQi (dC, dI) (tyZ cI cZ) ((W_M cI cZ q_s q_s_lane q_s_many q_s_item q_s_isle q_s_fresh q_s_then q_s_was q_s_tape q_s_isKept q_s_kept q_s_trace s_thrown s_status s_lane s_many s_item s_isle s_fresh s_then s_was s_acts s_tape s_taped s_cursor s_start s_token s_value s_fault s_faultAt s_latest s_isKept s_kept s_trace s_traced)) ((W_M cI cZ q_s q_s_lane q_s_many q_s_item q_s_isle q_s_fresh q_s_then q_s_was q_s_tape q_s_isKept q_s_kept q_s_trace s_thrown res.2 s_lane s_many s_item s_isle s_fresh s_then s_was s_acts s_tape s_taped s_cursor s_start s_token s_value s_fault s_faultAt s_latest s_isKept s_kept s_trace s_traced)) res.1 s.heap.size) ([.ref q_s, .int v1] : List Value).toArray s 0 0 (va_A ((W_M cI cZ q_s q_s_lane q_s_many q_s_item q_s_isle q_s_fresh q_s_then q_s_was q_s_tape q_s_isKept q_s_kept q_s_trace s_thrown s_status s_lane s_many s_item s_isle s_fresh s_then s_was s_acts s_tape s_taped s_cursor s_start s_token s_value s_fault s_faultAt s_latest s_isKept s_kept s_trace s_traced)) s.heap.size) := ⟨_, rfl⟩
  rw [← hQQ]
  have w_0 := hts (Cond.fieldLink RX9 48 "TideInchesModel" "status" "I") (List.mem_of_getElem? (i := 1) rfl)
  have w_1 := (fun w hw => List.mem_cons_of_mem _ (List.mem_append_right _ hw) : ∀ w ∈ wsX90, w ∈ wsX9_finding)
  have w_2 := hts (Cond.constant RX9 51 (-1000010)) (List.mem_of_getElem? (i := 2) rfl)
  have h := hf
  unfold fX9_finding at h
  refine lv_aload_n hx hb dX9_finding_0 rfl (lv_at hl 0 rfl) ?_
  refine lv_iload_n hx hb dX9_finding_1 rfl (lv_at hl 1 rfl) ?_
  refine va_put (D := (dC, dI)) (ci := 7) (v := .int v1) (ty := .int) (C := RX9) (T := TX9) (N := 23) hx hb hts w_1 tyX9 tyX9_ok nmX9 hown hK hP hD hS 0 rfl rfl 1 (by decide) w_0 (fun _ h9 => h9) rfl (by decide +kernel) rfl rfl (Nat.le_of_ble_eq_true rfl) dX9_finding_2 (fun H locs hP hD hS => ?_)
  have hP : va_P (dC, dI) vwCl ((W_M cI cZ q_s q_s_lane q_s_many q_s_item q_s_isle q_s_fresh q_s_then q_s_was q_s_tape q_s_isKept q_s_kept q_s_trace s_thrown v1 s_lane s_many s_item s_isle s_fresh s_then s_was s_acts s_tape s_taped s_cursor s_start s_token s_value s_fault s_faultAt s_latest s_isKept s_kept s_trace s_traced)) H := hP
  have hD : va_D A ((W_M cI cZ q_s q_s_lane q_s_many q_s_item q_s_isle q_s_fresh q_s_then q_s_was q_s_tape q_s_isKept q_s_kept q_s_trace s_thrown v1 s_lane s_many s_item s_isle s_fresh s_then s_was s_acts s_tape s_taped s_cursor s_start s_token s_value s_fault s_faultAt s_latest s_isKept s_kept s_trace s_traced)) := hD
  refine lv_ldc hx hb hown w_2 dX9_finding_5 ?_
  refine lv_iload_n hx hb dX9_finding_7 rfl (lv_at hl 1 rfl) ?_
  refine lv_isub hx hb dX9_finding_8 ?_
  have h := Option.some.inj h
  subst h
  rw [hQQ]
  subst hAe
  exact W.iret (v := ((-1000010) - v1)) hx hb hr (fun t ht hW => ⟨⟨_, (), rfl, rfl, by rw [ht]; exact hP, va_K.moved hW.alike hK, hD⟩, hS.F ht⟩) hS.2.2 dX9_finding_9
def fX9_isRow (v0 : Int32) : Option (Int32) :=
  bd1 (fX9_in v0.toInt64 0 7) (fun r_1 => chk (r_1 = 0 ∨ r_1 = 1) (some (r_1)))
abbrev rmX9_isRow : Room := { frames := 1, cells := 0, slots := 0, locals := 25 }
theorem ddX9_isRow : yX9_isRow.cls ≠ "java/lang/invoke/MethodHandle" ∧ yX9_isRow.cls ≠ "java/lang/invoke/VarHandle" ∧ (parseMethodDescriptor yX9_isRow.desc).map (fun d => d.parameters.length) = some 1 := by decide +kernel
set_option maxHeartbeats 4000000 in
set_option maxRecDepth 100000 in
theorem m_X9_isRow (l : Launch) (v0 : Int32) (res : Int32) (hf : fX9_isRow v0 = some res) : Met l yX9_isRow wsX9_isRow rmX9_isRow (psPc [.int v0]) (rdQ res) 0 0 (fun _ => False) := by
  refine Met.ofW (cc := cX9_isRow) (maxL := 1) (ret := (some .boolean)) (by decide) rfl ?_
  intro p e s m args below meth c s₁ B hml hv
  obtain rfl := hv
  have hx := B.exec
  have hb := B.bytes
  have hr := B.returns
  have hts := atoms_spec (ws := wsX9_isRow) B.pre
  have hown : s.vm.findClass RX9 = some m.cls := findClass_of_methodNamed B.named
  have hlocks := B.notSynchronized
  have hl := lv_entry ([.int v0]) (n := 1) (Nat.le_of_ble_eq_true rfl)
  rw [lg_entry_eq]
  generalize (lg_sl ([.int v0]) ++ List.replicate (1 - (lg_sl ([.int v0])).length) Slot.unset).toArray = ls at hl ⊢
  have hl : lv_has ls 1 [(0, .int v0)] := hl
  obtain ⟨QQ, hQQ⟩ : ∃ Q, Q = MQ below (rdQ res) ([.int v0] : List Value).toArray s 0 0 (fun _ => False) := ⟨_, rfl⟩
  rw [← hQQ]
  have w_0 := hts (Cond.constantLong RX9 52 (7)) (List.mem_of_getElem? (i := 1) rfl)
  have h := hf
  unfold fX9_isRow at h
  refine lv_iload_n hx hb dX9_isRow_0 rfl (lv_at hl 0 rfl) ?_
  refine lv_i2l hx hb dX9_isRow_1 rfl ?_
  refine lv_lconst (v := 0) hx hb dX9_isRow_2 (by decide) ?_
  refine lv_ldc2 hx hb hown w_0 dX9_isRow_3 ?_
  obtain ⟨r_1, hc_1, h⟩ := bd1_of h
  refine cl_pS (As := [.long v0.toInt64, .long 0, .long 7]) (rest := []) ⟨hx, hb, hml, hown, hts⟩ (m_X9_in l v0.toInt64 0 7 (r_1) hc_1) (va_cwS 3 hts gX9_isRow_X9_in rfl rfl rfl ddX9_in ⟨Nat.le_of_ble_eq_true rfl, Nat.le_of_ble_eq_true rfl⟩) rfl rfl hl.1 (Nat.le_of_ble_eq_true rfl) ⟨Nat.zero_le _, Nat.zero_le _⟩ dX9_isRow_6 ?_
  obtain ⟨b_2, h⟩ := chk_of h
  rw [hQQ]
  exact W.zret (v := r_1) (ty := .boolean) hx hb hr (zb_nar b_2) (fun t ht hW => ⟨_, rfl, Option.some.inj h, ht⟩) (fun q hq => by cases hq) dX9_isRow_9
def fX9_row_L65 (s_lane : (Nat → Int32)) (s_many : (Nat → Int32)) (v1 : Int32) (v2 : Int32) (v3 : Int32) : Nat → Int32 → (Nat → Int32) → Option (Int32 × Int32 × Int32 × (Nat → Int32) × (Nat → Int32) × (Nat → Int32))
  | 0, _, _ => none
  | n + 1, v4_h65, s_item_h65 => (if 40 ≤ v4_h65 then some (v3, 0, 0, (upd s_lane v1.toNatClampNeg v2), (upd s_many v1.toNatClampNeg v3), s_item_h65) else chk (¬ (((40 * v1) + v4_h65) < 0 ∨ 320 ≤ ((40 * v1) + v4_h65).toNatClampNeg)) (((fX9_row_L65 s_lane s_many v1 v2 v3 n) (v4_h65 + 1) (upd s_item_h65 ((40 * v1) + v4_h65).toNatClampNeg 0))))
def fX9_row (s_status : Int32) (s_lane : (Nat → Int32)) (s_many : (Nat → Int32)) (s_item : (Nat → Int32)) (v1 : Int32) (v2 : Int32) (v3 : Int32) : Option (Int32 × Int32 × Int32 × (Nat → Int32) × (Nat → Int32) × (Nat → Int32)) :=
  bd1 (fX9_isRow v1) (fun r_1 => (if r_1 = 0 then some ((-1000001), 0, s_status, s_lane, s_many, s_item) else bd1 (fX9_in v2.toInt64 0 2) (fun r_3 => (if r_3 = 0 then some ((-1000001), 0, s_status, s_lane, s_many, s_item) else (if v3 ≤ 40 then (if 0 ≤ v3 then chk (¬ (v1 < 0 ∨ 8 ≤ v1.toNatClampNeg)) (chk (¬ (v1 < 0 ∨ 8 ≤ v1.toNatClampNeg)) ((fX9_row_L65 s_lane s_many v1 v2 v3 FU 0 s_item))) else bd2 (fX9_finding 4) (fun r_11 s_status_11 => some (r_11, 0, s_status_11, s_lane, s_many, s_item))) else some ((-1000001), 0, s_status, s_lane, s_many, s_item))))))
abbrev rmX9_row : Room := { frames := 2, cells := 0, slots := 0, locals := 45 }
theorem ddX9_row : yX9_row.cls ≠ "java/lang/invoke/MethodHandle" ∧ yX9_row.cls ≠ "java/lang/invoke/VarHandle" ∧ (parseMethodDescriptor yX9_row.desc).map (fun d => d.parameters.length) = some 3 := by decide +kernel
set_option maxHeartbeats 4000000 in
set_option maxRecDepth 100000 in
theorem m_X9_row (l : Launch) (dC : Nat → ClassId) (dI : Nat → Nat → Nat) (cI cZ : ClassId) (q_s q_s_lane q_s_many q_s_item q_s_isle q_s_fresh q_s_then q_s_was q_s_tape q_s_isKept q_s_kept q_s_trace : Nat) (s_thrown : Int32) (s_status : Int32) (s_lane : (Nat → Int32)) (s_many : (Nat → Int32)) (s_item : (Nat → Int32)) (s_isle : (Nat → Int32)) (s_fresh : (Nat → Int32)) (s_then : (Nat → Int32)) (s_was : (Nat → Int32)) (s_acts : Int32) (s_tape : (Nat → Int32)) (s_taped : Int32) (s_cursor : Int32) (s_start : Int32) (s_token : Int32) (s_value : Int32) (s_fault : Int32) (s_faultAt : Int32) (s_latest : Int32) (s_isKept : (Nat → Int32)) (s_kept : (Nat → Int32)) (s_trace : (Nat → Int32)) (s_traced : Int32) (v1 : Int32) (v2 : Int32) (v3 : Int32) (sz : Nat) (res : Int32 × Int32 × Int32 × (Nat → Int32) × (Nat → Int32) × (Nat → Int32)) (hf : fX9_row s_status s_lane s_many s_item v1 v2 v3 = some res) : Met l yX9_row wsX9_row rmX9_row (mtPc (dC, dI) (tyZ cI cZ) ((W_M cI cZ q_s q_s_lane q_s_many q_s_item q_s_isle q_s_fresh q_s_then q_s_was q_s_tape q_s_isKept q_s_kept q_s_trace s_thrown s_status s_lane s_many s_item s_isle s_fresh s_then s_was s_acts s_tape s_taped s_cursor s_start s_token s_value s_fault s_faultAt s_latest s_isKept s_kept s_trace s_traced)) [.ref q_s, .int v1, .int v2, .int v3] sz) (mtQi (dC, dI) (tyZ cI cZ) ((W_M cI cZ q_s q_s_lane q_s_many q_s_item q_s_isle q_s_fresh q_s_then q_s_was q_s_tape q_s_isKept q_s_kept q_s_trace s_thrown s_status s_lane s_many s_item s_isle s_fresh s_then s_was s_acts s_tape s_taped s_cursor s_start s_token s_value s_fault s_faultAt s_latest s_isKept s_kept s_trace s_traced)) ((W_M cI cZ q_s q_s_lane q_s_many q_s_item q_s_isle q_s_fresh q_s_then q_s_was q_s_tape q_s_isKept q_s_kept q_s_trace res.2.1 res.2.2.1 res.2.2.2.1 res.2.2.2.2.1 res.2.2.2.2.2 s_isle s_fresh s_then s_was s_acts s_tape s_taped s_cursor s_start s_token s_value s_fault s_faultAt s_latest s_isKept s_kept s_trace s_traced)) res.1 sz) 0 0 (va_A ((W_M cI cZ q_s q_s_lane q_s_many q_s_item q_s_isle q_s_fresh q_s_then q_s_was q_s_tape q_s_isKept q_s_kept q_s_trace s_thrown s_status s_lane s_many s_item s_isle s_fresh s_then s_was s_acts s_tape s_taped s_cursor s_start s_token s_value s_fault s_faultAt s_latest s_isKept s_kept s_trace s_traced)) sz) := by
  refine Met.ofW (cc := cX9_row) (maxL := 5) (ret := (some .int)) (by decide) rfl ?_
  intro p e s m args below meth c s₁ B hml hv
  obtain ⟨rfl, hsz, hP, hK, hD0⟩ := hv
  have hx := B.exec
  have hb := B.bytes
  have hr := B.returns
  have hts := atoms_spec (ws := wsX9_row) B.pre
  have hown : s.vm.findClass RX9 = some m.cls := findClass_of_methodNamed B.named
  have hlocks := B.notSynchronized
  subst hsz
  have hD := hD0.self (sz := s.heap.size)
  obtain ⟨A, hAe⟩ : ∃ A, A = va_A ((W_M cI cZ q_s q_s_lane q_s_many q_s_item q_s_isle q_s_fresh q_s_then q_s_was q_s_tape q_s_isKept q_s_kept q_s_trace s_thrown s_status s_lane s_many s_item s_isle s_fresh s_then s_was s_acts s_tape s_taped s_cursor s_start s_token s_value s_fault s_faultAt s_latest s_isKept s_kept s_trace s_traced)) s.heap.size := ⟨_, rfl⟩
  rw [← hAe] at hD
  have hA : ∀ q : Nat, s.heap.size ≤ q → A q := fun q h => by rw [hAe]; exact Or.inr h
  have hS : va_S A s.heap s.heap [] := va_S.rf
  have hl := lv_entry ([.ref q_s, .int v1, .int v2, .int v3]) (n := 5) (Nat.le_of_ble_eq_true rfl)
  rw [lg_entry_eq]
  generalize (lg_sl ([.ref q_s, .int v1, .int v2, .int v3]) ++ List.replicate (5 - (lg_sl ([.ref q_s, .int v1, .int v2, .int v3])).length) Slot.unset).toArray = ls at hl ⊢
  have hl : lv_has ls 5 [(0, .ref q_s), (1, .int v1), (2, .int v2), (3, .int v3)] := hl
  obtain ⟨QQ, hQQ⟩ : ∃ Q, Q = MQ below (mtQi (dC, dI) (tyZ cI cZ) ((W_M cI cZ q_s q_s_lane q_s_many q_s_item q_s_isle q_s_fresh q_s_then q_s_was q_s_tape q_s_isKept q_s_kept q_s_trace s_thrown s_status s_lane s_many s_item s_isle s_fresh s_then s_was s_acts s_tape s_taped s_cursor s_start s_token s_value s_fault s_faultAt s_latest s_isKept s_kept s_trace s_traced)) ((W_M cI cZ q_s q_s_lane q_s_many q_s_item q_s_isle q_s_fresh q_s_then q_s_was q_s_tape q_s_isKept q_s_kept q_s_trace res.2.1 res.2.2.1 res.2.2.2.1 res.2.2.2.2.1 res.2.2.2.2.2 s_isle s_fresh s_then s_was s_acts s_tape s_taped s_cursor s_start s_token s_value s_fault s_faultAt s_latest s_isKept s_kept s_trace s_traced)) res.1 s.heap.size) ([.ref q_s, .int v1, .int v2, .int v3] : List Value).toArray s 0 0 (va_A ((W_M cI cZ q_s q_s_lane q_s_many q_s_item q_s_isle q_s_fresh q_s_then q_s_was q_s_tape q_s_isKept q_s_kept q_s_trace s_thrown s_status s_lane s_many s_item s_isle s_fresh s_then s_was s_acts s_tape s_taped s_cursor s_start s_token s_value s_fault s_faultAt s_latest s_isKept s_kept s_trace s_traced)) s.heap.size) := ⟨_, rfl⟩
  rw [← hQQ]
  have w_0 := hts (Cond.fieldLink RX9 44 "TideInchesModel" "thrown" "I") (List.mem_of_getElem? (i := 1) rfl)
  have w_1 := (fun w hw => List.mem_cons_of_mem _ (List.mem_append_right _ hw) : ∀ w ∈ wsX90, w ∈ wsX9_row)
  have w_2 := hts (Cond.constant RX9 64 (-1000001)) (List.mem_of_getElem? (i := 3) rfl)
  have w_3 := hts (Cond.constantLong RX9 62 (2)) (List.mem_of_getElem? (i := 2) rfl)
  have w_4 := hts (Cond.fieldLink RX9 48 "TideInchesModel" "status" "I") (List.mem_of_getElem? (i := 4) rfl)
  have w_5 := hts (Cond.fieldLink RX9 7 "TideInchesModel" "lane" "[I") (List.mem_of_getElem? (i := 5) rfl)
  have w_6 := hts (Cond.fieldLink RX9 13 "TideInchesModel" "many" "[I") (List.mem_of_getElem? (i := 6) rfl)
  have w_7 := hts (Cond.fieldLink RX9 16 "TideInchesModel" "item" "[I") (List.mem_of_getElem? (i := 7) rfl)
  have h := hf
  unfold fX9_row at h
  refine lv_aload_n hx hb dX9_row_0 rfl (lv_at hl 0 rfl) ?_
  refine lv_iconst (v := 0) hx hb dX9_row_1 (by decide) ?_
  refine va_put (D := (dC, dI)) (ci := 7) (v := .int 0) (ty := .int) (C := RX9) (T := TX9) (N := 23) hx hb hts w_1 tyX9 tyX9_ok nmX9 hown hK hP hD hS 0 rfl rfl 0 (by decide) w_0 (fun _ h9 => h9) rfl (by decide +kernel) rfl rfl (Nat.le_of_ble_eq_true rfl) dX9_row_2 (fun H locs hP hD hS => ?_)
  have hP : va_P (dC, dI) vwCl ((W_M cI cZ q_s q_s_lane q_s_many q_s_item q_s_isle q_s_fresh q_s_then q_s_was q_s_tape q_s_isKept q_s_kept q_s_trace 0 s_status s_lane s_many s_item s_isle s_fresh s_then s_was s_acts s_tape s_taped s_cursor s_start s_token s_value s_fault s_faultAt s_latest s_isKept s_kept s_trace s_traced)) H := hP
  have hD : va_D A ((W_M cI cZ q_s q_s_lane q_s_many q_s_item q_s_isle q_s_fresh q_s_then q_s_was q_s_tape q_s_isKept q_s_kept q_s_trace 0 s_status s_lane s_many s_item s_isle s_fresh s_then s_was s_acts s_tape s_taped s_cursor s_start s_token s_value s_fault s_faultAt s_latest s_isKept s_kept s_trace s_traced)) := hD
  refine lv_iload_n hx hb dX9_row_5 rfl (lv_at hl 1 rfl) ?_
  obtain ⟨r_1, hc_1, h⟩ := bd1_of h
  refine cl_pS (As := [.int v1]) (rest := []) ⟨hx, hb, hml, hown, hts⟩ (m_X9_isRow l v1 (r_1) hc_1) (va_cwS 1 hts gX9_row_X9_isRow rfl rfl rfl ddX9_isRow ⟨Nat.le_of_ble_eq_true rfl, Nat.le_of_ble_eq_true rfl⟩) rfl rfl hl.1 (Nat.le_of_ble_eq_true rfl) ⟨Nat.zero_le _, Nat.zero_le _⟩ dX9_row_6 ?_
  refine lv_if_eq (tgt := 30) hx hb dX9_row_9 (by decide) (fun c_2 => ?_) (fun c_2 => ?_)
  · have h := (if_pos c_2).symm.trans h
    refine lv_ldc hx hb hown w_2 dX9_row_30 ?_
    have h := Option.some.inj h
    subst h
    rw [hQQ]
    subst hAe
    exact W.iret (v := (-1000001)) hx hb hr (fun t ht hW => ⟨⟨_, (), rfl, rfl, by rw [ht]; exact hP, va_K.moved hW.alike hK, hD⟩, hS.F ht⟩) hS.2.2 dX9_row_32
  · have h := (if_neg c_2).symm.trans h
    refine lv_iload_n hx hb dX9_row_12 rfl (lv_at hl 2 rfl) ?_
    refine lv_i2l hx hb dX9_row_13 rfl ?_
    refine lv_lconst (v := 0) hx hb dX9_row_14 (by decide) ?_
    refine lv_ldc2 hx hb hown w_3 dX9_row_15 ?_
    obtain ⟨r_3, hc_3, h⟩ := bd1_of h
    refine cl_pS (As := [.long v2.toInt64, .long 0, .long 2]) (rest := []) ⟨hx, hb, hml, hown, hts⟩ (m_X9_in l v2.toInt64 0 2 (r_3) hc_3) (va_cwS 3 hts gX9_row_X9_in rfl rfl rfl ddX9_in ⟨Nat.le_of_ble_eq_true rfl, Nat.le_of_ble_eq_true rfl⟩) rfl rfl hl.1 (Nat.le_of_ble_eq_true rfl) ⟨Nat.zero_le _, Nat.zero_le _⟩ dX9_row_18 ?_
    refine lv_if_eq (tgt := 30) hx hb dX9_row_21 (by decide) (fun c_4 => ?_) (fun c_4 => ?_)
    · have h := (if_pos c_4).symm.trans h
      refine lv_ldc hx hb hown w_2 dX9_row_30 ?_
      have h := Option.some.inj h
      subst h
      rw [hQQ]
      subst hAe
      exact W.iret (v := (-1000001)) hx hb hr (fun t ht hW => ⟨⟨_, (), rfl, rfl, by rw [ht]; exact hP, va_K.moved hW.alike hK, hD⟩, hS.F ht⟩) hS.2.2 dX9_row_32
    · have h := (if_neg c_4).symm.trans h
      refine lv_iload_n hx hb dX9_row_24 rfl (lv_at hl 3 rfl) ?_
      refine lv_bipush (v := 40) hx hb dX9_row_25 (by decide) ?_
      refine lv_icmp_le (tgt := 33) hx hb dX9_row_27 (by decide) (fun c_5 => ?_) (fun c_5 => ?_)
      · have h := (if_pos c_5).symm.trans h
        refine lv_aload_n hx hb dX9_row_33 rfl (lv_at hl 0 rfl) ?_
        refine lv_iconst (v := 0) hx hb dX9_row_34 (by decide) ?_
        refine va_put (D := (dC, dI)) (ci := 7) (v := .int 0) (ty := .int) (C := RX9) (T := TX9) (N := 23) hx hb hts w_1 tyX9 tyX9_ok nmX9 hown hK hP hD hS 0 rfl rfl 1 (by decide) w_4 (fun _ h9 => h9) rfl (by decide +kernel) rfl rfl (Nat.le_of_ble_eq_true rfl) dX9_row_35 (fun H locs hP hD hS => ?_)
        have hP : va_P (dC, dI) vwCl ((W_M cI cZ q_s q_s_lane q_s_many q_s_item q_s_isle q_s_fresh q_s_then q_s_was q_s_tape q_s_isKept q_s_kept q_s_trace 0 0 s_lane s_many s_item s_isle s_fresh s_then s_was s_acts s_tape s_taped s_cursor s_start s_token s_value s_fault s_faultAt s_latest s_isKept s_kept s_trace s_traced)) H := hP
        have hD : va_D A ((W_M cI cZ q_s q_s_lane q_s_many q_s_item q_s_isle q_s_fresh q_s_then q_s_was q_s_tape q_s_isKept q_s_kept q_s_trace 0 0 s_lane s_many s_item s_isle s_fresh s_then s_was s_acts s_tape s_taped s_cursor s_start s_token s_value s_fault s_faultAt s_latest s_isKept s_kept s_trace s_traced)) := hD
        refine lv_iload_n hx hb dX9_row_38 rfl (lv_at hl 3 rfl) ?_
        refine lv_if_ge (tgt := 48) hx hb dX9_row_39 (by decide) (fun c_6 => ?_) (fun c_6 => ?_)
        · have h := (if_pos c_6).symm.trans h
          refine lv_aload_n hx hb dX9_row_48 rfl (lv_at hl 0 rfl) ?_
          refine va_get (D := (dC, dI)) (ci := 7) (v := .ref q_s_lane) (C := RX9) (T := TX9) (N := 23) hx hb hts w_1 hown hK hP 0 rfl rfl 2 (by decide) w_5 (fun _ h9 => h9) rfl dX9_row_49 ?_
          refine lv_iload_n hx hb dX9_row_52 rfl (lv_at hl 1 rfl) ?_
          refine lv_iload_n hx hb dX9_row_53 rfl (lv_at hl 2 rfl) ?_
          obtain ⟨b_7, h⟩ := chk_of h
          refine va_iast hx hb hK hP hD hS 1 0 rfl rfl (i := v1) (x := v2) b_7 dX9_row_54 (fun H locs hP hD hS => ?_)
          have hP : va_P (dC, dI) vwCl ((W_M cI cZ q_s q_s_lane q_s_many q_s_item q_s_isle q_s_fresh q_s_then q_s_was q_s_tape q_s_isKept q_s_kept q_s_trace 0 0 (upd s_lane v1.toNatClampNeg v2) s_many s_item s_isle s_fresh s_then s_was s_acts s_tape s_taped s_cursor s_start s_token s_value s_fault s_faultAt s_latest s_isKept s_kept s_trace s_traced)) H := hP
          have hD : va_D A ((W_M cI cZ q_s q_s_lane q_s_many q_s_item q_s_isle q_s_fresh q_s_then q_s_was q_s_tape q_s_isKept q_s_kept q_s_trace 0 0 (upd s_lane v1.toNatClampNeg v2) s_many s_item s_isle s_fresh s_then s_was s_acts s_tape s_taped s_cursor s_start s_token s_value s_fault s_faultAt s_latest s_isKept s_kept s_trace s_traced)) := hD
          refine lv_aload_n hx hb dX9_row_55 rfl (lv_at hl 0 rfl) ?_
          refine va_get (D := (dC, dI)) (ci := 7) (v := .ref q_s_many) (C := RX9) (T := TX9) (N := 23) hx hb hts w_1 hown hK hP 0 rfl rfl 3 (by decide) w_6 (fun _ h9 => h9) rfl dX9_row_56 ?_
          refine lv_iload_n hx hb dX9_row_59 rfl (lv_at hl 1 rfl) ?_
          refine lv_iload_n hx hb dX9_row_60 rfl (lv_at hl 3 rfl) ?_
          obtain ⟨b_8, h⟩ := chk_of h
          refine va_iast hx hb hK hP hD hS 2 0 rfl rfl (i := v1) (x := v3) b_8 dX9_row_61 (fun H locs hP hD hS => ?_)
          have hP : va_P (dC, dI) vwCl ((W_M cI cZ q_s q_s_lane q_s_many q_s_item q_s_isle q_s_fresh q_s_then q_s_was q_s_tape q_s_isKept q_s_kept q_s_trace 0 0 (upd s_lane v1.toNatClampNeg v2) (upd s_many v1.toNatClampNeg v3) s_item s_isle s_fresh s_then s_was s_acts s_tape s_taped s_cursor s_start s_token s_value s_fault s_faultAt s_latest s_isKept s_kept s_trace s_traced)) H := hP
          have hD : va_D A ((W_M cI cZ q_s q_s_lane q_s_many q_s_item q_s_isle q_s_fresh q_s_then q_s_was q_s_tape q_s_isKept q_s_kept q_s_trace 0 0 (upd s_lane v1.toNatClampNeg v2) (upd s_many v1.toNatClampNeg v3) s_item s_isle s_fresh s_then s_was s_acts s_tape s_taped s_cursor s_start s_token s_value s_fault s_faultAt s_latest s_isKept s_kept s_trace s_traced)) := hD
          refine lv_iconst (v := 0) hx hb dX9_row_62 (by decide) ?_
          refine lv_istore (lv' := [(4, .int 0), (0, .ref q_s), (1, .int v1), (2, .int v2), (3, .int v3)]) hx hb dX9_row_63 hl (by decide) rfl (fun ls hl => ?_)
          have KL65 : ∀ (n : Nat) (v4_h65 : Int32) (s_item_h65 : (Nat → Int32)) (H : Heap) (locs : List Loc) (ls : Array Slot), va_P (dC, dI) vwCl ((W_M cI cZ q_s q_s_lane q_s_many q_s_item q_s_isle q_s_fresh q_s_then q_s_was q_s_tape q_s_isKept q_s_kept q_s_trace 0 0 (upd s_lane v1.toNatClampNeg v2) (upd s_many v1.toNatClampNeg v3) s_item_h65 s_isle s_fresh s_then s_was s_acts s_tape s_taped s_cursor s_start s_token s_value s_fault s_faultAt s_latest s_isKept s_kept s_trace s_traced)) H → va_D A ((W_M cI cZ q_s q_s_lane q_s_many q_s_item q_s_isle q_s_fresh q_s_then q_s_was q_s_tape q_s_isKept q_s_kept q_s_trace 0 0 (upd s_lane v1.toNatClampNeg v2) (upd s_many v1.toNatClampNeg v3) s_item_h65 s_isle s_fresh s_then s_was s_acts s_tape s_taped s_cursor s_start s_token s_value s_fault s_faultAt s_latest s_isKept s_kept s_trace s_traced)) → va_S A s.heap H locs → lv_has ls 5 [(0, .ref q_s), (1, .int v1), (3, .int v3), (4, .int v4_h65)] → fX9_row_L65 s_lane s_many v1 v2 v3 n v4_h65 s_item_h65 = some res → W p l e (headSpec wsX9_row rmX9_row).room s m ([.ref q_s, .int v1, .int v2, .int v3] : List Value).toArray below meth c H locs 0 0 QQ (F0 m 65 ls []) := by
            intro  n
            induction n with
            | zero => intro v4_h65 s_item_h65 H locs ls hP hD hS hl h; rw [fX9_row_L65.eq_1] at h; cases h
            | succ n ih =>
              intro v4_h65 s_item_h65 H locs ls hP hD hS hl h
              rw [fX9_row_L65.eq_2] at h
              refine lv_iload hx hb dX9_row_65 (lv_at hl 3 rfl) ?_
              refine lv_bipush (v := 40) hx hb dX9_row_67 (by decide) ?_
              refine lv_icmp_ge (tgt := 91) hx hb dX9_row_69 (by decide) (fun c_9 => ?_) (fun c_9 => ?_)
              · have h := (if_pos c_9).symm.trans h
                refine lv_iload_n hx hb dX9_row_91 rfl (lv_at hl 2 rfl) ?_
                have h := Option.some.inj h
                subst h
                rw [hQQ]
                subst hAe
                exact W.iret (v := v3) hx hb hr (fun t ht hW => ⟨⟨_, (), rfl, rfl, by rw [ht]; exact hP, va_K.moved hW.alike hK, hD⟩, hS.F ht⟩) hS.2.2 dX9_row_92
              · have h := (if_neg c_9).symm.trans h
                refine lv_aload_n hx hb dX9_row_72 rfl (lv_at hl 0 rfl) ?_
                refine va_get (D := (dC, dI)) (ci := 7) (v := .ref q_s_item) (C := RX9) (T := TX9) (N := 23) hx hb hts w_1 hown hK hP 0 rfl rfl 4 (by decide) w_7 (fun _ h9 => h9) rfl dX9_row_73 ?_
                refine lv_bipush (v := 40) hx hb dX9_row_76 (by decide) ?_
                refine lv_iload_n hx hb dX9_row_78 rfl (lv_at hl 1 rfl) ?_
                refine lv_imul hx hb dX9_row_79 ?_
                refine lv_iload hx hb dX9_row_80 (lv_at hl 3 rfl) ?_
                refine lv_iadd hx hb dX9_row_82 ?_
                refine lv_iconst (v := 0) hx hb dX9_row_83 (by decide) ?_
                obtain ⟨b_10, h⟩ := chk_of h
                refine va_iast hx hb hK hP hD hS 3 0 rfl rfl (i := ((40 * v1) + v4_h65)) (x := 0) b_10 dX9_row_84 (fun H locs hP hD hS => ?_)
                have hP : va_P (dC, dI) vwCl ((W_M cI cZ q_s q_s_lane q_s_many q_s_item q_s_isle q_s_fresh q_s_then q_s_was q_s_tape q_s_isKept q_s_kept q_s_trace 0 0 (upd s_lane v1.toNatClampNeg v2) (upd s_many v1.toNatClampNeg v3) (upd s_item_h65 ((40 * v1) + v4_h65).toNatClampNeg 0) s_isle s_fresh s_then s_was s_acts s_tape s_taped s_cursor s_start s_token s_value s_fault s_faultAt s_latest s_isKept s_kept s_trace s_traced)) H := hP
                have hD : va_D A ((W_M cI cZ q_s q_s_lane q_s_many q_s_item q_s_isle q_s_fresh q_s_then q_s_was q_s_tape q_s_isKept q_s_kept q_s_trace 0 0 (upd s_lane v1.toNatClampNeg v2) (upd s_many v1.toNatClampNeg v3) (upd s_item_h65 ((40 * v1) + v4_h65).toNatClampNeg 0) s_isle s_fresh s_then s_was s_acts s_tape s_taped s_cursor s_start s_token s_value s_fault s_faultAt s_latest s_isKept s_kept s_trace s_traced)) := hD
                refine lv_iinc (v := (v4_h65 + 1)) (lv' := [(4, .int (v4_h65 + 1)), (0, .ref q_s), (1, .int v1), (3, .int v3)]) hx hb dX9_row_85 hl (k := 3) rfl rfl (by decide) rfl (fun ls hl => ?_)
                refine lv_goto (tgt := 65) hx hb dX9_row_88 (by decide) ?_
                exact ih (v4_h65 + 1) (upd s_item_h65 ((40 * v1) + v4_h65).toNatClampNeg 0) _ _ _ hP hD hS (lv_sub hl [1, 2, 3, 0] rfl) h
          exact KL65 FU 0 s_item _ _ _ hP hD hS (lv_sub hl [1, 2, 4, 0] rfl) h
        · have h := (if_neg c_6).symm.trans h
          refine lv_aload_n hx hb dX9_row_42 rfl (lv_at hl 0 rfl) ?_
          refine lv_iconst (v := 4) hx hb dX9_row_43 (by decide) ?_
          obtain ⟨r_11, s_status_11, hc_11, h⟩ := bd2_of h
          refine cl_mVi (As := [.int 4]) (rest := []) (ws' := (W_M cI cZ q_s q_s_lane q_s_many q_s_item q_s_isle q_s_fresh q_s_then q_s_was q_s_tape q_s_isKept q_s_kept q_s_trace 0 s_status_11 s_lane s_many s_item s_isle s_fresh s_then s_was s_acts s_tape s_taped s_cursor s_start s_token s_value s_fault s_faultAt s_latest s_isKept s_kept s_trace s_traced)) (wr := []) ⟨hx, hb, hml, hown, hts⟩ (m_X9_finding l dC dI cI cZ q_s q_s_lane q_s_many q_s_item q_s_isle q_s_fresh q_s_then q_s_was q_s_tape q_s_isKept q_s_kept q_s_trace 0 0 s_lane s_many s_item s_isle s_fresh s_then s_was s_acts s_tape s_taped s_cursor s_start s_token s_value s_fault s_faultAt s_latest s_isKept s_kept s_trace s_traced 4 _ (r_11, s_status_11) hc_11) (cwV 1 hts gX9_row_X9_finding rfl rfl rfl ⟨rfl, ddX9_finding⟩ ⟨Nat.le_of_ble_eq_true rfl, Nat.le_of_ble_eq_true rfl⟩) hK hP hD hS hA [0, 1, 2, 3, 4, 5, 6, 7, 8, 9, 10, 11] [] rfl rfl rfl rfl (by decide) [0, 1, 2, 3, 4, 5, 6, 7, 8, 9, 10, 11] rfl rfl rfl rfl rfl rfl rfl hl.1 (Nat.le_of_ble_eq_true rfl) ⟨Nat.zero_le _, Nat.zero_le _⟩ dX9_row_44 (fun H locs hP hD hS => ?_)
          have h := Option.some.inj h
          subst h
          rw [hQQ]
          subst hAe
          exact W.iret (v := r_11) hx hb hr (fun t ht hW => ⟨⟨_, (), rfl, rfl, by rw [ht]; exact hP, va_K.moved hW.alike hK, hD⟩, hS.F ht⟩) hS.2.2 dX9_row_47
      · have h := (if_neg c_5).symm.trans h
        refine lv_ldc hx hb hown w_2 dX9_row_30 ?_
        have h := Option.some.inj h
        subst h
        rw [hQQ]
        subst hAe
        exact W.iret (v := (-1000001)) hx hb hr (fun t ht hW => ⟨⟨_, (), rfl, rfl, by rw [ht]; exact hP, va_K.moved hW.alike hK, hD⟩, hS.F ht⟩) hS.2.2 dX9_row_32
def fX9_set_J99 (s_item : (Nat → Int32)) (v1 : Int32) (v2 : Int32) (w0_j99 : Int32) : Option (Int32 × Int32 × Int32 × (Nat → Int32)) :=
  chk (¬ (((40 * v1) + v2) < 0 ∨ 320 ≤ ((40 * v1) + v2).toNatClampNeg)) (chk (¬ (((40 * v1) + v2) < 0 ∨ 320 ≤ ((40 * v1) + v2).toNatClampNeg)) (some (((upd s_item ((40 * v1) + v2).toNatClampNeg w0_j99) ((40 * v1) + v2).toNatClampNeg), 0, 0, (upd s_item ((40 * v1) + v2).toNatClampNeg w0_j99))))
def fX9_set (s_status : Int32) (s_lane : (Nat → Int32)) (s_many : (Nat → Int32)) (s_item : (Nat → Int32)) (v1 : Int32) (v2 : Int32) (v3 : Int32) : Option (Int32 × Int32 × Int32 × (Nat → Int32)) :=
  bd1 (fX9_isRow v1) (fun r_1 => (if r_1 = 0 then some ((-1000001), 0, s_status, s_item) else chk (¬ (v1 < 0 ∨ 8 ≤ v1.toNatClampNeg)) ((if 0 ≤ (s_lane v1.toNatClampNeg) then chk (¬ (v1 < 0 ∨ 8 ≤ v1.toNatClampNeg)) (bd1 (fX9_in v2.toInt64 0 (((s_many v1.toNatClampNeg) - 1).toInt64)) (fun r_6 => (if r_6 = 0 then bd2 (fX9_finding 2) (fun r_14 s_status_14 => some (r_14, 0, s_status_14, s_item)) else chk (¬ (v1 < 0 ∨ 8 ≤ v1.toNatClampNeg)) ((if (s_lane v1.toNatClampNeg) = 0 then (fX9_set_J99 s_item v1 v2 v3.toInt8.toInt32) else chk (¬ (v1 < 0 ∨ 8 ≤ v1.toNatClampNeg)) ((if (s_lane v1.toNatClampNeg) = 1 then (fX9_set_J99 s_item v1 v2 v3.toInt16.toInt32) else (fX9_set_J99 s_item v1 v2 v3)))))))) else bd2 (fX9_finding 1) (fun r_15 s_status_15 => some (r_15, 0, s_status_15, s_item))))))
abbrev rmX9_set : Room := { frames := 2, cells := 0, slots := 0, locals := 45 }
theorem ddX9_set : yX9_set.cls ≠ "java/lang/invoke/MethodHandle" ∧ yX9_set.cls ≠ "java/lang/invoke/VarHandle" ∧ (parseMethodDescriptor yX9_set.desc).map (fun d => d.parameters.length) = some 3 := by decide +kernel
set_option maxHeartbeats 4000000 in
set_option maxRecDepth 100000 in
theorem m_X9_set (l : Launch) (dC : Nat → ClassId) (dI : Nat → Nat → Nat) (cI cZ : ClassId) (q_s q_s_lane q_s_many q_s_item q_s_isle q_s_fresh q_s_then q_s_was q_s_tape q_s_isKept q_s_kept q_s_trace : Nat) (s_thrown : Int32) (s_status : Int32) (s_lane : (Nat → Int32)) (s_many : (Nat → Int32)) (s_item : (Nat → Int32)) (s_isle : (Nat → Int32)) (s_fresh : (Nat → Int32)) (s_then : (Nat → Int32)) (s_was : (Nat → Int32)) (s_acts : Int32) (s_tape : (Nat → Int32)) (s_taped : Int32) (s_cursor : Int32) (s_start : Int32) (s_token : Int32) (s_value : Int32) (s_fault : Int32) (s_faultAt : Int32) (s_latest : Int32) (s_isKept : (Nat → Int32)) (s_kept : (Nat → Int32)) (s_trace : (Nat → Int32)) (s_traced : Int32) (v1 : Int32) (v2 : Int32) (v3 : Int32) (sz : Nat) (res : Int32 × Int32 × Int32 × (Nat → Int32)) (hf : fX9_set s_status s_lane s_many s_item v1 v2 v3 = some res) : Met l yX9_set wsX9_set rmX9_set (mtPc (dC, dI) (tyZ cI cZ) ((W_M cI cZ q_s q_s_lane q_s_many q_s_item q_s_isle q_s_fresh q_s_then q_s_was q_s_tape q_s_isKept q_s_kept q_s_trace s_thrown s_status s_lane s_many s_item s_isle s_fresh s_then s_was s_acts s_tape s_taped s_cursor s_start s_token s_value s_fault s_faultAt s_latest s_isKept s_kept s_trace s_traced)) [.ref q_s, .int v1, .int v2, .int v3] sz) (mtQi (dC, dI) (tyZ cI cZ) ((W_M cI cZ q_s q_s_lane q_s_many q_s_item q_s_isle q_s_fresh q_s_then q_s_was q_s_tape q_s_isKept q_s_kept q_s_trace s_thrown s_status s_lane s_many s_item s_isle s_fresh s_then s_was s_acts s_tape s_taped s_cursor s_start s_token s_value s_fault s_faultAt s_latest s_isKept s_kept s_trace s_traced)) ((W_M cI cZ q_s q_s_lane q_s_many q_s_item q_s_isle q_s_fresh q_s_then q_s_was q_s_tape q_s_isKept q_s_kept q_s_trace res.2.1 res.2.2.1 s_lane s_many res.2.2.2 s_isle s_fresh s_then s_was s_acts s_tape s_taped s_cursor s_start s_token s_value s_fault s_faultAt s_latest s_isKept s_kept s_trace s_traced)) res.1 sz) 0 0 (va_A ((W_M cI cZ q_s q_s_lane q_s_many q_s_item q_s_isle q_s_fresh q_s_then q_s_was q_s_tape q_s_isKept q_s_kept q_s_trace s_thrown s_status s_lane s_many s_item s_isle s_fresh s_then s_was s_acts s_tape s_taped s_cursor s_start s_token s_value s_fault s_faultAt s_latest s_isKept s_kept s_trace s_traced)) sz) := by
  refine Met.ofW (cc := cX9_set) (maxL := 4) (ret := (some .int)) (by decide) rfl ?_
  intro p e s m args below meth c s₁ B hml hv
  obtain ⟨rfl, hsz, hP, hK, hD0⟩ := hv
  have hx := B.exec
  have hb := B.bytes
  have hr := B.returns
  have hts := atoms_spec (ws := wsX9_set) B.pre
  have hown : s.vm.findClass RX9 = some m.cls := findClass_of_methodNamed B.named
  have hlocks := B.notSynchronized
  subst hsz
  have hD := hD0.self (sz := s.heap.size)
  obtain ⟨A, hAe⟩ : ∃ A, A = va_A ((W_M cI cZ q_s q_s_lane q_s_many q_s_item q_s_isle q_s_fresh q_s_then q_s_was q_s_tape q_s_isKept q_s_kept q_s_trace s_thrown s_status s_lane s_many s_item s_isle s_fresh s_then s_was s_acts s_tape s_taped s_cursor s_start s_token s_value s_fault s_faultAt s_latest s_isKept s_kept s_trace s_traced)) s.heap.size := ⟨_, rfl⟩
  rw [← hAe] at hD
  have hA : ∀ q : Nat, s.heap.size ≤ q → A q := fun q h => by rw [hAe]; exact Or.inr h
  have hS : va_S A s.heap s.heap [] := va_S.rf
  have hl := lv_entry ([.ref q_s, .int v1, .int v2, .int v3]) (n := 4) (Nat.le_of_ble_eq_true rfl)
  rw [lg_entry_eq]
  generalize (lg_sl ([.ref q_s, .int v1, .int v2, .int v3]) ++ List.replicate (4 - (lg_sl ([.ref q_s, .int v1, .int v2, .int v3])).length) Slot.unset).toArray = ls at hl ⊢
  have hl : lv_has ls 4 [(0, .ref q_s), (1, .int v1), (2, .int v2), (3, .int v3)] := hl
  obtain ⟨QQ, hQQ⟩ : ∃ Q, Q = MQ below (mtQi (dC, dI) (tyZ cI cZ) ((W_M cI cZ q_s q_s_lane q_s_many q_s_item q_s_isle q_s_fresh q_s_then q_s_was q_s_tape q_s_isKept q_s_kept q_s_trace s_thrown s_status s_lane s_many s_item s_isle s_fresh s_then s_was s_acts s_tape s_taped s_cursor s_start s_token s_value s_fault s_faultAt s_latest s_isKept s_kept s_trace s_traced)) ((W_M cI cZ q_s q_s_lane q_s_many q_s_item q_s_isle q_s_fresh q_s_then q_s_was q_s_tape q_s_isKept q_s_kept q_s_trace res.2.1 res.2.2.1 s_lane s_many res.2.2.2 s_isle s_fresh s_then s_was s_acts s_tape s_taped s_cursor s_start s_token s_value s_fault s_faultAt s_latest s_isKept s_kept s_trace s_traced)) res.1 s.heap.size) ([.ref q_s, .int v1, .int v2, .int v3] : List Value).toArray s 0 0 (va_A ((W_M cI cZ q_s q_s_lane q_s_many q_s_item q_s_isle q_s_fresh q_s_then q_s_was q_s_tape q_s_isKept q_s_kept q_s_trace s_thrown s_status s_lane s_many s_item s_isle s_fresh s_then s_was s_acts s_tape s_taped s_cursor s_start s_token s_value s_fault s_faultAt s_latest s_isKept s_kept s_trace s_traced)) s.heap.size) := ⟨_, rfl⟩
  rw [← hQQ]
  have w_0 := hts (Cond.fieldLink RX9 44 "TideInchesModel" "thrown" "I") (List.mem_of_getElem? (i := 1) rfl)
  have w_1 := (fun w hw => List.mem_cons_of_mem _ (List.mem_append_right _ hw) : ∀ w ∈ wsX90, w ∈ wsX9_set)
  have w_2 := hts (Cond.fieldLink RX9 48 "TideInchesModel" "status" "I") (List.mem_of_getElem? (i := 3) rfl)
  have w_3 := hts (Cond.fieldLink RX9 7 "TideInchesModel" "lane" "[I") (List.mem_of_getElem? (i := 4) rfl)
  have w_4 := hts (Cond.fieldLink RX9 13 "TideInchesModel" "many" "[I") (List.mem_of_getElem? (i := 5) rfl)
  have w_5 := hts (Cond.fieldLink RX9 16 "TideInchesModel" "item" "[I") (List.mem_of_getElem? (i := 6) rfl)
  have w_6 := hts (Cond.constant RX9 64 (-1000001)) (List.mem_of_getElem? (i := 2) rfl)
  have h := hf
  unfold fX9_set at h
  refine lv_aload_n hx hb dX9_set_0 rfl (lv_at hl 0 rfl) ?_
  refine lv_iconst (v := 0) hx hb dX9_set_1 (by decide) ?_
  refine va_put (D := (dC, dI)) (ci := 7) (v := .int 0) (ty := .int) (C := RX9) (T := TX9) (N := 23) hx hb hts w_1 tyX9 tyX9_ok nmX9 hown hK hP hD hS 0 rfl rfl 0 (by decide) w_0 (fun _ h9 => h9) rfl (by decide +kernel) rfl rfl (Nat.le_of_ble_eq_true rfl) dX9_set_2 (fun H locs hP hD hS => ?_)
  have hP : va_P (dC, dI) vwCl ((W_M cI cZ q_s q_s_lane q_s_many q_s_item q_s_isle q_s_fresh q_s_then q_s_was q_s_tape q_s_isKept q_s_kept q_s_trace 0 s_status s_lane s_many s_item s_isle s_fresh s_then s_was s_acts s_tape s_taped s_cursor s_start s_token s_value s_fault s_faultAt s_latest s_isKept s_kept s_trace s_traced)) H := hP
  have hD : va_D A ((W_M cI cZ q_s q_s_lane q_s_many q_s_item q_s_isle q_s_fresh q_s_then q_s_was q_s_tape q_s_isKept q_s_kept q_s_trace 0 s_status s_lane s_many s_item s_isle s_fresh s_then s_was s_acts s_tape s_taped s_cursor s_start s_token s_value s_fault s_faultAt s_latest s_isKept s_kept s_trace s_traced)) := hD
  refine lv_iload_n hx hb dX9_set_5 rfl (lv_at hl 1 rfl) ?_
  obtain ⟨r_1, hc_1, h⟩ := bd1_of h
  refine cl_pS (As := [.int v1]) (rest := []) ⟨hx, hb, hml, hown, hts⟩ (m_X9_isRow l v1 (r_1) hc_1) (va_cwS 1 hts gX9_set_X9_isRow rfl rfl rfl ddX9_isRow ⟨Nat.le_of_ble_eq_true rfl, Nat.le_of_ble_eq_true rfl⟩) rfl rfl hl.1 (Nat.le_of_ble_eq_true rfl) ⟨Nat.zero_le _, Nat.zero_le _⟩ dX9_set_6 ?_
  refine lv_if_ne (tgt := 15) hx hb dX9_set_9 (by decide) (fun c_2 => ?_) (fun c_2 => ?_)
  · have h := (if_neg c_2).symm.trans h
    refine lv_aload_n hx hb dX9_set_15 rfl (lv_at hl 0 rfl) ?_
    refine lv_iconst (v := 0) hx hb dX9_set_16 (by decide) ?_
    refine va_put (D := (dC, dI)) (ci := 7) (v := .int 0) (ty := .int) (C := RX9) (T := TX9) (N := 23) hx hb hts w_1 tyX9 tyX9_ok nmX9 hown hK hP hD hS 0 rfl rfl 1 (by decide) w_2 (fun _ h9 => h9) rfl (by decide +kernel) rfl rfl (Nat.le_of_ble_eq_true rfl) dX9_set_17 (fun H locs hP hD hS => ?_)
    have hP : va_P (dC, dI) vwCl ((W_M cI cZ q_s q_s_lane q_s_many q_s_item q_s_isle q_s_fresh q_s_then q_s_was q_s_tape q_s_isKept q_s_kept q_s_trace 0 0 s_lane s_many s_item s_isle s_fresh s_then s_was s_acts s_tape s_taped s_cursor s_start s_token s_value s_fault s_faultAt s_latest s_isKept s_kept s_trace s_traced)) H := hP
    have hD : va_D A ((W_M cI cZ q_s q_s_lane q_s_many q_s_item q_s_isle q_s_fresh q_s_then q_s_was q_s_tape q_s_isKept q_s_kept q_s_trace 0 0 s_lane s_many s_item s_isle s_fresh s_then s_was s_acts s_tape s_taped s_cursor s_start s_token s_value s_fault s_faultAt s_latest s_isKept s_kept s_trace s_traced)) := hD
    refine lv_aload_n hx hb dX9_set_20 rfl (lv_at hl 0 rfl) ?_
    refine va_get (D := (dC, dI)) (ci := 7) (v := .ref q_s_lane) (C := RX9) (T := TX9) (N := 23) hx hb hts w_1 hown hK hP 0 rfl rfl 2 (by decide) w_3 (fun _ h9 => h9) rfl dX9_set_21 ?_
    refine lv_iload_n hx hb dX9_set_24 rfl (lv_at hl 1 rfl) ?_
    obtain ⟨b_3, h⟩ := chk_of h
    refine va_iald hx hb hK hP 1 0 rfl rfl (i := v1) b_3 dX9_set_25 ?_
    refine lv_if_ge (tgt := 35) hx hb dX9_set_26 (by decide) (fun c_4 => ?_) (fun c_4 => ?_)
    · have h := (if_pos c_4).symm.trans h
      refine lv_iload_n hx hb dX9_set_35 rfl (lv_at hl 2 rfl) ?_
      refine lv_i2l hx hb dX9_set_36 rfl ?_
      refine lv_lconst (v := 0) hx hb dX9_set_37 (by decide) ?_
      refine lv_aload_n hx hb dX9_set_38 rfl (lv_at hl 0 rfl) ?_
      refine va_get (D := (dC, dI)) (ci := 7) (v := .ref q_s_many) (C := RX9) (T := TX9) (N := 23) hx hb hts w_1 hown hK hP 0 rfl rfl 3 (by decide) w_4 (fun _ h9 => h9) rfl dX9_set_39 ?_
      refine lv_iload_n hx hb dX9_set_42 rfl (lv_at hl 1 rfl) ?_
      obtain ⟨b_5, h⟩ := chk_of h
      refine va_iald hx hb hK hP 2 0 rfl rfl (i := v1) b_5 dX9_set_43 ?_
      refine lv_iconst (v := 1) hx hb dX9_set_44 (by decide) ?_
      refine lv_isub hx hb dX9_set_45 ?_
      refine lv_i2l hx hb dX9_set_46 rfl ?_
      obtain ⟨r_6, hc_6, h⟩ := bd1_of h
      refine cl_pS (As := [.long v2.toInt64, .long 0, .long (((s_many v1.toNatClampNeg) - 1).toInt64)]) (rest := []) ⟨hx, hb, hml, hown, hts⟩ (m_X9_in l v2.toInt64 0 (((s_many v1.toNatClampNeg) - 1).toInt64) (r_6) hc_6) (va_cwS 3 hts gX9_set_X9_in rfl rfl rfl ddX9_in ⟨Nat.le_of_ble_eq_true rfl, Nat.le_of_ble_eq_true rfl⟩) rfl rfl hl.1 (Nat.le_of_ble_eq_true rfl) ⟨Nat.zero_le _, Nat.zero_le _⟩ dX9_set_47 ?_
      refine lv_if_ne (tgt := 59) hx hb dX9_set_50 (by decide) (fun c_7 => ?_) (fun c_7 => ?_)
      · have h := (if_neg c_7).symm.trans h
        refine lv_aload_n hx hb dX9_set_59 rfl (lv_at hl 0 rfl) ?_
        refine va_get (D := (dC, dI)) (ci := 7) (v := .ref q_s_item) (C := RX9) (T := TX9) (N := 23) hx hb hts w_1 hown hK hP 0 rfl rfl 4 (by decide) w_5 (fun _ h9 => h9) rfl dX9_set_60 ?_
        refine lv_bipush (v := 40) hx hb dX9_set_63 (by decide) ?_
        refine lv_iload_n hx hb dX9_set_65 rfl (lv_at hl 1 rfl) ?_
        refine lv_imul hx hb dX9_set_66 ?_
        refine lv_iload_n hx hb dX9_set_67 rfl (lv_at hl 2 rfl) ?_
        refine lv_iadd hx hb dX9_set_68 ?_
        refine lv_aload_n hx hb dX9_set_69 rfl (lv_at hl 0 rfl) ?_
        refine va_get (D := (dC, dI)) (ci := 7) (v := .ref q_s_lane) (C := RX9) (T := TX9) (N := 23) hx hb hts w_1 hown hK hP 0 rfl rfl 2 (by decide) w_3 (fun _ h9 => h9) rfl dX9_set_70 ?_
        refine lv_iload_n hx hb dX9_set_73 rfl (lv_at hl 1 rfl) ?_
        obtain ⟨b_8, h⟩ := chk_of h
        refine va_iald hx hb hK hP 1 0 rfl rfl (i := v1) b_8 dX9_set_74 ?_
        have KJ99 : ∀ (w0_j99 : Int32) (H : Heap) (locs : List Loc) (ls : Array Slot), va_P (dC, dI) vwCl ((W_M cI cZ q_s q_s_lane q_s_many q_s_item q_s_isle q_s_fresh q_s_then q_s_was q_s_tape q_s_isKept q_s_kept q_s_trace 0 0 s_lane s_many s_item s_isle s_fresh s_then s_was s_acts s_tape s_taped s_cursor s_start s_token s_value s_fault s_faultAt s_latest s_isKept s_kept s_trace s_traced)) H → va_D A ((W_M cI cZ q_s q_s_lane q_s_many q_s_item q_s_isle q_s_fresh q_s_then q_s_was q_s_tape q_s_isKept q_s_kept q_s_trace 0 0 s_lane s_many s_item s_isle s_fresh s_then s_was s_acts s_tape s_taped s_cursor s_start s_token s_value s_fault s_faultAt s_latest s_isKept s_kept s_trace s_traced)) → va_S A s.heap H locs → lv_has ls 4 [(0, .ref q_s), (1, .int v1), (2, .int v2)] → fX9_set_J99 s_item v1 v2 w0_j99 = some res → W p l e (headSpec wsX9_set rmX9_set).room s m ([.ref q_s, .int v1, .int v2, .int v3] : List Value).toArray below meth c H locs 0 0 QQ (F0 m 99 ls [.int w0_j99, .int ((40 * v1) + v2), .ref q_s_item]) := by
          intro w0_j99 H locs ls hP hD hS hl h
          unfold fX9_set_J99 at h
          obtain ⟨b_9, h⟩ := chk_of h
          refine va_iast hx hb hK hP hD hS 3 0 rfl rfl (i := ((40 * v1) + v2)) (x := w0_j99) b_9 dX9_set_99 (fun H locs hP hD hS => ?_)
          have hP : va_P (dC, dI) vwCl ((W_M cI cZ q_s q_s_lane q_s_many q_s_item q_s_isle q_s_fresh q_s_then q_s_was q_s_tape q_s_isKept q_s_kept q_s_trace 0 0 s_lane s_many (upd s_item ((40 * v1) + v2).toNatClampNeg w0_j99) s_isle s_fresh s_then s_was s_acts s_tape s_taped s_cursor s_start s_token s_value s_fault s_faultAt s_latest s_isKept s_kept s_trace s_traced)) H := hP
          have hD : va_D A ((W_M cI cZ q_s q_s_lane q_s_many q_s_item q_s_isle q_s_fresh q_s_then q_s_was q_s_tape q_s_isKept q_s_kept q_s_trace 0 0 s_lane s_many (upd s_item ((40 * v1) + v2).toNatClampNeg w0_j99) s_isle s_fresh s_then s_was s_acts s_tape s_taped s_cursor s_start s_token s_value s_fault s_faultAt s_latest s_isKept s_kept s_trace s_traced)) := hD
          refine lv_aload_n hx hb dX9_set_100 rfl (lv_at hl 0 rfl) ?_
          refine va_get (D := (dC, dI)) (ci := 7) (v := .ref q_s_item) (C := RX9) (T := TX9) (N := 23) hx hb hts w_1 hown hK hP 0 rfl rfl 4 (by decide) w_5 (fun _ h9 => h9) rfl dX9_set_101 ?_
          refine lv_bipush (v := 40) hx hb dX9_set_104 (by decide) ?_
          refine lv_iload_n hx hb dX9_set_106 rfl (lv_at hl 1 rfl) ?_
          refine lv_imul hx hb dX9_set_107 ?_
          refine lv_iload_n hx hb dX9_set_108 rfl (lv_at hl 2 rfl) ?_
          refine lv_iadd hx hb dX9_set_109 ?_
          obtain ⟨b_10, h⟩ := chk_of h
          refine va_iald hx hb hK hP 3 0 rfl rfl (i := ((40 * v1) + v2)) b_10 dX9_set_110 ?_
          have h := Option.some.inj h
          subst h
          rw [hQQ]
          subst hAe
          exact W.iret (v := ((upd s_item ((40 * v1) + v2).toNatClampNeg w0_j99) ((40 * v1) + v2).toNatClampNeg)) hx hb hr (fun t ht hW => ⟨⟨_, (), rfl, rfl, by rw [ht]; exact hP, va_K.moved hW.alike hK, hD⟩, hS.F ht⟩) hS.2.2 dX9_set_111
        refine lv_if_ne (tgt := 83) hx hb dX9_set_75 (by decide) (fun c_11 => ?_) (fun c_11 => ?_)
        · have h := (if_neg c_11).symm.trans h
          refine lv_aload_n hx hb dX9_set_83 rfl (lv_at hl 0 rfl) ?_
          refine va_get (D := (dC, dI)) (ci := 7) (v := .ref q_s_lane) (C := RX9) (T := TX9) (N := 23) hx hb hts w_1 hown hK hP 0 rfl rfl 2 (by decide) w_3 (fun _ h9 => h9) rfl dX9_set_84 ?_
          refine lv_iload_n hx hb dX9_set_87 rfl (lv_at hl 1 rfl) ?_
          obtain ⟨b_12, h⟩ := chk_of h
          refine va_iald hx hb hK hP 1 0 rfl rfl (i := v1) b_12 dX9_set_88 ?_
          refine lv_iconst (v := 1) hx hb dX9_set_89 (by decide) ?_
          refine lv_icmp_ne (tgt := 98) hx hb dX9_set_90 (by decide) (fun c_13 => ?_) (fun c_13 => ?_)
          · have h := (if_neg c_13).symm.trans h
            refine lv_iload_n hx hb dX9_set_98 rfl (lv_at hl 3 rfl) ?_
            exact KJ99 v3 _ _ _ hP hD hS (lv_sub hl [0, 1, 2] rfl) h
          · have h := (if_pos c_13).symm.trans h
            refine lv_iload_n hx hb dX9_set_93 rfl (lv_at hl 3 rfl) ?_
            refine lv_i2s hx hb dX9_set_94 rfl ?_
            refine lv_goto (tgt := 99) hx hb dX9_set_95 (by decide) ?_
            exact KJ99 v3.toInt16.toInt32 _ _ _ hP hD hS (lv_sub hl [0, 1, 2] rfl) h
        · have h := (if_pos c_11).symm.trans h
          refine lv_iload_n hx hb dX9_set_78 rfl (lv_at hl 3 rfl) ?_
          refine lv_i2b hx hb dX9_set_79 rfl ?_
          refine lv_goto (tgt := 99) hx hb dX9_set_80 (by decide) ?_
          exact KJ99 v3.toInt8.toInt32 _ _ _ hP hD hS (lv_sub hl [0, 1, 2] rfl) h
      · have h := (if_pos c_7).symm.trans h
        refine lv_aload_n hx hb dX9_set_53 rfl (lv_at hl 0 rfl) ?_
        refine lv_iconst (v := 2) hx hb dX9_set_54 (by decide) ?_
        obtain ⟨r_14, s_status_14, hc_14, h⟩ := bd2_of h
        refine cl_mVi (As := [.int 2]) (rest := []) (ws' := (W_M cI cZ q_s q_s_lane q_s_many q_s_item q_s_isle q_s_fresh q_s_then q_s_was q_s_tape q_s_isKept q_s_kept q_s_trace 0 s_status_14 s_lane s_many s_item s_isle s_fresh s_then s_was s_acts s_tape s_taped s_cursor s_start s_token s_value s_fault s_faultAt s_latest s_isKept s_kept s_trace s_traced)) (wr := []) ⟨hx, hb, hml, hown, hts⟩ (m_X9_finding l dC dI cI cZ q_s q_s_lane q_s_many q_s_item q_s_isle q_s_fresh q_s_then q_s_was q_s_tape q_s_isKept q_s_kept q_s_trace 0 0 s_lane s_many s_item s_isle s_fresh s_then s_was s_acts s_tape s_taped s_cursor s_start s_token s_value s_fault s_faultAt s_latest s_isKept s_kept s_trace s_traced 2 _ (r_14, s_status_14) hc_14) (cwV 1 hts gX9_set_X9_finding rfl rfl rfl ⟨rfl, ddX9_finding⟩ ⟨Nat.le_of_ble_eq_true rfl, Nat.le_of_ble_eq_true rfl⟩) hK hP hD hS hA [0, 1, 2, 3, 4, 5, 6, 7, 8, 9, 10, 11] [] rfl rfl rfl rfl (by decide) [0, 1, 2, 3, 4, 5, 6, 7, 8, 9, 10, 11] rfl rfl rfl rfl rfl rfl rfl hl.1 (Nat.le_of_ble_eq_true rfl) ⟨Nat.zero_le _, Nat.zero_le _⟩ dX9_set_55 (fun H locs hP hD hS => ?_)
        have h := Option.some.inj h
        subst h
        rw [hQQ]
        subst hAe
        exact W.iret (v := r_14) hx hb hr (fun t ht hW => ⟨⟨_, (), rfl, rfl, by rw [ht]; exact hP, va_K.moved hW.alike hK, hD⟩, hS.F ht⟩) hS.2.2 dX9_set_58
    · have h := (if_neg c_4).symm.trans h
      refine lv_aload_n hx hb dX9_set_29 rfl (lv_at hl 0 rfl) ?_
      refine lv_iconst (v := 1) hx hb dX9_set_30 (by decide) ?_
      obtain ⟨r_15, s_status_15, hc_15, h⟩ := bd2_of h
      refine cl_mVi (As := [.int 1]) (rest := []) (ws' := (W_M cI cZ q_s q_s_lane q_s_many q_s_item q_s_isle q_s_fresh q_s_then q_s_was q_s_tape q_s_isKept q_s_kept q_s_trace 0 s_status_15 s_lane s_many s_item s_isle s_fresh s_then s_was s_acts s_tape s_taped s_cursor s_start s_token s_value s_fault s_faultAt s_latest s_isKept s_kept s_trace s_traced)) (wr := []) ⟨hx, hb, hml, hown, hts⟩ (m_X9_finding l dC dI cI cZ q_s q_s_lane q_s_many q_s_item q_s_isle q_s_fresh q_s_then q_s_was q_s_tape q_s_isKept q_s_kept q_s_trace 0 0 s_lane s_many s_item s_isle s_fresh s_then s_was s_acts s_tape s_taped s_cursor s_start s_token s_value s_fault s_faultAt s_latest s_isKept s_kept s_trace s_traced 1 _ (r_15, s_status_15) hc_15) (cwV 1 hts gX9_set_X9_finding rfl rfl rfl ⟨rfl, ddX9_finding⟩ ⟨Nat.le_of_ble_eq_true rfl, Nat.le_of_ble_eq_true rfl⟩) hK hP hD hS hA [0, 1, 2, 3, 4, 5, 6, 7, 8, 9, 10, 11] [] rfl rfl rfl rfl (by decide) [0, 1, 2, 3, 4, 5, 6, 7, 8, 9, 10, 11] rfl rfl rfl rfl rfl rfl rfl hl.1 (Nat.le_of_ble_eq_true rfl) ⟨Nat.zero_le _, Nat.zero_le _⟩ dX9_set_31 (fun H locs hP hD hS => ?_)
      have h := Option.some.inj h
      subst h
      rw [hQQ]
      subst hAe
      exact W.iret (v := r_15) hx hb hr (fun t ht hW => ⟨⟨_, (), rfl, rfl, by rw [ht]; exact hP, va_K.moved hW.alike hK, hD⟩, hS.F ht⟩) hS.2.2 dX9_set_34
  · have h := (if_pos c_2).symm.trans h
    refine lv_ldc hx hb hown w_6 dX9_set_12 ?_
    have h := Option.some.inj h
    subst h
    rw [hQQ]
    subst hAe
    exact W.iret (v := (-1000001)) hx hb hr (fun t ht hW => ⟨⟨_, (), rfl, rfl, by rw [ht]; exact hP, va_K.moved hW.alike hK, hD⟩, hS.F ht⟩) hS.2.2 dX9_set_14
def fX9_copy_J167 (v1 : Int32) (v2 : Int32) (v3 : Int32) (v4 : Int32) (r143 : Int32 → (Nat → Int32) → Option (Int32 × Int32 × Int32 × (Nat → Int32))) (v7_h143 : Int32) (s_item_h143 : (Nat → Int32)) (w0_j167 : Int32) : Option (Int32 × Int32 × Int32 × (Nat → Int32)) :=
  chk (¬ ((((40 * v1) + v2) + w0_j167) < 0 ∨ 320 ≤ (((40 * v1) + v2) + w0_j167).toNatClampNeg)) (chk (¬ ((((40 * v3) + v4) + w0_j167) < 0 ∨ 320 ≤ (((40 * v3) + v4) + w0_j167).toNatClampNeg)) ((r143 (v7_h143 + 1) (upd s_item_h143 (((40 * v3) + v4) + w0_j167).toNatClampNeg (s_item_h143 (((40 * v1) + v2) + w0_j167).toNatClampNeg)))))
def fX9_copy_L143 (v1 : Int32) (v2 : Int32) (v3 : Int32) (v4 : Int32) (v5 : Int32) (w0_j138 : Int32) : Nat → Int32 → (Nat → Int32) → Option (Int32 × Int32 × Int32 × (Nat → Int32))
  | 0, _, _ => none
  | n + 1, v7_h143, s_item_h143 => (if v5 ≤ v7_h143 then some (v5, 0, 0, s_item_h143) else (if w0_j138 = 0 then (fX9_copy_J167 v1 v2 v3 v4 (fX9_copy_L143 v1 v2 v3 v4 v5 w0_j138 n) v7_h143 s_item_h143 ((v5 - 1) - v7_h143)) else (fX9_copy_J167 v1 v2 v3 v4 (fX9_copy_L143 v1 v2 v3 v4 v5 w0_j138 n) v7_h143 s_item_h143 v7_h143)))
def fX9_copy_J138 (s_item : (Nat → Int32)) (v1 : Int32) (v2 : Int32) (v3 : Int32) (v4 : Int32) (v5 : Int32) (w0_j138 : Int32) : Option (Int32 × Int32 × Int32 × (Nat → Int32)) :=
  (fX9_copy_L143 v1 v2 v3 v4 v5 w0_j138 FU 0 s_item)
def fX9_copy (s_status : Int32) (s_lane : (Nat → Int32)) (s_many : (Nat → Int32)) (s_item : (Nat → Int32)) (v1 : Int32) (v2 : Int32) (v3 : Int32) (v4 : Int32) (v5 : Int32) : Option (Int32 × Int32 × Int32 × (Nat → Int32)) :=
  bd1 (fX9_isRow v1) (fun r_1 => (if r_1 = 0 then some ((-1000001), 0, s_status, s_item) else bd1 (fX9_isRow v3) (fun r_3 => (if r_3 = 0 then some ((-1000001), 0, s_status, s_item) else chk (¬ (v1 < 0 ∨ 8 ≤ v1.toNatClampNeg)) ((if (s_lane v1.toNatClampNeg) < 0 then bd2 (fX9_finding 1) (fun r_7 s_status_7 => some (r_7, 0, s_status_7, s_item)) else chk (¬ (v3 < 0 ∨ 8 ≤ v3.toNatClampNeg)) ((if 0 ≤ (s_lane v3.toNatClampNeg) then chk (¬ (v1 < 0 ∨ 8 ≤ v1.toNatClampNeg)) (chk (¬ (v3 < 0 ∨ 8 ≤ v3.toNatClampNeg)) ((if (s_lane v1.toNatClampNeg) = (s_lane v3.toNatClampNeg) then (if v2 < 0 then bd2 (fX9_finding 2) (fun r_14 s_status_14 => some (r_14, 0, s_status_14, s_item)) else (if v4 < 0 then bd2 (fX9_finding 2) (fun r_16 s_status_16 => some (r_16, 0, s_status_16, s_item)) else (if v5 < 0 then bd2 (fX9_finding 2) (fun r_18 s_status_18 => some (r_18, 0, s_status_18, s_item)) else chk (¬ (v1 < 0 ∨ 8 ≤ v1.toNatClampNeg)) ((if 0 < (lg_cmp (v2.toInt64 + v5.toInt64) ((s_many v1.toNatClampNeg).toInt64)) then bd2 (fX9_finding 2) (fun r_21 s_status_21 => some (r_21, 0, s_status_21, s_item)) else chk (¬ (v3 < 0 ∨ 8 ≤ v3.toNatClampNeg)) ((if (lg_cmp (v4.toInt64 + v5.toInt64) ((s_many v3.toNatClampNeg).toInt64)) ≤ 0 then (if v2 < v4 then (fX9_copy_J138 s_item v1 v2 v3 v4 v5 0) else (fX9_copy_J138 s_item v1 v2 v3 v4 v5 1)) else bd2 (fX9_finding 2) (fun r_29 s_status_29 => some (r_29, 0, s_status_29, s_item))))))))) else bd2 (fX9_finding 5) (fun r_30 s_status_30 => some (r_30, 0, s_status_30, s_item))))) else bd2 (fX9_finding 1) (fun r_31 s_status_31 => some (r_31, 0, s_status_31, s_item))))))))))
abbrev rmX9_copy : Room := { frames := 2, cells := 0, slots := 0, locals := 45 }
theorem ddX9_copy : yX9_copy.cls ≠ "java/lang/invoke/MethodHandle" ∧ yX9_copy.cls ≠ "java/lang/invoke/VarHandle" ∧ (parseMethodDescriptor yX9_copy.desc).map (fun d => d.parameters.length) = some 5 := by decide +kernel
set_option maxHeartbeats 4000000 in
set_option maxRecDepth 100000 in
theorem m_X9_copy (l : Launch) (dC : Nat → ClassId) (dI : Nat → Nat → Nat) (cI cZ : ClassId) (q_s q_s_lane q_s_many q_s_item q_s_isle q_s_fresh q_s_then q_s_was q_s_tape q_s_isKept q_s_kept q_s_trace : Nat) (s_thrown : Int32) (s_status : Int32) (s_lane : (Nat → Int32)) (s_many : (Nat → Int32)) (s_item : (Nat → Int32)) (s_isle : (Nat → Int32)) (s_fresh : (Nat → Int32)) (s_then : (Nat → Int32)) (s_was : (Nat → Int32)) (s_acts : Int32) (s_tape : (Nat → Int32)) (s_taped : Int32) (s_cursor : Int32) (s_start : Int32) (s_token : Int32) (s_value : Int32) (s_fault : Int32) (s_faultAt : Int32) (s_latest : Int32) (s_isKept : (Nat → Int32)) (s_kept : (Nat → Int32)) (s_trace : (Nat → Int32)) (s_traced : Int32) (v1 : Int32) (v2 : Int32) (v3 : Int32) (v4 : Int32) (v5 : Int32) (sz : Nat) (res : Int32 × Int32 × Int32 × (Nat → Int32)) (hf : fX9_copy s_status s_lane s_many s_item v1 v2 v3 v4 v5 = some res) : Met l yX9_copy wsX9_copy rmX9_copy (mtPc (dC, dI) (tyZ cI cZ) ((W_M cI cZ q_s q_s_lane q_s_many q_s_item q_s_isle q_s_fresh q_s_then q_s_was q_s_tape q_s_isKept q_s_kept q_s_trace s_thrown s_status s_lane s_many s_item s_isle s_fresh s_then s_was s_acts s_tape s_taped s_cursor s_start s_token s_value s_fault s_faultAt s_latest s_isKept s_kept s_trace s_traced)) [.ref q_s, .int v1, .int v2, .int v3, .int v4, .int v5] sz) (mtQi (dC, dI) (tyZ cI cZ) ((W_M cI cZ q_s q_s_lane q_s_many q_s_item q_s_isle q_s_fresh q_s_then q_s_was q_s_tape q_s_isKept q_s_kept q_s_trace s_thrown s_status s_lane s_many s_item s_isle s_fresh s_then s_was s_acts s_tape s_taped s_cursor s_start s_token s_value s_fault s_faultAt s_latest s_isKept s_kept s_trace s_traced)) ((W_M cI cZ q_s q_s_lane q_s_many q_s_item q_s_isle q_s_fresh q_s_then q_s_was q_s_tape q_s_isKept q_s_kept q_s_trace res.2.1 res.2.2.1 s_lane s_many res.2.2.2 s_isle s_fresh s_then s_was s_acts s_tape s_taped s_cursor s_start s_token s_value s_fault s_faultAt s_latest s_isKept s_kept s_trace s_traced)) res.1 sz) 0 0 (va_A ((W_M cI cZ q_s q_s_lane q_s_many q_s_item q_s_isle q_s_fresh q_s_then q_s_was q_s_tape q_s_isKept q_s_kept q_s_trace s_thrown s_status s_lane s_many s_item s_isle s_fresh s_then s_was s_acts s_tape s_taped s_cursor s_start s_token s_value s_fault s_faultAt s_latest s_isKept s_kept s_trace s_traced)) sz) := by
  refine Met.ofW (cc := cX9_copy) (maxL := 9) (ret := (some .int)) (by decide) rfl ?_
  intro p e s m args below meth c s₁ B hml hv
  obtain ⟨rfl, hsz, hP, hK, hD0⟩ := hv
  have hx := B.exec
  have hb := B.bytes
  have hr := B.returns
  have hts := atoms_spec (ws := wsX9_copy) B.pre
  have hown : s.vm.findClass RX9 = some m.cls := findClass_of_methodNamed B.named
  have hlocks := B.notSynchronized
  subst hsz
  have hD := hD0.self (sz := s.heap.size)
  obtain ⟨A, hAe⟩ : ∃ A, A = va_A ((W_M cI cZ q_s q_s_lane q_s_many q_s_item q_s_isle q_s_fresh q_s_then q_s_was q_s_tape q_s_isKept q_s_kept q_s_trace s_thrown s_status s_lane s_many s_item s_isle s_fresh s_then s_was s_acts s_tape s_taped s_cursor s_start s_token s_value s_fault s_faultAt s_latest s_isKept s_kept s_trace s_traced)) s.heap.size := ⟨_, rfl⟩
  rw [← hAe] at hD
  have hA : ∀ q : Nat, s.heap.size ≤ q → A q := fun q h => by rw [hAe]; exact Or.inr h
  have hS : va_S A s.heap s.heap [] := va_S.rf
  have hl := lv_entry ([.ref q_s, .int v1, .int v2, .int v3, .int v4, .int v5]) (n := 9) (Nat.le_of_ble_eq_true rfl)
  rw [lg_entry_eq]
  generalize (lg_sl ([.ref q_s, .int v1, .int v2, .int v3, .int v4, .int v5]) ++ List.replicate (9 - (lg_sl ([.ref q_s, .int v1, .int v2, .int v3, .int v4, .int v5])).length) Slot.unset).toArray = ls at hl ⊢
  have hl : lv_has ls 9 [(0, .ref q_s), (1, .int v1), (2, .int v2), (3, .int v3), (4, .int v4), (5, .int v5)] := hl
  obtain ⟨QQ, hQQ⟩ : ∃ Q, Q = MQ below (mtQi (dC, dI) (tyZ cI cZ) ((W_M cI cZ q_s q_s_lane q_s_many q_s_item q_s_isle q_s_fresh q_s_then q_s_was q_s_tape q_s_isKept q_s_kept q_s_trace s_thrown s_status s_lane s_many s_item s_isle s_fresh s_then s_was s_acts s_tape s_taped s_cursor s_start s_token s_value s_fault s_faultAt s_latest s_isKept s_kept s_trace s_traced)) ((W_M cI cZ q_s q_s_lane q_s_many q_s_item q_s_isle q_s_fresh q_s_then q_s_was q_s_tape q_s_isKept q_s_kept q_s_trace res.2.1 res.2.2.1 s_lane s_many res.2.2.2 s_isle s_fresh s_then s_was s_acts s_tape s_taped s_cursor s_start s_token s_value s_fault s_faultAt s_latest s_isKept s_kept s_trace s_traced)) res.1 s.heap.size) ([.ref q_s, .int v1, .int v2, .int v3, .int v4, .int v5] : List Value).toArray s 0 0 (va_A ((W_M cI cZ q_s q_s_lane q_s_many q_s_item q_s_isle q_s_fresh q_s_then q_s_was q_s_tape q_s_isKept q_s_kept q_s_trace s_thrown s_status s_lane s_many s_item s_isle s_fresh s_then s_was s_acts s_tape s_taped s_cursor s_start s_token s_value s_fault s_faultAt s_latest s_isKept s_kept s_trace s_traced)) s.heap.size) := ⟨_, rfl⟩
  rw [← hQQ]
  have w_0 := hts (Cond.fieldLink RX9 44 "TideInchesModel" "thrown" "I") (List.mem_of_getElem? (i := 1) rfl)
  have w_1 := (fun w hw => List.mem_cons_of_mem _ (List.mem_append_right _ hw) : ∀ w ∈ wsX90, w ∈ wsX9_copy)
  have w_2 := hts (Cond.constant RX9 64 (-1000001)) (List.mem_of_getElem? (i := 2) rfl)
  have w_3 := hts (Cond.fieldLink RX9 48 "TideInchesModel" "status" "I") (List.mem_of_getElem? (i := 3) rfl)
  have w_4 := hts (Cond.fieldLink RX9 7 "TideInchesModel" "lane" "[I") (List.mem_of_getElem? (i := 4) rfl)
  have w_5 := hts (Cond.fieldLink RX9 13 "TideInchesModel" "many" "[I") (List.mem_of_getElem? (i := 5) rfl)
  have w_6 := hts (Cond.fieldLink RX9 16 "TideInchesModel" "item" "[I") (List.mem_of_getElem? (i := 6) rfl)
  have h := hf
  unfold fX9_copy at h
  refine lv_aload_n hx hb dX9_copy_0 rfl (lv_at hl 0 rfl) ?_
  refine lv_iconst (v := 0) hx hb dX9_copy_1 (by decide) ?_
  refine va_put (D := (dC, dI)) (ci := 7) (v := .int 0) (ty := .int) (C := RX9) (T := TX9) (N := 23) hx hb hts w_1 tyX9 tyX9_ok nmX9 hown hK hP hD hS 0 rfl rfl 0 (by decide) w_0 (fun _ h9 => h9) rfl (by decide +kernel) rfl rfl (Nat.le_of_ble_eq_true rfl) dX9_copy_2 (fun H locs hP hD hS => ?_)
  have hP : va_P (dC, dI) vwCl ((W_M cI cZ q_s q_s_lane q_s_many q_s_item q_s_isle q_s_fresh q_s_then q_s_was q_s_tape q_s_isKept q_s_kept q_s_trace 0 s_status s_lane s_many s_item s_isle s_fresh s_then s_was s_acts s_tape s_taped s_cursor s_start s_token s_value s_fault s_faultAt s_latest s_isKept s_kept s_trace s_traced)) H := hP
  have hD : va_D A ((W_M cI cZ q_s q_s_lane q_s_many q_s_item q_s_isle q_s_fresh q_s_then q_s_was q_s_tape q_s_isKept q_s_kept q_s_trace 0 s_status s_lane s_many s_item s_isle s_fresh s_then s_was s_acts s_tape s_taped s_cursor s_start s_token s_value s_fault s_faultAt s_latest s_isKept s_kept s_trace s_traced)) := hD
  refine lv_iload_n hx hb dX9_copy_5 rfl (lv_at hl 1 rfl) ?_
  obtain ⟨r_1, hc_1, h⟩ := bd1_of h
  refine cl_pS (As := [.int v1]) (rest := []) ⟨hx, hb, hml, hown, hts⟩ (m_X9_isRow l v1 (r_1) hc_1) (va_cwS 1 hts gX9_copy_X9_isRow rfl rfl rfl ddX9_isRow ⟨Nat.le_of_ble_eq_true rfl, Nat.le_of_ble_eq_true rfl⟩) rfl rfl hl.1 (Nat.le_of_ble_eq_true rfl) ⟨Nat.zero_le _, Nat.zero_le _⟩ dX9_copy_6 ?_
  refine lv_if_eq (tgt := 19) hx hb dX9_copy_9 (by decide) (fun c_2 => ?_) (fun c_2 => ?_)
  · have h := (if_pos c_2).symm.trans h
    refine lv_ldc hx hb hown w_2 dX9_copy_19 ?_
    have h := Option.some.inj h
    subst h
    rw [hQQ]
    subst hAe
    exact W.iret (v := (-1000001)) hx hb hr (fun t ht hW => ⟨⟨_, (), rfl, rfl, by rw [ht]; exact hP, va_K.moved hW.alike hK, hD⟩, hS.F ht⟩) hS.2.2 dX9_copy_21
  · have h := (if_neg c_2).symm.trans h
    refine lv_iload_n hx hb dX9_copy_12 rfl (lv_at hl 3 rfl) ?_
    obtain ⟨r_3, hc_3, h⟩ := bd1_of h
    refine cl_pS (As := [.int v3]) (rest := []) ⟨hx, hb, hml, hown, hts⟩ (m_X9_isRow l v3 (r_3) hc_3) (va_cwS 1 hts gX9_copy_X9_isRow rfl rfl rfl ddX9_isRow ⟨Nat.le_of_ble_eq_true rfl, Nat.le_of_ble_eq_true rfl⟩) rfl rfl hl.1 (Nat.le_of_ble_eq_true rfl) ⟨Nat.zero_le _, Nat.zero_le _⟩ dX9_copy_13 ?_
    refine lv_if_ne (tgt := 22) hx hb dX9_copy_16 (by decide) (fun c_4 => ?_) (fun c_4 => ?_)
    · have h := (if_neg c_4).symm.trans h
      refine lv_aload_n hx hb dX9_copy_22 rfl (lv_at hl 0 rfl) ?_
      refine lv_iconst (v := 0) hx hb dX9_copy_23 (by decide) ?_
      refine va_put (D := (dC, dI)) (ci := 7) (v := .int 0) (ty := .int) (C := RX9) (T := TX9) (N := 23) hx hb hts w_1 tyX9 tyX9_ok nmX9 hown hK hP hD hS 0 rfl rfl 1 (by decide) w_3 (fun _ h9 => h9) rfl (by decide +kernel) rfl rfl (Nat.le_of_ble_eq_true rfl) dX9_copy_24 (fun H locs hP hD hS => ?_)
      have hP : va_P (dC, dI) vwCl ((W_M cI cZ q_s q_s_lane q_s_many q_s_item q_s_isle q_s_fresh q_s_then q_s_was q_s_tape q_s_isKept q_s_kept q_s_trace 0 0 s_lane s_many s_item s_isle s_fresh s_then s_was s_acts s_tape s_taped s_cursor s_start s_token s_value s_fault s_faultAt s_latest s_isKept s_kept s_trace s_traced)) H := hP
      have hD : va_D A ((W_M cI cZ q_s q_s_lane q_s_many q_s_item q_s_isle q_s_fresh q_s_then q_s_was q_s_tape q_s_isKept q_s_kept q_s_trace 0 0 s_lane s_many s_item s_isle s_fresh s_then s_was s_acts s_tape s_taped s_cursor s_start s_token s_value s_fault s_faultAt s_latest s_isKept s_kept s_trace s_traced)) := hD
      refine lv_aload_n hx hb dX9_copy_27 rfl (lv_at hl 0 rfl) ?_
      refine va_get (D := (dC, dI)) (ci := 7) (v := .ref q_s_lane) (C := RX9) (T := TX9) (N := 23) hx hb hts w_1 hown hK hP 0 rfl rfl 2 (by decide) w_4 (fun _ h9 => h9) rfl dX9_copy_28 ?_
      refine lv_iload_n hx hb dX9_copy_31 rfl (lv_at hl 1 rfl) ?_
      obtain ⟨b_5, h⟩ := chk_of h
      refine va_iald hx hb hK hP 1 0 rfl rfl (i := v1) b_5 dX9_copy_32 ?_
      refine lv_if_lt (tgt := 45) hx hb dX9_copy_33 (by decide) (fun c_6 => ?_) (fun c_6 => ?_)
      · have h := (if_pos c_6).symm.trans h
        refine lv_aload_n hx hb dX9_copy_45 rfl (lv_at hl 0 rfl) ?_
        refine lv_iconst (v := 1) hx hb dX9_copy_46 (by decide) ?_
        obtain ⟨r_7, s_status_7, hc_7, h⟩ := bd2_of h
        refine cl_mVi (As := [.int 1]) (rest := []) (ws' := (W_M cI cZ q_s q_s_lane q_s_many q_s_item q_s_isle q_s_fresh q_s_then q_s_was q_s_tape q_s_isKept q_s_kept q_s_trace 0 s_status_7 s_lane s_many s_item s_isle s_fresh s_then s_was s_acts s_tape s_taped s_cursor s_start s_token s_value s_fault s_faultAt s_latest s_isKept s_kept s_trace s_traced)) (wr := []) ⟨hx, hb, hml, hown, hts⟩ (m_X9_finding l dC dI cI cZ q_s q_s_lane q_s_many q_s_item q_s_isle q_s_fresh q_s_then q_s_was q_s_tape q_s_isKept q_s_kept q_s_trace 0 0 s_lane s_many s_item s_isle s_fresh s_then s_was s_acts s_tape s_taped s_cursor s_start s_token s_value s_fault s_faultAt s_latest s_isKept s_kept s_trace s_traced 1 _ (r_7, s_status_7) hc_7) (cwV 1 hts gX9_copy_X9_finding rfl rfl rfl ⟨rfl, ddX9_finding⟩ ⟨Nat.le_of_ble_eq_true rfl, Nat.le_of_ble_eq_true rfl⟩) hK hP hD hS hA [0, 1, 2, 3, 4, 5, 6, 7, 8, 9, 10, 11] [] rfl rfl rfl rfl (by decide) [0, 1, 2, 3, 4, 5, 6, 7, 8, 9, 10, 11] rfl rfl rfl rfl rfl rfl rfl hl.1 (Nat.le_of_ble_eq_true rfl) ⟨Nat.zero_le _, Nat.zero_le _⟩ dX9_copy_47 (fun H locs hP hD hS => ?_)
        have h := Option.some.inj h
        subst h
        rw [hQQ]
        subst hAe
        exact W.iret (v := r_7) hx hb hr (fun t ht hW => ⟨⟨_, (), rfl, rfl, by rw [ht]; exact hP, va_K.moved hW.alike hK, hD⟩, hS.F ht⟩) hS.2.2 dX9_copy_50
      · have h := (if_neg c_6).symm.trans h
        refine lv_aload_n hx hb dX9_copy_36 rfl (lv_at hl 0 rfl) ?_
        refine va_get (D := (dC, dI)) (ci := 7) (v := .ref q_s_lane) (C := RX9) (T := TX9) (N := 23) hx hb hts w_1 hown hK hP 0 rfl rfl 2 (by decide) w_4 (fun _ h9 => h9) rfl dX9_copy_37 ?_
        refine lv_iload_n hx hb dX9_copy_40 rfl (lv_at hl 3 rfl) ?_
        obtain ⟨b_8, h⟩ := chk_of h
        refine va_iald hx hb hK hP 1 0 rfl rfl (i := v3) b_8 dX9_copy_41 ?_
        refine lv_if_ge (tgt := 51) hx hb dX9_copy_42 (by decide) (fun c_9 => ?_) (fun c_9 => ?_)
        · have h := (if_pos c_9).symm.trans h
          refine lv_aload_n hx hb dX9_copy_51 rfl (lv_at hl 0 rfl) ?_
          refine va_get (D := (dC, dI)) (ci := 7) (v := .ref q_s_lane) (C := RX9) (T := TX9) (N := 23) hx hb hts w_1 hown hK hP 0 rfl rfl 2 (by decide) w_4 (fun _ h9 => h9) rfl dX9_copy_52 ?_
          refine lv_iload_n hx hb dX9_copy_55 rfl (lv_at hl 1 rfl) ?_
          obtain ⟨b_10, h⟩ := chk_of h
          refine va_iald hx hb hK hP 1 0 rfl rfl (i := v1) b_10 dX9_copy_56 ?_
          refine lv_aload_n hx hb dX9_copy_57 rfl (lv_at hl 0 rfl) ?_
          refine va_get (D := (dC, dI)) (ci := 7) (v := .ref q_s_lane) (C := RX9) (T := TX9) (N := 23) hx hb hts w_1 hown hK hP 0 rfl rfl 2 (by decide) w_4 (fun _ h9 => h9) rfl dX9_copy_58 ?_
          refine lv_iload_n hx hb dX9_copy_61 rfl (lv_at hl 3 rfl) ?_
          obtain ⟨b_11, h⟩ := chk_of h
          refine va_iald hx hb hK hP 1 0 rfl rfl (i := v3) b_11 dX9_copy_62 ?_
          refine lv_icmp_eq (tgt := 72) hx hb dX9_copy_63 (by decide) (fun c_12 => ?_) (fun c_12 => ?_)
          · have h := (if_pos c_12).symm.trans h
            refine lv_iload_n hx hb dX9_copy_72 rfl (lv_at hl 2 rfl) ?_
            refine lv_if_lt (tgt := 121) hx hb dX9_copy_73 (by decide) (fun c_13 => ?_) (fun c_13 => ?_)
            · have h := (if_pos c_13).symm.trans h
              refine lv_aload_n hx hb dX9_copy_121 rfl (lv_at hl 0 rfl) ?_
              refine lv_iconst (v := 2) hx hb dX9_copy_122 (by decide) ?_
              obtain ⟨r_14, s_status_14, hc_14, h⟩ := bd2_of h
              refine cl_mVi (As := [.int 2]) (rest := []) (ws' := (W_M cI cZ q_s q_s_lane q_s_many q_s_item q_s_isle q_s_fresh q_s_then q_s_was q_s_tape q_s_isKept q_s_kept q_s_trace 0 s_status_14 s_lane s_many s_item s_isle s_fresh s_then s_was s_acts s_tape s_taped s_cursor s_start s_token s_value s_fault s_faultAt s_latest s_isKept s_kept s_trace s_traced)) (wr := []) ⟨hx, hb, hml, hown, hts⟩ (m_X9_finding l dC dI cI cZ q_s q_s_lane q_s_many q_s_item q_s_isle q_s_fresh q_s_then q_s_was q_s_tape q_s_isKept q_s_kept q_s_trace 0 0 s_lane s_many s_item s_isle s_fresh s_then s_was s_acts s_tape s_taped s_cursor s_start s_token s_value s_fault s_faultAt s_latest s_isKept s_kept s_trace s_traced 2 _ (r_14, s_status_14) hc_14) (cwV 1 hts gX9_copy_X9_finding rfl rfl rfl ⟨rfl, ddX9_finding⟩ ⟨Nat.le_of_ble_eq_true rfl, Nat.le_of_ble_eq_true rfl⟩) hK hP hD hS hA [0, 1, 2, 3, 4, 5, 6, 7, 8, 9, 10, 11] [] rfl rfl rfl rfl (by decide) [0, 1, 2, 3, 4, 5, 6, 7, 8, 9, 10, 11] rfl rfl rfl rfl rfl rfl rfl hl.1 (Nat.le_of_ble_eq_true rfl) ⟨Nat.zero_le _, Nat.zero_le _⟩ dX9_copy_123 (fun H locs hP hD hS => ?_)
              have h := Option.some.inj h
              subst h
              rw [hQQ]
              subst hAe
              exact W.iret (v := r_14) hx hb hr (fun t ht hW => ⟨⟨_, (), rfl, rfl, by rw [ht]; exact hP, va_K.moved hW.alike hK, hD⟩, hS.F ht⟩) hS.2.2 dX9_copy_126
            · have h := (if_neg c_13).symm.trans h
              refine lv_iload hx hb dX9_copy_76 (lv_at hl 4 rfl) ?_
              refine lv_if_lt (tgt := 121) hx hb dX9_copy_78 (by decide) (fun c_15 => ?_) (fun c_15 => ?_)
              · have h := (if_pos c_15).symm.trans h
                refine lv_aload_n hx hb dX9_copy_121 rfl (lv_at hl 0 rfl) ?_
                refine lv_iconst (v := 2) hx hb dX9_copy_122 (by decide) ?_
                obtain ⟨r_16, s_status_16, hc_16, h⟩ := bd2_of h
                refine cl_mVi (As := [.int 2]) (rest := []) (ws' := (W_M cI cZ q_s q_s_lane q_s_many q_s_item q_s_isle q_s_fresh q_s_then q_s_was q_s_tape q_s_isKept q_s_kept q_s_trace 0 s_status_16 s_lane s_many s_item s_isle s_fresh s_then s_was s_acts s_tape s_taped s_cursor s_start s_token s_value s_fault s_faultAt s_latest s_isKept s_kept s_trace s_traced)) (wr := []) ⟨hx, hb, hml, hown, hts⟩ (m_X9_finding l dC dI cI cZ q_s q_s_lane q_s_many q_s_item q_s_isle q_s_fresh q_s_then q_s_was q_s_tape q_s_isKept q_s_kept q_s_trace 0 0 s_lane s_many s_item s_isle s_fresh s_then s_was s_acts s_tape s_taped s_cursor s_start s_token s_value s_fault s_faultAt s_latest s_isKept s_kept s_trace s_traced 2 _ (r_16, s_status_16) hc_16) (cwV 1 hts gX9_copy_X9_finding rfl rfl rfl ⟨rfl, ddX9_finding⟩ ⟨Nat.le_of_ble_eq_true rfl, Nat.le_of_ble_eq_true rfl⟩) hK hP hD hS hA [0, 1, 2, 3, 4, 5, 6, 7, 8, 9, 10, 11] [] rfl rfl rfl rfl (by decide) [0, 1, 2, 3, 4, 5, 6, 7, 8, 9, 10, 11] rfl rfl rfl rfl rfl rfl rfl hl.1 (Nat.le_of_ble_eq_true rfl) ⟨Nat.zero_le _, Nat.zero_le _⟩ dX9_copy_123 (fun H locs hP hD hS => ?_)
                have h := Option.some.inj h
                subst h
                rw [hQQ]
                subst hAe
                exact W.iret (v := r_16) hx hb hr (fun t ht hW => ⟨⟨_, (), rfl, rfl, by rw [ht]; exact hP, va_K.moved hW.alike hK, hD⟩, hS.F ht⟩) hS.2.2 dX9_copy_126
              · have h := (if_neg c_15).symm.trans h
                refine lv_iload hx hb dX9_copy_81 (lv_at hl 5 rfl) ?_
                refine lv_if_lt (tgt := 121) hx hb dX9_copy_83 (by decide) (fun c_17 => ?_) (fun c_17 => ?_)
                · have h := (if_pos c_17).symm.trans h
                  refine lv_aload_n hx hb dX9_copy_121 rfl (lv_at hl 0 rfl) ?_
                  refine lv_iconst (v := 2) hx hb dX9_copy_122 (by decide) ?_
                  obtain ⟨r_18, s_status_18, hc_18, h⟩ := bd2_of h
                  refine cl_mVi (As := [.int 2]) (rest := []) (ws' := (W_M cI cZ q_s q_s_lane q_s_many q_s_item q_s_isle q_s_fresh q_s_then q_s_was q_s_tape q_s_isKept q_s_kept q_s_trace 0 s_status_18 s_lane s_many s_item s_isle s_fresh s_then s_was s_acts s_tape s_taped s_cursor s_start s_token s_value s_fault s_faultAt s_latest s_isKept s_kept s_trace s_traced)) (wr := []) ⟨hx, hb, hml, hown, hts⟩ (m_X9_finding l dC dI cI cZ q_s q_s_lane q_s_many q_s_item q_s_isle q_s_fresh q_s_then q_s_was q_s_tape q_s_isKept q_s_kept q_s_trace 0 0 s_lane s_many s_item s_isle s_fresh s_then s_was s_acts s_tape s_taped s_cursor s_start s_token s_value s_fault s_faultAt s_latest s_isKept s_kept s_trace s_traced 2 _ (r_18, s_status_18) hc_18) (cwV 1 hts gX9_copy_X9_finding rfl rfl rfl ⟨rfl, ddX9_finding⟩ ⟨Nat.le_of_ble_eq_true rfl, Nat.le_of_ble_eq_true rfl⟩) hK hP hD hS hA [0, 1, 2, 3, 4, 5, 6, 7, 8, 9, 10, 11] [] rfl rfl rfl rfl (by decide) [0, 1, 2, 3, 4, 5, 6, 7, 8, 9, 10, 11] rfl rfl rfl rfl rfl rfl rfl hl.1 (Nat.le_of_ble_eq_true rfl) ⟨Nat.zero_le _, Nat.zero_le _⟩ dX9_copy_123 (fun H locs hP hD hS => ?_)
                  have h := Option.some.inj h
                  subst h
                  rw [hQQ]
                  subst hAe
                  exact W.iret (v := r_18) hx hb hr (fun t ht hW => ⟨⟨_, (), rfl, rfl, by rw [ht]; exact hP, va_K.moved hW.alike hK, hD⟩, hS.F ht⟩) hS.2.2 dX9_copy_126
                · have h := (if_neg c_17).symm.trans h
                  refine lv_iload_n hx hb dX9_copy_86 rfl (lv_at hl 2 rfl) ?_
                  refine lv_i2l hx hb dX9_copy_87 rfl ?_
                  refine lv_iload hx hb dX9_copy_88 (lv_at hl 5 rfl) ?_
                  refine lv_i2l hx hb dX9_copy_90 rfl ?_
                  refine lv_ladd hx hb dX9_copy_91 ?_
                  refine lv_aload_n hx hb dX9_copy_92 rfl (lv_at hl 0 rfl) ?_
                  refine va_get (D := (dC, dI)) (ci := 7) (v := .ref q_s_many) (C := RX9) (T := TX9) (N := 23) hx hb hts w_1 hown hK hP 0 rfl rfl 3 (by decide) w_5 (fun _ h9 => h9) rfl dX9_copy_93 ?_
                  refine lv_iload_n hx hb dX9_copy_96 rfl (lv_at hl 1 rfl) ?_
                  obtain ⟨b_19, h⟩ := chk_of h
                  refine va_iald hx hb hK hP 2 0 rfl rfl (i := v1) b_19 dX9_copy_97 ?_
                  refine lv_i2l hx hb dX9_copy_98 rfl ?_
                  refine W.lcmp hx hb dX9_copy_99 ?_
                  refine lv_if_gt (tgt := 121) hx hb dX9_copy_100 (by decide) (fun c_20 => ?_) (fun c_20 => ?_)
                  · have h := (if_pos c_20).symm.trans h
                    refine lv_aload_n hx hb dX9_copy_121 rfl (lv_at hl 0 rfl) ?_
                    refine lv_iconst (v := 2) hx hb dX9_copy_122 (by decide) ?_
                    obtain ⟨r_21, s_status_21, hc_21, h⟩ := bd2_of h
                    refine cl_mVi (As := [.int 2]) (rest := []) (ws' := (W_M cI cZ q_s q_s_lane q_s_many q_s_item q_s_isle q_s_fresh q_s_then q_s_was q_s_tape q_s_isKept q_s_kept q_s_trace 0 s_status_21 s_lane s_many s_item s_isle s_fresh s_then s_was s_acts s_tape s_taped s_cursor s_start s_token s_value s_fault s_faultAt s_latest s_isKept s_kept s_trace s_traced)) (wr := []) ⟨hx, hb, hml, hown, hts⟩ (m_X9_finding l dC dI cI cZ q_s q_s_lane q_s_many q_s_item q_s_isle q_s_fresh q_s_then q_s_was q_s_tape q_s_isKept q_s_kept q_s_trace 0 0 s_lane s_many s_item s_isle s_fresh s_then s_was s_acts s_tape s_taped s_cursor s_start s_token s_value s_fault s_faultAt s_latest s_isKept s_kept s_trace s_traced 2 _ (r_21, s_status_21) hc_21) (cwV 1 hts gX9_copy_X9_finding rfl rfl rfl ⟨rfl, ddX9_finding⟩ ⟨Nat.le_of_ble_eq_true rfl, Nat.le_of_ble_eq_true rfl⟩) hK hP hD hS hA [0, 1, 2, 3, 4, 5, 6, 7, 8, 9, 10, 11] [] rfl rfl rfl rfl (by decide) [0, 1, 2, 3, 4, 5, 6, 7, 8, 9, 10, 11] rfl rfl rfl rfl rfl rfl rfl hl.1 (Nat.le_of_ble_eq_true rfl) ⟨Nat.zero_le _, Nat.zero_le _⟩ dX9_copy_123 (fun H locs hP hD hS => ?_)
                    have h := Option.some.inj h
                    subst h
                    rw [hQQ]
                    subst hAe
                    exact W.iret (v := r_21) hx hb hr (fun t ht hW => ⟨⟨_, (), rfl, rfl, by rw [ht]; exact hP, va_K.moved hW.alike hK, hD⟩, hS.F ht⟩) hS.2.2 dX9_copy_126
                  · have h := (if_neg c_20).symm.trans h
                    refine lv_iload hx hb dX9_copy_103 (lv_at hl 4 rfl) ?_
                    refine lv_i2l hx hb dX9_copy_105 rfl ?_
                    refine lv_iload hx hb dX9_copy_106 (lv_at hl 5 rfl) ?_
                    refine lv_i2l hx hb dX9_copy_108 rfl ?_
                    refine lv_ladd hx hb dX9_copy_109 ?_
                    refine lv_aload_n hx hb dX9_copy_110 rfl (lv_at hl 0 rfl) ?_
                    refine va_get (D := (dC, dI)) (ci := 7) (v := .ref q_s_many) (C := RX9) (T := TX9) (N := 23) hx hb hts w_1 hown hK hP 0 rfl rfl 3 (by decide) w_5 (fun _ h9 => h9) rfl dX9_copy_111 ?_
                    refine lv_iload_n hx hb dX9_copy_114 rfl (lv_at hl 3 rfl) ?_
                    obtain ⟨b_22, h⟩ := chk_of h
                    refine va_iald hx hb hK hP 2 0 rfl rfl (i := v3) b_22 dX9_copy_115 ?_
                    refine lv_i2l hx hb dX9_copy_116 rfl ?_
                    refine W.lcmp hx hb dX9_copy_117 ?_
                    refine lv_if_le (tgt := 127) hx hb dX9_copy_118 (by decide) (fun c_23 => ?_) (fun c_23 => ?_)
                    · have h := (if_pos c_23).symm.trans h
                      refine lv_iload_n hx hb dX9_copy_127 rfl (lv_at hl 2 rfl) ?_
                      refine lv_iload hx hb dX9_copy_128 (lv_at hl 4 rfl) ?_
                      have KJ138 : ∀ (w0_j138 : Int32) (H : Heap) (locs : List Loc) (ls : Array Slot), va_P (dC, dI) vwCl ((W_M cI cZ q_s q_s_lane q_s_many q_s_item q_s_isle q_s_fresh q_s_then q_s_was q_s_tape q_s_isKept q_s_kept q_s_trace 0 0 s_lane s_many s_item s_isle s_fresh s_then s_was s_acts s_tape s_taped s_cursor s_start s_token s_value s_fault s_faultAt s_latest s_isKept s_kept s_trace s_traced)) H → va_D A ((W_M cI cZ q_s q_s_lane q_s_many q_s_item q_s_isle q_s_fresh q_s_then q_s_was q_s_tape q_s_isKept q_s_kept q_s_trace 0 0 s_lane s_many s_item s_isle s_fresh s_then s_was s_acts s_tape s_taped s_cursor s_start s_token s_value s_fault s_faultAt s_latest s_isKept s_kept s_trace s_traced)) → va_S A s.heap H locs → lv_has ls 9 [(0, .ref q_s), (1, .int v1), (2, .int v2), (3, .int v3), (4, .int v4), (5, .int v5)] → fX9_copy_J138 s_item v1 v2 v3 v4 v5 w0_j138 = some res → W p l e (headSpec wsX9_copy rmX9_copy).room s m ([.ref q_s, .int v1, .int v2, .int v3, .int v4, .int v5] : List Value).toArray below meth c H locs 0 0 QQ (F0 m 138 ls [.int w0_j138]) := by
                        intro w0_j138 H locs ls hP hD hS hl h
                        unfold fX9_copy_J138 at h
                        refine lv_istore (lv' := [(6, .int w0_j138), (0, .ref q_s), (1, .int v1), (2, .int v2), (3, .int v3), (4, .int v4), (5, .int v5)]) hx hb dX9_copy_138 hl (by decide) rfl (fun ls hl => ?_)
                        refine lv_iconst (v := 0) hx hb dX9_copy_140 (by decide) ?_
                        refine lv_istore (lv' := [(7, .int 0), (6, .int w0_j138), (0, .ref q_s), (1, .int v1), (2, .int v2), (3, .int v3), (4, .int v4), (5, .int v5)]) hx hb dX9_copy_141 hl (by decide) rfl (fun ls hl => ?_)
                        have KL143 : ∀ (n : Nat) (v7_h143 : Int32) (s_item_h143 : (Nat → Int32)) (H : Heap) (locs : List Loc) (ls : Array Slot), va_P (dC, dI) vwCl ((W_M cI cZ q_s q_s_lane q_s_many q_s_item q_s_isle q_s_fresh q_s_then q_s_was q_s_tape q_s_isKept q_s_kept q_s_trace 0 0 s_lane s_many s_item_h143 s_isle s_fresh s_then s_was s_acts s_tape s_taped s_cursor s_start s_token s_value s_fault s_faultAt s_latest s_isKept s_kept s_trace s_traced)) H → va_D A ((W_M cI cZ q_s q_s_lane q_s_many q_s_item q_s_isle q_s_fresh q_s_then q_s_was q_s_tape q_s_isKept q_s_kept q_s_trace 0 0 s_lane s_many s_item_h143 s_isle s_fresh s_then s_was s_acts s_tape s_taped s_cursor s_start s_token s_value s_fault s_faultAt s_latest s_isKept s_kept s_trace s_traced)) → va_S A s.heap H locs → lv_has ls 9 [(0, .ref q_s), (1, .int v1), (2, .int v2), (3, .int v3), (4, .int v4), (5, .int v5), (6, .int w0_j138), (7, .int v7_h143)] → fX9_copy_L143 v1 v2 v3 v4 v5 w0_j138 n v7_h143 s_item_h143 = some res → W p l e (headSpec wsX9_copy rmX9_copy).room s m ([.ref q_s, .int v1, .int v2, .int v3, .int v4, .int v5] : List Value).toArray below meth c H locs 0 0 QQ (F0 m 143 ls []) := by
                          intro  n
                          induction n with
                          | zero => intro v7_h143 s_item_h143 H locs ls hP hD hS hl h; rw [fX9_copy_L143.eq_1] at h; cases h
                          | succ n ih =>
                            intro v7_h143 s_item_h143 H locs ls hP hD hS hl h
                            rw [fX9_copy_L143.eq_2] at h
                            refine lv_iload hx hb dX9_copy_143 (lv_at hl 7 rfl) ?_
                            refine lv_iload hx hb dX9_copy_145 (lv_at hl 5 rfl) ?_
                            refine lv_icmp_ge (tgt := 204) hx hb dX9_copy_147 (by decide) (fun c_24 => ?_) (fun c_24 => ?_)
                            · have h := (if_pos c_24).symm.trans h
                              refine lv_iload hx hb dX9_copy_204 (lv_at hl 5 rfl) ?_
                              have h := Option.some.inj h
                              subst h
                              rw [hQQ]
                              subst hAe
                              exact W.iret (v := v5) hx hb hr (fun t ht hW => ⟨⟨_, (), rfl, rfl, by rw [ht]; exact hP, va_K.moved hW.alike hK, hD⟩, hS.F ht⟩) hS.2.2 dX9_copy_206
                            · have h := (if_neg c_24).symm.trans h
                              refine lv_iload hx hb dX9_copy_150 (lv_at hl 6 rfl) ?_
                              have KJ167 : ∀ (w0_j167 : Int32) (H : Heap) (locs : List Loc) (ls : Array Slot), va_P (dC, dI) vwCl ((W_M cI cZ q_s q_s_lane q_s_many q_s_item q_s_isle q_s_fresh q_s_then q_s_was q_s_tape q_s_isKept q_s_kept q_s_trace 0 0 s_lane s_many s_item_h143 s_isle s_fresh s_then s_was s_acts s_tape s_taped s_cursor s_start s_token s_value s_fault s_faultAt s_latest s_isKept s_kept s_trace s_traced)) H → va_D A ((W_M cI cZ q_s q_s_lane q_s_many q_s_item q_s_isle q_s_fresh q_s_then q_s_was q_s_tape q_s_isKept q_s_kept q_s_trace 0 0 s_lane s_many s_item_h143 s_isle s_fresh s_then s_was s_acts s_tape s_taped s_cursor s_start s_token s_value s_fault s_faultAt s_latest s_isKept s_kept s_trace s_traced)) → va_S A s.heap H locs → lv_has ls 9 [(0, .ref q_s), (1, .int v1), (2, .int v2), (3, .int v3), (4, .int v4), (5, .int v5), (6, .int w0_j138), (7, .int v7_h143)] → fX9_copy_J167 v1 v2 v3 v4 (fX9_copy_L143 v1 v2 v3 v4 v5 w0_j138 n) v7_h143 s_item_h143 w0_j167 = some res → W p l e (headSpec wsX9_copy rmX9_copy).room s m ([.ref q_s, .int v1, .int v2, .int v3, .int v4, .int v5] : List Value).toArray below meth c H locs 0 0 QQ (F0 m 167 ls [.int w0_j167]) := by
                                intro w0_j167 H locs ls hP hD hS hl h
                                unfold fX9_copy_J167 at h
                                refine lv_istore (lv' := [(8, .int w0_j167), (0, .ref q_s), (1, .int v1), (2, .int v2), (3, .int v3), (4, .int v4), (5, .int v5), (6, .int w0_j138), (7, .int v7_h143)]) hx hb dX9_copy_167 hl (by decide) rfl (fun ls hl => ?_)
                                refine lv_aload_n hx hb dX9_copy_169 rfl (lv_at hl 1 rfl) ?_
                                refine va_get (D := (dC, dI)) (ci := 7) (v := .ref q_s_item) (C := RX9) (T := TX9) (N := 23) hx hb hts w_1 hown hK hP 0 rfl rfl 4 (by decide) w_6 (fun _ h9 => h9) rfl dX9_copy_170 ?_
                                refine lv_bipush (v := 40) hx hb dX9_copy_173 (by decide) ?_
                                refine lv_iload_n hx hb dX9_copy_175 rfl (lv_at hl 4 rfl) ?_
                                refine lv_imul hx hb dX9_copy_176 ?_
                                refine lv_iload hx hb dX9_copy_177 (lv_at hl 5 rfl) ?_
                                refine lv_iadd hx hb dX9_copy_179 ?_
                                refine lv_iload hx hb dX9_copy_180 (lv_at hl 0 rfl) ?_
                                refine lv_iadd hx hb dX9_copy_182 ?_
                                refine lv_aload_n hx hb dX9_copy_183 rfl (lv_at hl 1 rfl) ?_
                                refine va_get (D := (dC, dI)) (ci := 7) (v := .ref q_s_item) (C := RX9) (T := TX9) (N := 23) hx hb hts w_1 hown hK hP 0 rfl rfl 4 (by decide) w_6 (fun _ h9 => h9) rfl dX9_copy_184 ?_
                                refine lv_bipush (v := 40) hx hb dX9_copy_187 (by decide) ?_
                                refine lv_iload_n hx hb dX9_copy_189 rfl (lv_at hl 2 rfl) ?_
                                refine lv_imul hx hb dX9_copy_190 ?_
                                refine lv_iload_n hx hb dX9_copy_191 rfl (lv_at hl 3 rfl) ?_
                                refine lv_iadd hx hb dX9_copy_192 ?_
                                refine lv_iload hx hb dX9_copy_193 (lv_at hl 0 rfl) ?_
                                refine lv_iadd hx hb dX9_copy_195 ?_
                                obtain ⟨b_25, h⟩ := chk_of h
                                refine va_iald hx hb hK hP 3 0 rfl rfl (i := (((40 * v1) + v2) + w0_j167)) b_25 dX9_copy_196 ?_
                                obtain ⟨b_26, h⟩ := chk_of h
                                refine va_iast hx hb hK hP hD hS 3 0 rfl rfl (i := (((40 * v3) + v4) + w0_j167)) (x := (s_item_h143 (((40 * v1) + v2) + w0_j167).toNatClampNeg)) b_26 dX9_copy_197 (fun H locs hP hD hS => ?_)
                                have hP : va_P (dC, dI) vwCl ((W_M cI cZ q_s q_s_lane q_s_many q_s_item q_s_isle q_s_fresh q_s_then q_s_was q_s_tape q_s_isKept q_s_kept q_s_trace 0 0 s_lane s_many (upd s_item_h143 (((40 * v3) + v4) + w0_j167).toNatClampNeg (s_item_h143 (((40 * v1) + v2) + w0_j167).toNatClampNeg)) s_isle s_fresh s_then s_was s_acts s_tape s_taped s_cursor s_start s_token s_value s_fault s_faultAt s_latest s_isKept s_kept s_trace s_traced)) H := hP
                                have hD : va_D A ((W_M cI cZ q_s q_s_lane q_s_many q_s_item q_s_isle q_s_fresh q_s_then q_s_was q_s_tape q_s_isKept q_s_kept q_s_trace 0 0 s_lane s_many (upd s_item_h143 (((40 * v3) + v4) + w0_j167).toNatClampNeg (s_item_h143 (((40 * v1) + v2) + w0_j167).toNatClampNeg)) s_isle s_fresh s_then s_was s_acts s_tape s_taped s_cursor s_start s_token s_value s_fault s_faultAt s_latest s_isKept s_kept s_trace s_traced)) := hD
                                refine lv_iinc (v := (v7_h143 + 1)) (lv' := [(7, .int (v7_h143 + 1)), (8, .int w0_j167), (0, .ref q_s), (1, .int v1), (2, .int v2), (3, .int v3), (4, .int v4), (5, .int v5), (6, .int w0_j138)]) hx hb dX9_copy_198 hl (k := 8) rfl rfl (by decide) rfl (fun ls hl => ?_)
                                refine lv_goto (tgt := 143) hx hb dX9_copy_201 (by decide) ?_
                                exact ih (v7_h143 + 1) (upd s_item_h143 (((40 * v3) + v4) + w0_j167).toNatClampNeg (s_item_h143 (((40 * v1) + v2) + w0_j167).toNatClampNeg)) _ _ _ hP hD hS (lv_sub hl [2, 3, 4, 5, 6, 7, 8, 0] rfl) h
                              refine lv_if_eq (tgt := 160) hx hb dX9_copy_152 (by decide) (fun c_27 => ?_) (fun c_27 => ?_)
                              · have h := (if_pos c_27).symm.trans h
                                refine lv_iload hx hb dX9_copy_160 (lv_at hl 5 rfl) ?_
                                refine lv_iconst (v := 1) hx hb dX9_copy_162 (by decide) ?_
                                refine lv_isub hx hb dX9_copy_163 ?_
                                refine lv_iload hx hb dX9_copy_164 (lv_at hl 7 rfl) ?_
                                refine lv_isub hx hb dX9_copy_166 ?_
                                exact KJ167 ((v5 - 1) - v7_h143) _ _ _ hP hD hS (lv_sub hl [0, 1, 2, 3, 4, 5, 6, 7] rfl) h
                              · have h := (if_neg c_27).symm.trans h
                                refine lv_iload hx hb dX9_copy_155 (lv_at hl 7 rfl) ?_
                                refine lv_goto (tgt := 167) hx hb dX9_copy_157 (by decide) ?_
                                exact KJ167 v7_h143 _ _ _ hP hD hS (lv_sub hl [0, 1, 2, 3, 4, 5, 6, 7] rfl) h
                        exact KL143 FU 0 s_item _ _ _ hP hD hS (lv_sub hl [2, 3, 4, 5, 6, 7, 1, 0] rfl) h
                      refine lv_icmp_lt (tgt := 137) hx hb dX9_copy_130 (by decide) (fun c_28 => ?_) (fun c_28 => ?_)
                      · have h := (if_pos c_28).symm.trans h
                        refine lv_iconst (v := 0) hx hb dX9_copy_137 (by decide) ?_
                        exact KJ138 0 _ _ _ hP hD hS (lv_sub hl [0, 1, 2, 3, 4, 5] rfl) h
                      · have h := (if_neg c_28).symm.trans h
                        refine lv_iconst (v := 1) hx hb dX9_copy_133 (by decide) ?_
                        refine lv_goto (tgt := 138) hx hb dX9_copy_134 (by decide) ?_
                        exact KJ138 1 _ _ _ hP hD hS (lv_sub hl [0, 1, 2, 3, 4, 5] rfl) h
                    · have h := (if_neg c_23).symm.trans h
                      refine lv_aload_n hx hb dX9_copy_121 rfl (lv_at hl 0 rfl) ?_
                      refine lv_iconst (v := 2) hx hb dX9_copy_122 (by decide) ?_
                      obtain ⟨r_29, s_status_29, hc_29, h⟩ := bd2_of h
                      refine cl_mVi (As := [.int 2]) (rest := []) (ws' := (W_M cI cZ q_s q_s_lane q_s_many q_s_item q_s_isle q_s_fresh q_s_then q_s_was q_s_tape q_s_isKept q_s_kept q_s_trace 0 s_status_29 s_lane s_many s_item s_isle s_fresh s_then s_was s_acts s_tape s_taped s_cursor s_start s_token s_value s_fault s_faultAt s_latest s_isKept s_kept s_trace s_traced)) (wr := []) ⟨hx, hb, hml, hown, hts⟩ (m_X9_finding l dC dI cI cZ q_s q_s_lane q_s_many q_s_item q_s_isle q_s_fresh q_s_then q_s_was q_s_tape q_s_isKept q_s_kept q_s_trace 0 0 s_lane s_many s_item s_isle s_fresh s_then s_was s_acts s_tape s_taped s_cursor s_start s_token s_value s_fault s_faultAt s_latest s_isKept s_kept s_trace s_traced 2 _ (r_29, s_status_29) hc_29) (cwV 1 hts gX9_copy_X9_finding rfl rfl rfl ⟨rfl, ddX9_finding⟩ ⟨Nat.le_of_ble_eq_true rfl, Nat.le_of_ble_eq_true rfl⟩) hK hP hD hS hA [0, 1, 2, 3, 4, 5, 6, 7, 8, 9, 10, 11] [] rfl rfl rfl rfl (by decide) [0, 1, 2, 3, 4, 5, 6, 7, 8, 9, 10, 11] rfl rfl rfl rfl rfl rfl rfl hl.1 (Nat.le_of_ble_eq_true rfl) ⟨Nat.zero_le _, Nat.zero_le _⟩ dX9_copy_123 (fun H locs hP hD hS => ?_)
                      have h := Option.some.inj h
                      subst h
                      rw [hQQ]
                      subst hAe
                      exact W.iret (v := r_29) hx hb hr (fun t ht hW => ⟨⟨_, (), rfl, rfl, by rw [ht]; exact hP, va_K.moved hW.alike hK, hD⟩, hS.F ht⟩) hS.2.2 dX9_copy_126
          · have h := (if_neg c_12).symm.trans h
            refine lv_aload_n hx hb dX9_copy_66 rfl (lv_at hl 0 rfl) ?_
            refine lv_iconst (v := 5) hx hb dX9_copy_67 (by decide) ?_
            obtain ⟨r_30, s_status_30, hc_30, h⟩ := bd2_of h
            refine cl_mVi (As := [.int 5]) (rest := []) (ws' := (W_M cI cZ q_s q_s_lane q_s_many q_s_item q_s_isle q_s_fresh q_s_then q_s_was q_s_tape q_s_isKept q_s_kept q_s_trace 0 s_status_30 s_lane s_many s_item s_isle s_fresh s_then s_was s_acts s_tape s_taped s_cursor s_start s_token s_value s_fault s_faultAt s_latest s_isKept s_kept s_trace s_traced)) (wr := []) ⟨hx, hb, hml, hown, hts⟩ (m_X9_finding l dC dI cI cZ q_s q_s_lane q_s_many q_s_item q_s_isle q_s_fresh q_s_then q_s_was q_s_tape q_s_isKept q_s_kept q_s_trace 0 0 s_lane s_many s_item s_isle s_fresh s_then s_was s_acts s_tape s_taped s_cursor s_start s_token s_value s_fault s_faultAt s_latest s_isKept s_kept s_trace s_traced 5 _ (r_30, s_status_30) hc_30) (cwV 1 hts gX9_copy_X9_finding rfl rfl rfl ⟨rfl, ddX9_finding⟩ ⟨Nat.le_of_ble_eq_true rfl, Nat.le_of_ble_eq_true rfl⟩) hK hP hD hS hA [0, 1, 2, 3, 4, 5, 6, 7, 8, 9, 10, 11] [] rfl rfl rfl rfl (by decide) [0, 1, 2, 3, 4, 5, 6, 7, 8, 9, 10, 11] rfl rfl rfl rfl rfl rfl rfl hl.1 (Nat.le_of_ble_eq_true rfl) ⟨Nat.zero_le _, Nat.zero_le _⟩ dX9_copy_68 (fun H locs hP hD hS => ?_)
            have h := Option.some.inj h
            subst h
            rw [hQQ]
            subst hAe
            exact W.iret (v := r_30) hx hb hr (fun t ht hW => ⟨⟨_, (), rfl, rfl, by rw [ht]; exact hP, va_K.moved hW.alike hK, hD⟩, hS.F ht⟩) hS.2.2 dX9_copy_71
        · have h := (if_neg c_9).symm.trans h
          refine lv_aload_n hx hb dX9_copy_45 rfl (lv_at hl 0 rfl) ?_
          refine lv_iconst (v := 1) hx hb dX9_copy_46 (by decide) ?_
          obtain ⟨r_31, s_status_31, hc_31, h⟩ := bd2_of h
          refine cl_mVi (As := [.int 1]) (rest := []) (ws' := (W_M cI cZ q_s q_s_lane q_s_many q_s_item q_s_isle q_s_fresh q_s_then q_s_was q_s_tape q_s_isKept q_s_kept q_s_trace 0 s_status_31 s_lane s_many s_item s_isle s_fresh s_then s_was s_acts s_tape s_taped s_cursor s_start s_token s_value s_fault s_faultAt s_latest s_isKept s_kept s_trace s_traced)) (wr := []) ⟨hx, hb, hml, hown, hts⟩ (m_X9_finding l dC dI cI cZ q_s q_s_lane q_s_many q_s_item q_s_isle q_s_fresh q_s_then q_s_was q_s_tape q_s_isKept q_s_kept q_s_trace 0 0 s_lane s_many s_item s_isle s_fresh s_then s_was s_acts s_tape s_taped s_cursor s_start s_token s_value s_fault s_faultAt s_latest s_isKept s_kept s_trace s_traced 1 _ (r_31, s_status_31) hc_31) (cwV 1 hts gX9_copy_X9_finding rfl rfl rfl ⟨rfl, ddX9_finding⟩ ⟨Nat.le_of_ble_eq_true rfl, Nat.le_of_ble_eq_true rfl⟩) hK hP hD hS hA [0, 1, 2, 3, 4, 5, 6, 7, 8, 9, 10, 11] [] rfl rfl rfl rfl (by decide) [0, 1, 2, 3, 4, 5, 6, 7, 8, 9, 10, 11] rfl rfl rfl rfl rfl rfl rfl hl.1 (Nat.le_of_ble_eq_true rfl) ⟨Nat.zero_le _, Nat.zero_le _⟩ dX9_copy_47 (fun H locs hP hD hS => ?_)
          have h := Option.some.inj h
          subst h
          rw [hQQ]
          subst hAe
          exact W.iret (v := r_31) hx hb hr (fun t ht hW => ⟨⟨_, (), rfl, rfl, by rw [ht]; exact hP, va_K.moved hW.alike hK, hD⟩, hS.F ht⟩) hS.2.2 dX9_copy_50
    · have h := (if_pos c_4).symm.trans h
      refine lv_ldc hx hb hown w_2 dX9_copy_19 ?_
      have h := Option.some.inj h
      subst h
      rw [hQQ]
      subst hAe
      exact W.iret (v := (-1000001)) hx hb hr (fun t ht hW => ⟨⟨_, (), rfl, rfl, by rw [ht]; exact hP, va_K.moved hW.alike hK, hD⟩, hS.F ht⟩) hS.2.2 dX9_copy_21
def fX9_drop (s_status : Int32) (s_lane : (Nat → Int32)) (s_many : (Nat → Int32)) (v1 : Int32) : Option (Int32 × Int32 × Int32 × (Nat → Int32)) :=
  bd1 (fX9_isRow v1) (fun r_1 => (if r_1 = 0 then some ((-1000001), 0, s_status, s_lane) else chk (¬ (v1 < 0 ∨ 8 ≤ v1.toNatClampNeg)) ((if 0 ≤ (s_lane v1.toNatClampNeg) then chk (¬ (v1 < 0 ∨ 8 ≤ v1.toNatClampNeg)) (chk (¬ (v1 < 0 ∨ 8 ≤ v1.toNatClampNeg)) (some ((s_many v1.toNatClampNeg), 0, 0, (upd s_lane v1.toNatClampNeg (-1))))) else bd2 (fX9_finding 1) (fun r_7 s_status_7 => some (r_7, 0, s_status_7, s_lane))))))
abbrev rmX9_drop : Room := { frames := 2, cells := 0, slots := 0, locals := 45 }
theorem ddX9_drop : yX9_drop.cls ≠ "java/lang/invoke/MethodHandle" ∧ yX9_drop.cls ≠ "java/lang/invoke/VarHandle" ∧ (parseMethodDescriptor yX9_drop.desc).map (fun d => d.parameters.length) = some 1 := by decide +kernel
set_option maxHeartbeats 4000000 in
set_option maxRecDepth 100000 in
theorem m_X9_drop (l : Launch) (dC : Nat → ClassId) (dI : Nat → Nat → Nat) (cI cZ : ClassId) (q_s q_s_lane q_s_many q_s_item q_s_isle q_s_fresh q_s_then q_s_was q_s_tape q_s_isKept q_s_kept q_s_trace : Nat) (s_thrown : Int32) (s_status : Int32) (s_lane : (Nat → Int32)) (s_many : (Nat → Int32)) (s_item : (Nat → Int32)) (s_isle : (Nat → Int32)) (s_fresh : (Nat → Int32)) (s_then : (Nat → Int32)) (s_was : (Nat → Int32)) (s_acts : Int32) (s_tape : (Nat → Int32)) (s_taped : Int32) (s_cursor : Int32) (s_start : Int32) (s_token : Int32) (s_value : Int32) (s_fault : Int32) (s_faultAt : Int32) (s_latest : Int32) (s_isKept : (Nat → Int32)) (s_kept : (Nat → Int32)) (s_trace : (Nat → Int32)) (s_traced : Int32) (v1 : Int32) (sz : Nat) (res : Int32 × Int32 × Int32 × (Nat → Int32)) (hf : fX9_drop s_status s_lane s_many v1 = some res) : Met l yX9_drop wsX9_drop rmX9_drop (mtPc (dC, dI) (tyZ cI cZ) ((W_M cI cZ q_s q_s_lane q_s_many q_s_item q_s_isle q_s_fresh q_s_then q_s_was q_s_tape q_s_isKept q_s_kept q_s_trace s_thrown s_status s_lane s_many s_item s_isle s_fresh s_then s_was s_acts s_tape s_taped s_cursor s_start s_token s_value s_fault s_faultAt s_latest s_isKept s_kept s_trace s_traced)) [.ref q_s, .int v1] sz) (mtQi (dC, dI) (tyZ cI cZ) ((W_M cI cZ q_s q_s_lane q_s_many q_s_item q_s_isle q_s_fresh q_s_then q_s_was q_s_tape q_s_isKept q_s_kept q_s_trace s_thrown s_status s_lane s_many s_item s_isle s_fresh s_then s_was s_acts s_tape s_taped s_cursor s_start s_token s_value s_fault s_faultAt s_latest s_isKept s_kept s_trace s_traced)) ((W_M cI cZ q_s q_s_lane q_s_many q_s_item q_s_isle q_s_fresh q_s_then q_s_was q_s_tape q_s_isKept q_s_kept q_s_trace res.2.1 res.2.2.1 res.2.2.2 s_many s_item s_isle s_fresh s_then s_was s_acts s_tape s_taped s_cursor s_start s_token s_value s_fault s_faultAt s_latest s_isKept s_kept s_trace s_traced)) res.1 sz) 0 0 (va_A ((W_M cI cZ q_s q_s_lane q_s_many q_s_item q_s_isle q_s_fresh q_s_then q_s_was q_s_tape q_s_isKept q_s_kept q_s_trace s_thrown s_status s_lane s_many s_item s_isle s_fresh s_then s_was s_acts s_tape s_taped s_cursor s_start s_token s_value s_fault s_faultAt s_latest s_isKept s_kept s_trace s_traced)) sz) := by
  refine Met.ofW (cc := cX9_drop) (maxL := 2) (ret := (some .int)) (by decide) rfl ?_
  intro p e s m args below meth c s₁ B hml hv
  obtain ⟨rfl, hsz, hP, hK, hD0⟩ := hv
  have hx := B.exec
  have hb := B.bytes
  have hr := B.returns
  have hts := atoms_spec (ws := wsX9_drop) B.pre
  have hown : s.vm.findClass RX9 = some m.cls := findClass_of_methodNamed B.named
  have hlocks := B.notSynchronized
  subst hsz
  have hD := hD0.self (sz := s.heap.size)
  obtain ⟨A, hAe⟩ : ∃ A, A = va_A ((W_M cI cZ q_s q_s_lane q_s_many q_s_item q_s_isle q_s_fresh q_s_then q_s_was q_s_tape q_s_isKept q_s_kept q_s_trace s_thrown s_status s_lane s_many s_item s_isle s_fresh s_then s_was s_acts s_tape s_taped s_cursor s_start s_token s_value s_fault s_faultAt s_latest s_isKept s_kept s_trace s_traced)) s.heap.size := ⟨_, rfl⟩
  rw [← hAe] at hD
  have hA : ∀ q : Nat, s.heap.size ≤ q → A q := fun q h => by rw [hAe]; exact Or.inr h
  have hS : va_S A s.heap s.heap [] := va_S.rf
  have hl := lv_entry ([.ref q_s, .int v1]) (n := 2) (Nat.le_of_ble_eq_true rfl)
  rw [lg_entry_eq]
  generalize (lg_sl ([.ref q_s, .int v1]) ++ List.replicate (2 - (lg_sl ([.ref q_s, .int v1])).length) Slot.unset).toArray = ls at hl ⊢
  have hl : lv_has ls 2 [(0, .ref q_s), (1, .int v1)] := hl
  obtain ⟨QQ, hQQ⟩ : ∃ Q, Q = MQ below (mtQi (dC, dI) (tyZ cI cZ) ((W_M cI cZ q_s q_s_lane q_s_many q_s_item q_s_isle q_s_fresh q_s_then q_s_was q_s_tape q_s_isKept q_s_kept q_s_trace s_thrown s_status s_lane s_many s_item s_isle s_fresh s_then s_was s_acts s_tape s_taped s_cursor s_start s_token s_value s_fault s_faultAt s_latest s_isKept s_kept s_trace s_traced)) ((W_M cI cZ q_s q_s_lane q_s_many q_s_item q_s_isle q_s_fresh q_s_then q_s_was q_s_tape q_s_isKept q_s_kept q_s_trace res.2.1 res.2.2.1 res.2.2.2 s_many s_item s_isle s_fresh s_then s_was s_acts s_tape s_taped s_cursor s_start s_token s_value s_fault s_faultAt s_latest s_isKept s_kept s_trace s_traced)) res.1 s.heap.size) ([.ref q_s, .int v1] : List Value).toArray s 0 0 (va_A ((W_M cI cZ q_s q_s_lane q_s_many q_s_item q_s_isle q_s_fresh q_s_then q_s_was q_s_tape q_s_isKept q_s_kept q_s_trace s_thrown s_status s_lane s_many s_item s_isle s_fresh s_then s_was s_acts s_tape s_taped s_cursor s_start s_token s_value s_fault s_faultAt s_latest s_isKept s_kept s_trace s_traced)) s.heap.size) := ⟨_, rfl⟩
  rw [← hQQ]
  have w_0 := hts (Cond.fieldLink RX9 44 "TideInchesModel" "thrown" "I") (List.mem_of_getElem? (i := 1) rfl)
  have w_1 := (fun w hw => List.mem_cons_of_mem _ (List.mem_append_right _ hw) : ∀ w ∈ wsX90, w ∈ wsX9_drop)
  have w_2 := hts (Cond.fieldLink RX9 48 "TideInchesModel" "status" "I") (List.mem_of_getElem? (i := 3) rfl)
  have w_3 := hts (Cond.fieldLink RX9 7 "TideInchesModel" "lane" "[I") (List.mem_of_getElem? (i := 4) rfl)
  have w_4 := hts (Cond.fieldLink RX9 13 "TideInchesModel" "many" "[I") (List.mem_of_getElem? (i := 5) rfl)
  have w_5 := hts (Cond.constant RX9 64 (-1000001)) (List.mem_of_getElem? (i := 2) rfl)
  have h := hf
  unfold fX9_drop at h
  refine lv_aload_n hx hb dX9_drop_0 rfl (lv_at hl 0 rfl) ?_
  refine lv_iconst (v := 0) hx hb dX9_drop_1 (by decide) ?_
  refine va_put (D := (dC, dI)) (ci := 7) (v := .int 0) (ty := .int) (C := RX9) (T := TX9) (N := 23) hx hb hts w_1 tyX9 tyX9_ok nmX9 hown hK hP hD hS 0 rfl rfl 0 (by decide) w_0 (fun _ h9 => h9) rfl (by decide +kernel) rfl rfl (Nat.le_of_ble_eq_true rfl) dX9_drop_2 (fun H locs hP hD hS => ?_)
  have hP : va_P (dC, dI) vwCl ((W_M cI cZ q_s q_s_lane q_s_many q_s_item q_s_isle q_s_fresh q_s_then q_s_was q_s_tape q_s_isKept q_s_kept q_s_trace 0 s_status s_lane s_many s_item s_isle s_fresh s_then s_was s_acts s_tape s_taped s_cursor s_start s_token s_value s_fault s_faultAt s_latest s_isKept s_kept s_trace s_traced)) H := hP
  have hD : va_D A ((W_M cI cZ q_s q_s_lane q_s_many q_s_item q_s_isle q_s_fresh q_s_then q_s_was q_s_tape q_s_isKept q_s_kept q_s_trace 0 s_status s_lane s_many s_item s_isle s_fresh s_then s_was s_acts s_tape s_taped s_cursor s_start s_token s_value s_fault s_faultAt s_latest s_isKept s_kept s_trace s_traced)) := hD
  refine lv_iload_n hx hb dX9_drop_5 rfl (lv_at hl 1 rfl) ?_
  obtain ⟨r_1, hc_1, h⟩ := bd1_of h
  refine cl_pS (As := [.int v1]) (rest := []) ⟨hx, hb, hml, hown, hts⟩ (m_X9_isRow l v1 (r_1) hc_1) (va_cwS 1 hts gX9_drop_X9_isRow rfl rfl rfl ddX9_isRow ⟨Nat.le_of_ble_eq_true rfl, Nat.le_of_ble_eq_true rfl⟩) rfl rfl hl.1 (Nat.le_of_ble_eq_true rfl) ⟨Nat.zero_le _, Nat.zero_le _⟩ dX9_drop_6 ?_
  refine lv_if_ne (tgt := 15) hx hb dX9_drop_9 (by decide) (fun c_2 => ?_) (fun c_2 => ?_)
  · have h := (if_neg c_2).symm.trans h
    refine lv_aload_n hx hb dX9_drop_15 rfl (lv_at hl 0 rfl) ?_
    refine lv_iconst (v := 0) hx hb dX9_drop_16 (by decide) ?_
    refine va_put (D := (dC, dI)) (ci := 7) (v := .int 0) (ty := .int) (C := RX9) (T := TX9) (N := 23) hx hb hts w_1 tyX9 tyX9_ok nmX9 hown hK hP hD hS 0 rfl rfl 1 (by decide) w_2 (fun _ h9 => h9) rfl (by decide +kernel) rfl rfl (Nat.le_of_ble_eq_true rfl) dX9_drop_17 (fun H locs hP hD hS => ?_)
    have hP : va_P (dC, dI) vwCl ((W_M cI cZ q_s q_s_lane q_s_many q_s_item q_s_isle q_s_fresh q_s_then q_s_was q_s_tape q_s_isKept q_s_kept q_s_trace 0 0 s_lane s_many s_item s_isle s_fresh s_then s_was s_acts s_tape s_taped s_cursor s_start s_token s_value s_fault s_faultAt s_latest s_isKept s_kept s_trace s_traced)) H := hP
    have hD : va_D A ((W_M cI cZ q_s q_s_lane q_s_many q_s_item q_s_isle q_s_fresh q_s_then q_s_was q_s_tape q_s_isKept q_s_kept q_s_trace 0 0 s_lane s_many s_item s_isle s_fresh s_then s_was s_acts s_tape s_taped s_cursor s_start s_token s_value s_fault s_faultAt s_latest s_isKept s_kept s_trace s_traced)) := hD
    refine lv_aload_n hx hb dX9_drop_20 rfl (lv_at hl 0 rfl) ?_
    refine va_get (D := (dC, dI)) (ci := 7) (v := .ref q_s_lane) (C := RX9) (T := TX9) (N := 23) hx hb hts w_1 hown hK hP 0 rfl rfl 2 (by decide) w_3 (fun _ h9 => h9) rfl dX9_drop_21 ?_
    refine lv_iload_n hx hb dX9_drop_24 rfl (lv_at hl 1 rfl) ?_
    obtain ⟨b_3, h⟩ := chk_of h
    refine va_iald hx hb hK hP 1 0 rfl rfl (i := v1) b_3 dX9_drop_25 ?_
    refine lv_if_ge (tgt := 35) hx hb dX9_drop_26 (by decide) (fun c_4 => ?_) (fun c_4 => ?_)
    · have h := (if_pos c_4).symm.trans h
      refine lv_aload_n hx hb dX9_drop_35 rfl (lv_at hl 0 rfl) ?_
      refine va_get (D := (dC, dI)) (ci := 7) (v := .ref q_s_lane) (C := RX9) (T := TX9) (N := 23) hx hb hts w_1 hown hK hP 0 rfl rfl 2 (by decide) w_3 (fun _ h9 => h9) rfl dX9_drop_36 ?_
      refine lv_iload_n hx hb dX9_drop_39 rfl (lv_at hl 1 rfl) ?_
      refine lv_iconst (v := (-1)) hx hb dX9_drop_40 (by decide) ?_
      obtain ⟨b_5, h⟩ := chk_of h
      refine va_iast hx hb hK hP hD hS 1 0 rfl rfl (i := v1) (x := (-1)) b_5 dX9_drop_41 (fun H locs hP hD hS => ?_)
      have hP : va_P (dC, dI) vwCl ((W_M cI cZ q_s q_s_lane q_s_many q_s_item q_s_isle q_s_fresh q_s_then q_s_was q_s_tape q_s_isKept q_s_kept q_s_trace 0 0 (upd s_lane v1.toNatClampNeg (-1)) s_many s_item s_isle s_fresh s_then s_was s_acts s_tape s_taped s_cursor s_start s_token s_value s_fault s_faultAt s_latest s_isKept s_kept s_trace s_traced)) H := hP
      have hD : va_D A ((W_M cI cZ q_s q_s_lane q_s_many q_s_item q_s_isle q_s_fresh q_s_then q_s_was q_s_tape q_s_isKept q_s_kept q_s_trace 0 0 (upd s_lane v1.toNatClampNeg (-1)) s_many s_item s_isle s_fresh s_then s_was s_acts s_tape s_taped s_cursor s_start s_token s_value s_fault s_faultAt s_latest s_isKept s_kept s_trace s_traced)) := hD
      refine lv_aload_n hx hb dX9_drop_42 rfl (lv_at hl 0 rfl) ?_
      refine va_get (D := (dC, dI)) (ci := 7) (v := .ref q_s_many) (C := RX9) (T := TX9) (N := 23) hx hb hts w_1 hown hK hP 0 rfl rfl 3 (by decide) w_4 (fun _ h9 => h9) rfl dX9_drop_43 ?_
      refine lv_iload_n hx hb dX9_drop_46 rfl (lv_at hl 1 rfl) ?_
      obtain ⟨b_6, h⟩ := chk_of h
      refine va_iald hx hb hK hP 2 0 rfl rfl (i := v1) b_6 dX9_drop_47 ?_
      have h := Option.some.inj h
      subst h
      rw [hQQ]
      subst hAe
      exact W.iret (v := (s_many v1.toNatClampNeg)) hx hb hr (fun t ht hW => ⟨⟨_, (), rfl, rfl, by rw [ht]; exact hP, va_K.moved hW.alike hK, hD⟩, hS.F ht⟩) hS.2.2 dX9_drop_48
    · have h := (if_neg c_4).symm.trans h
      refine lv_aload_n hx hb dX9_drop_29 rfl (lv_at hl 0 rfl) ?_
      refine lv_iconst (v := 1) hx hb dX9_drop_30 (by decide) ?_
      obtain ⟨r_7, s_status_7, hc_7, h⟩ := bd2_of h
      refine cl_mVi (As := [.int 1]) (rest := []) (ws' := (W_M cI cZ q_s q_s_lane q_s_many q_s_item q_s_isle q_s_fresh q_s_then q_s_was q_s_tape q_s_isKept q_s_kept q_s_trace 0 s_status_7 s_lane s_many s_item s_isle s_fresh s_then s_was s_acts s_tape s_taped s_cursor s_start s_token s_value s_fault s_faultAt s_latest s_isKept s_kept s_trace s_traced)) (wr := []) ⟨hx, hb, hml, hown, hts⟩ (m_X9_finding l dC dI cI cZ q_s q_s_lane q_s_many q_s_item q_s_isle q_s_fresh q_s_then q_s_was q_s_tape q_s_isKept q_s_kept q_s_trace 0 0 s_lane s_many s_item s_isle s_fresh s_then s_was s_acts s_tape s_taped s_cursor s_start s_token s_value s_fault s_faultAt s_latest s_isKept s_kept s_trace s_traced 1 _ (r_7, s_status_7) hc_7) (cwV 1 hts gX9_drop_X9_finding rfl rfl rfl ⟨rfl, ddX9_finding⟩ ⟨Nat.le_of_ble_eq_true rfl, Nat.le_of_ble_eq_true rfl⟩) hK hP hD hS hA [0, 1, 2, 3, 4, 5, 6, 7, 8, 9, 10, 11] [] rfl rfl rfl rfl (by decide) [0, 1, 2, 3, 4, 5, 6, 7, 8, 9, 10, 11] rfl rfl rfl rfl rfl rfl rfl hl.1 (Nat.le_of_ble_eq_true rfl) ⟨Nat.zero_le _, Nat.zero_le _⟩ dX9_drop_31 (fun H locs hP hD hS => ?_)
      have h := Option.some.inj h
      subst h
      rw [hQQ]
      subst hAe
      exact W.iret (v := r_7) hx hb hr (fun t ht hW => ⟨⟨_, (), rfl, rfl, by rw [ht]; exact hP, va_K.moved hW.alike hK, hD⟩, hS.F ht⟩) hS.2.2 dX9_drop_34
  · have h := (if_pos c_2).symm.trans h
    refine lv_ldc hx hb hown w_5 dX9_drop_12 ?_
    have h := Option.some.inj h
    subst h
    rw [hQQ]
    subst hAe
    exact W.iret (v := (-1000001)) hx hb hr (fun t ht hW => ⟨⟨_, (), rfl, rfl, by rw [ht]; exact hP, va_K.moved hW.alike hK, hD⟩, hS.F ht⟩) hS.2.2 dX9_drop_14
def fX9_feed (s_tape : (Nat → Int32)) (s_taped : Int32) (v1 : Int32) : Option (Int32 × Int32 × (Nat → Int32) × Int32) :=
  bd1 (fX9_in v1.toInt64 0 255) (fun r_1 => (if r_1 = 0 then some ((-1000001), 0, s_tape, s_taped) else (if s_taped = 100 then some ((-1000003), 0, s_tape, s_taped) else chk (¬ (s_taped < 0 ∨ 100 ≤ s_taped.toNatClampNeg)) (some ((s_taped + 1), 0, (upd s_tape s_taped.toNatClampNeg v1), (s_taped + 1))))))
abbrev rmX9_feed : Room := { frames := 1, cells := 0, slots := 0, locals := 25 }
theorem ddX9_feed : yX9_feed.cls ≠ "java/lang/invoke/MethodHandle" ∧ yX9_feed.cls ≠ "java/lang/invoke/VarHandle" ∧ (parseMethodDescriptor yX9_feed.desc).map (fun d => d.parameters.length) = some 1 := by decide +kernel
set_option maxHeartbeats 4000000 in
set_option maxRecDepth 100000 in
theorem m_X9_feed (l : Launch) (dC : Nat → ClassId) (dI : Nat → Nat → Nat) (cI cZ : ClassId) (q_s q_s_lane q_s_many q_s_item q_s_isle q_s_fresh q_s_then q_s_was q_s_tape q_s_isKept q_s_kept q_s_trace : Nat) (s_thrown : Int32) (s_status : Int32) (s_lane : (Nat → Int32)) (s_many : (Nat → Int32)) (s_item : (Nat → Int32)) (s_isle : (Nat → Int32)) (s_fresh : (Nat → Int32)) (s_then : (Nat → Int32)) (s_was : (Nat → Int32)) (s_acts : Int32) (s_tape : (Nat → Int32)) (s_taped : Int32) (s_cursor : Int32) (s_start : Int32) (s_token : Int32) (s_value : Int32) (s_fault : Int32) (s_faultAt : Int32) (s_latest : Int32) (s_isKept : (Nat → Int32)) (s_kept : (Nat → Int32)) (s_trace : (Nat → Int32)) (s_traced : Int32) (v1 : Int32) (sz : Nat) (res : Int32 × Int32 × (Nat → Int32) × Int32) (hf : fX9_feed s_tape s_taped v1 = some res) : Met l yX9_feed wsX9_feed rmX9_feed (mtPc (dC, dI) (tyZ cI cZ) ((W_M cI cZ q_s q_s_lane q_s_many q_s_item q_s_isle q_s_fresh q_s_then q_s_was q_s_tape q_s_isKept q_s_kept q_s_trace s_thrown s_status s_lane s_many s_item s_isle s_fresh s_then s_was s_acts s_tape s_taped s_cursor s_start s_token s_value s_fault s_faultAt s_latest s_isKept s_kept s_trace s_traced)) [.ref q_s, .int v1] sz) (mtQi (dC, dI) (tyZ cI cZ) ((W_M cI cZ q_s q_s_lane q_s_many q_s_item q_s_isle q_s_fresh q_s_then q_s_was q_s_tape q_s_isKept q_s_kept q_s_trace s_thrown s_status s_lane s_many s_item s_isle s_fresh s_then s_was s_acts s_tape s_taped s_cursor s_start s_token s_value s_fault s_faultAt s_latest s_isKept s_kept s_trace s_traced)) ((W_M cI cZ q_s q_s_lane q_s_many q_s_item q_s_isle q_s_fresh q_s_then q_s_was q_s_tape q_s_isKept q_s_kept q_s_trace res.2.1 s_status s_lane s_many s_item s_isle s_fresh s_then s_was s_acts res.2.2.1 res.2.2.2 s_cursor s_start s_token s_value s_fault s_faultAt s_latest s_isKept s_kept s_trace s_traced)) res.1 sz) 0 0 (va_A ((W_M cI cZ q_s q_s_lane q_s_many q_s_item q_s_isle q_s_fresh q_s_then q_s_was q_s_tape q_s_isKept q_s_kept q_s_trace s_thrown s_status s_lane s_many s_item s_isle s_fresh s_then s_was s_acts s_tape s_taped s_cursor s_start s_token s_value s_fault s_faultAt s_latest s_isKept s_kept s_trace s_traced)) sz) := by
  refine Met.ofW (cc := cX9_feed) (maxL := 2) (ret := (some .int)) (by decide) rfl ?_
  intro p e s m args below meth c s₁ B hml hv
  obtain ⟨rfl, hsz, hP, hK, hD0⟩ := hv
  have hx := B.exec
  have hb := B.bytes
  have hr := B.returns
  have hts := atoms_spec (ws := wsX9_feed) B.pre
  have hown : s.vm.findClass RX9 = some m.cls := findClass_of_methodNamed B.named
  have hlocks := B.notSynchronized
  subst hsz
  have hD := hD0.self (sz := s.heap.size)
  obtain ⟨A, hAe⟩ : ∃ A, A = va_A ((W_M cI cZ q_s q_s_lane q_s_many q_s_item q_s_isle q_s_fresh q_s_then q_s_was q_s_tape q_s_isKept q_s_kept q_s_trace s_thrown s_status s_lane s_many s_item s_isle s_fresh s_then s_was s_acts s_tape s_taped s_cursor s_start s_token s_value s_fault s_faultAt s_latest s_isKept s_kept s_trace s_traced)) s.heap.size := ⟨_, rfl⟩
  rw [← hAe] at hD
  have hA : ∀ q : Nat, s.heap.size ≤ q → A q := fun q h => by rw [hAe]; exact Or.inr h
  have hS : va_S A s.heap s.heap [] := va_S.rf
  have hl := lv_entry ([.ref q_s, .int v1]) (n := 2) (Nat.le_of_ble_eq_true rfl)
  rw [lg_entry_eq]
  generalize (lg_sl ([.ref q_s, .int v1]) ++ List.replicate (2 - (lg_sl ([.ref q_s, .int v1])).length) Slot.unset).toArray = ls at hl ⊢
  have hl : lv_has ls 2 [(0, .ref q_s), (1, .int v1)] := hl
  obtain ⟨QQ, hQQ⟩ : ∃ Q, Q = MQ below (mtQi (dC, dI) (tyZ cI cZ) ((W_M cI cZ q_s q_s_lane q_s_many q_s_item q_s_isle q_s_fresh q_s_then q_s_was q_s_tape q_s_isKept q_s_kept q_s_trace s_thrown s_status s_lane s_many s_item s_isle s_fresh s_then s_was s_acts s_tape s_taped s_cursor s_start s_token s_value s_fault s_faultAt s_latest s_isKept s_kept s_trace s_traced)) ((W_M cI cZ q_s q_s_lane q_s_many q_s_item q_s_isle q_s_fresh q_s_then q_s_was q_s_tape q_s_isKept q_s_kept q_s_trace res.2.1 s_status s_lane s_many s_item s_isle s_fresh s_then s_was s_acts res.2.2.1 res.2.2.2 s_cursor s_start s_token s_value s_fault s_faultAt s_latest s_isKept s_kept s_trace s_traced)) res.1 s.heap.size) ([.ref q_s, .int v1] : List Value).toArray s 0 0 (va_A ((W_M cI cZ q_s q_s_lane q_s_many q_s_item q_s_isle q_s_fresh q_s_then q_s_was q_s_tape q_s_isKept q_s_kept q_s_trace s_thrown s_status s_lane s_many s_item s_isle s_fresh s_then s_was s_acts s_tape s_taped s_cursor s_start s_token s_value s_fault s_faultAt s_latest s_isKept s_kept s_trace s_traced)) s.heap.size) := ⟨_, rfl⟩
  rw [← hQQ]
  have w_0 := hts (Cond.fieldLink RX9 44 "TideInchesModel" "thrown" "I") (List.mem_of_getElem? (i := 1) rfl)
  have w_1 := (fun w hw => List.mem_cons_of_mem _ (List.mem_append_right _ hw) : ∀ w ∈ wsX90, w ∈ wsX9_feed)
  have w_2 := hts (Cond.constantLong RX9 69 (255)) (List.mem_of_getElem? (i := 2) rfl)
  have w_3 := hts (Cond.fieldLink RX9 71 "TideInchesModel" "taped" "I") (List.mem_of_getElem? (i := 4) rfl)
  have w_4 := hts (Cond.fieldLink RX9 31 "TideInchesModel" "tape" "[I") (List.mem_of_getElem? (i := 6) rfl)
  have w_5 := hts (Cond.constant RX9 74 (-1000003)) (List.mem_of_getElem? (i := 5) rfl)
  have w_6 := hts (Cond.constant RX9 64 (-1000001)) (List.mem_of_getElem? (i := 3) rfl)
  have h := hf
  unfold fX9_feed at h
  refine lv_aload_n hx hb dX9_feed_0 rfl (lv_at hl 0 rfl) ?_
  refine lv_iconst (v := 0) hx hb dX9_feed_1 (by decide) ?_
  refine va_put (D := (dC, dI)) (ci := 7) (v := .int 0) (ty := .int) (C := RX9) (T := TX9) (N := 23) hx hb hts w_1 tyX9 tyX9_ok nmX9 hown hK hP hD hS 0 rfl rfl 0 (by decide) w_0 (fun _ h9 => h9) rfl (by decide +kernel) rfl rfl (Nat.le_of_ble_eq_true rfl) dX9_feed_2 (fun H locs hP hD hS => ?_)
  have hP : va_P (dC, dI) vwCl ((W_M cI cZ q_s q_s_lane q_s_many q_s_item q_s_isle q_s_fresh q_s_then q_s_was q_s_tape q_s_isKept q_s_kept q_s_trace 0 s_status s_lane s_many s_item s_isle s_fresh s_then s_was s_acts s_tape s_taped s_cursor s_start s_token s_value s_fault s_faultAt s_latest s_isKept s_kept s_trace s_traced)) H := hP
  have hD : va_D A ((W_M cI cZ q_s q_s_lane q_s_many q_s_item q_s_isle q_s_fresh q_s_then q_s_was q_s_tape q_s_isKept q_s_kept q_s_trace 0 s_status s_lane s_many s_item s_isle s_fresh s_then s_was s_acts s_tape s_taped s_cursor s_start s_token s_value s_fault s_faultAt s_latest s_isKept s_kept s_trace s_traced)) := hD
  refine lv_iload_n hx hb dX9_feed_5 rfl (lv_at hl 1 rfl) ?_
  refine lv_i2l hx hb dX9_feed_6 rfl ?_
  refine lv_lconst (v := 0) hx hb dX9_feed_7 (by decide) ?_
  refine lv_ldc2 hx hb hown w_2 dX9_feed_8 ?_
  obtain ⟨r_1, hc_1, h⟩ := bd1_of h
  refine cl_pS (As := [.long v1.toInt64, .long 0, .long 255]) (rest := []) ⟨hx, hb, hml, hown, hts⟩ (m_X9_in l v1.toInt64 0 255 (r_1) hc_1) (va_cwS 3 hts gX9_feed_X9_in rfl rfl rfl ddX9_in ⟨Nat.le_of_ble_eq_true rfl, Nat.le_of_ble_eq_true rfl⟩) rfl rfl hl.1 (Nat.le_of_ble_eq_true rfl) ⟨Nat.zero_le _, Nat.zero_le _⟩ dX9_feed_11 ?_
  refine lv_if_ne (tgt := 20) hx hb dX9_feed_14 (by decide) (fun c_2 => ?_) (fun c_2 => ?_)
  · have h := (if_neg c_2).symm.trans h
    refine lv_aload_n hx hb dX9_feed_20 rfl (lv_at hl 0 rfl) ?_
    refine va_get (D := (dC, dI)) (ci := 7) (v := .int s_taped) (C := RX9) (T := TX9) (N := 23) hx hb hts w_1 hown hK hP 0 rfl rfl 11 (by decide) w_3 (fun _ h9 => h9) rfl dX9_feed_21 ?_
    refine lv_bipush (v := 100) hx hb dX9_feed_24 (by decide) ?_
    refine lv_icmp_ne (tgt := 32) hx hb dX9_feed_26 (by decide) (fun c_3 => ?_) (fun c_3 => ?_)
    · have h := (if_neg c_3).symm.trans h
      refine lv_aload_n hx hb dX9_feed_32 rfl (lv_at hl 0 rfl) ?_
      refine va_get (D := (dC, dI)) (ci := 7) (v := .ref q_s_tape) (C := RX9) (T := TX9) (N := 23) hx hb hts w_1 hown hK hP 0 rfl rfl 10 (by decide) w_4 (fun _ h9 => h9) rfl dX9_feed_33 ?_
      refine lv_aload_n hx hb dX9_feed_36 rfl (lv_at hl 0 rfl) ?_
      refine va_get (D := (dC, dI)) (ci := 7) (v := .int s_taped) (C := RX9) (T := TX9) (N := 23) hx hb hts w_1 hown hK hP 0 rfl rfl 11 (by decide) w_3 (fun _ h9 => h9) rfl dX9_feed_37 ?_
      refine lv_iload_n hx hb dX9_feed_40 rfl (lv_at hl 1 rfl) ?_
      obtain ⟨b_4, h⟩ := chk_of h
      refine va_iast hx hb hK hP hD hS 8 0 rfl rfl (i := s_taped) (x := v1) b_4 dX9_feed_41 (fun H locs hP hD hS => ?_)
      have hP : va_P (dC, dI) vwCl ((W_M cI cZ q_s q_s_lane q_s_many q_s_item q_s_isle q_s_fresh q_s_then q_s_was q_s_tape q_s_isKept q_s_kept q_s_trace 0 s_status s_lane s_many s_item s_isle s_fresh s_then s_was s_acts (upd s_tape s_taped.toNatClampNeg v1) s_taped s_cursor s_start s_token s_value s_fault s_faultAt s_latest s_isKept s_kept s_trace s_traced)) H := hP
      have hD : va_D A ((W_M cI cZ q_s q_s_lane q_s_many q_s_item q_s_isle q_s_fresh q_s_then q_s_was q_s_tape q_s_isKept q_s_kept q_s_trace 0 s_status s_lane s_many s_item s_isle s_fresh s_then s_was s_acts (upd s_tape s_taped.toNatClampNeg v1) s_taped s_cursor s_start s_token s_value s_fault s_faultAt s_latest s_isKept s_kept s_trace s_traced)) := hD
      refine lv_aload_n hx hb dX9_feed_42 rfl (lv_at hl 0 rfl) ?_
      refine lv_dup hx hb dX9_feed_43 rfl ?_
      refine va_get (D := (dC, dI)) (ci := 7) (v := .int s_taped) (C := RX9) (T := TX9) (N := 23) hx hb hts w_1 hown hK hP 0 rfl rfl 11 (by decide) w_3 (fun _ h9 => h9) rfl dX9_feed_44 ?_
      refine lv_iconst (v := 1) hx hb dX9_feed_47 (by decide) ?_
      refine lv_iadd hx hb dX9_feed_48 ?_
      refine va_put (D := (dC, dI)) (ci := 7) (v := .int (s_taped + 1)) (ty := .int) (C := RX9) (T := TX9) (N := 23) hx hb hts w_1 tyX9 tyX9_ok nmX9 hown hK hP hD hS 0 rfl rfl 11 (by decide) w_3 (fun _ h9 => h9) rfl (by decide +kernel) rfl rfl (Nat.le_of_ble_eq_true rfl) dX9_feed_49 (fun H locs hP hD hS => ?_)
      have hP : va_P (dC, dI) vwCl ((W_M cI cZ q_s q_s_lane q_s_many q_s_item q_s_isle q_s_fresh q_s_then q_s_was q_s_tape q_s_isKept q_s_kept q_s_trace 0 s_status s_lane s_many s_item s_isle s_fresh s_then s_was s_acts (upd s_tape s_taped.toNatClampNeg v1) (s_taped + 1) s_cursor s_start s_token s_value s_fault s_faultAt s_latest s_isKept s_kept s_trace s_traced)) H := hP
      have hD : va_D A ((W_M cI cZ q_s q_s_lane q_s_many q_s_item q_s_isle q_s_fresh q_s_then q_s_was q_s_tape q_s_isKept q_s_kept q_s_trace 0 s_status s_lane s_many s_item s_isle s_fresh s_then s_was s_acts (upd s_tape s_taped.toNatClampNeg v1) (s_taped + 1) s_cursor s_start s_token s_value s_fault s_faultAt s_latest s_isKept s_kept s_trace s_traced)) := hD
      refine lv_aload_n hx hb dX9_feed_52 rfl (lv_at hl 0 rfl) ?_
      refine va_get (D := (dC, dI)) (ci := 7) (v := .int (s_taped + 1)) (C := RX9) (T := TX9) (N := 23) hx hb hts w_1 hown hK hP 0 rfl rfl 11 (by decide) w_3 (fun _ h9 => h9) rfl dX9_feed_53 ?_
      have h := Option.some.inj h
      subst h
      rw [hQQ]
      subst hAe
      exact W.iret (v := (s_taped + 1)) hx hb hr (fun t ht hW => ⟨⟨_, (), rfl, rfl, by rw [ht]; exact hP, va_K.moved hW.alike hK, hD⟩, hS.F ht⟩) hS.2.2 dX9_feed_56
    · have h := (if_pos c_3).symm.trans h
      refine lv_ldc hx hb hown w_5 dX9_feed_29 ?_
      have h := Option.some.inj h
      subst h
      rw [hQQ]
      subst hAe
      exact W.iret (v := (-1000003)) hx hb hr (fun t ht hW => ⟨⟨_, (), rfl, rfl, by rw [ht]; exact hP, va_K.moved hW.alike hK, hD⟩, hS.F ht⟩) hS.2.2 dX9_feed_31
  · have h := (if_pos c_2).symm.trans h
    refine lv_ldc hx hb hown w_6 dX9_feed_17 ?_
    have h := Option.some.inj h
    subst h
    rw [hQQ]
    subst hAe
    exact W.iret (v := (-1000001)) hx hb hr (fun t ht hW => ⟨⟨_, (), rfl, rfl, by rw [ht]; exact hP, va_K.moved hW.alike hK, hD⟩, hS.F ht⟩) hS.2.2 dX9_feed_19
def fX9_bad (s_start : Int32) (s_fault : Int32) (s_faultAt : Int32) (v1 : Int32) : Option (Int32 × Int32) :=
  (if s_fault = 0 then some (v1, s_start) else some (s_fault, s_faultAt))
abbrev rmX9_bad : Room := { frames := 0, cells := 0, slots := 0, locals := 0 }
theorem ddX9_bad : yX9_bad.cls ≠ "java/lang/invoke/MethodHandle" ∧ yX9_bad.cls ≠ "java/lang/invoke/VarHandle" ∧ (parseMethodDescriptor yX9_bad.desc).map (fun d => d.parameters.length) = some 1 := by decide +kernel
set_option maxHeartbeats 4000000 in
set_option maxRecDepth 100000 in
theorem m_X9_bad (l : Launch) (dC : Nat → ClassId) (dI : Nat → Nat → Nat) (cI cZ : ClassId) (q_s q_s_lane q_s_many q_s_item q_s_isle q_s_fresh q_s_then q_s_was q_s_tape q_s_isKept q_s_kept q_s_trace : Nat) (s_thrown : Int32) (s_status : Int32) (s_lane : (Nat → Int32)) (s_many : (Nat → Int32)) (s_item : (Nat → Int32)) (s_isle : (Nat → Int32)) (s_fresh : (Nat → Int32)) (s_then : (Nat → Int32)) (s_was : (Nat → Int32)) (s_acts : Int32) (s_tape : (Nat → Int32)) (s_taped : Int32) (s_cursor : Int32) (s_start : Int32) (s_token : Int32) (s_value : Int32) (s_fault : Int32) (s_faultAt : Int32) (s_latest : Int32) (s_isKept : (Nat → Int32)) (s_kept : (Nat → Int32)) (s_trace : (Nat → Int32)) (s_traced : Int32) (v1 : Int32) (sz : Nat) (res : Int32 × Int32) (hf : fX9_bad s_start s_fault s_faultAt v1 = some res) : Met l yX9_bad wsX9_bad rmX9_bad (mtPc (dC, dI) (tyZ cI cZ) ((W_M cI cZ q_s q_s_lane q_s_many q_s_item q_s_isle q_s_fresh q_s_then q_s_was q_s_tape q_s_isKept q_s_kept q_s_trace s_thrown s_status s_lane s_many s_item s_isle s_fresh s_then s_was s_acts s_tape s_taped s_cursor s_start s_token s_value s_fault s_faultAt s_latest s_isKept s_kept s_trace s_traced)) [.ref q_s, .int v1] sz) (mtQv (dC, dI) (tyZ cI cZ) ((W_M cI cZ q_s q_s_lane q_s_many q_s_item q_s_isle q_s_fresh q_s_then q_s_was q_s_tape q_s_isKept q_s_kept q_s_trace s_thrown s_status s_lane s_many s_item s_isle s_fresh s_then s_was s_acts s_tape s_taped s_cursor s_start s_token s_value s_fault s_faultAt s_latest s_isKept s_kept s_trace s_traced)) ((W_M cI cZ q_s q_s_lane q_s_many q_s_item q_s_isle q_s_fresh q_s_then q_s_was q_s_tape q_s_isKept q_s_kept q_s_trace s_thrown s_status s_lane s_many s_item s_isle s_fresh s_then s_was s_acts s_tape s_taped s_cursor s_start s_token s_value res.1 res.2 s_latest s_isKept s_kept s_trace s_traced)) sz) 0 0 (va_A ((W_M cI cZ q_s q_s_lane q_s_many q_s_item q_s_isle q_s_fresh q_s_then q_s_was q_s_tape q_s_isKept q_s_kept q_s_trace s_thrown s_status s_lane s_many s_item s_isle s_fresh s_then s_was s_acts s_tape s_taped s_cursor s_start s_token s_value s_fault s_faultAt s_latest s_isKept s_kept s_trace s_traced)) sz) := by
  refine Met.ofW (cc := cX9_bad) (maxL := 2) (ret := none) (by decide) rfl ?_
  intro p e s m args below meth c s₁ B hml hv
  obtain ⟨rfl, hsz, hP, hK, hD0⟩ := hv
  have hx := B.exec
  have hb := B.bytes
  have hr := B.returns
  have hts := atoms_spec (ws := wsX9_bad) B.pre
  have hown : s.vm.findClass RX9 = some m.cls := findClass_of_methodNamed B.named
  have hlocks := B.notSynchronized
  subst hsz
  have hD := hD0.self (sz := s.heap.size)
  obtain ⟨A, hAe⟩ : ∃ A, A = va_A ((W_M cI cZ q_s q_s_lane q_s_many q_s_item q_s_isle q_s_fresh q_s_then q_s_was q_s_tape q_s_isKept q_s_kept q_s_trace s_thrown s_status s_lane s_many s_item s_isle s_fresh s_then s_was s_acts s_tape s_taped s_cursor s_start s_token s_value s_fault s_faultAt s_latest s_isKept s_kept s_trace s_traced)) s.heap.size := ⟨_, rfl⟩
  rw [← hAe] at hD
  have hA : ∀ q : Nat, s.heap.size ≤ q → A q := fun q h => by rw [hAe]; exact Or.inr h
  have hS : va_S A s.heap s.heap [] := va_S.rf
  have hl := lv_entry ([.ref q_s, .int v1]) (n := 2) (Nat.le_of_ble_eq_true rfl)
  rw [lg_entry_eq]
  generalize (lg_sl ([.ref q_s, .int v1]) ++ List.replicate (2 - (lg_sl ([.ref q_s, .int v1])).length) Slot.unset).toArray = ls at hl ⊢
  have hl : lv_has ls 2 [(0, .ref q_s), (1, .int v1)] := hl
  obtain ⟨QQ, hQQ⟩ : ∃ Q, Q = MQ below (mtQv (dC, dI) (tyZ cI cZ) ((W_M cI cZ q_s q_s_lane q_s_many q_s_item q_s_isle q_s_fresh q_s_then q_s_was q_s_tape q_s_isKept q_s_kept q_s_trace s_thrown s_status s_lane s_many s_item s_isle s_fresh s_then s_was s_acts s_tape s_taped s_cursor s_start s_token s_value s_fault s_faultAt s_latest s_isKept s_kept s_trace s_traced)) ((W_M cI cZ q_s q_s_lane q_s_many q_s_item q_s_isle q_s_fresh q_s_then q_s_was q_s_tape q_s_isKept q_s_kept q_s_trace s_thrown s_status s_lane s_many s_item s_isle s_fresh s_then s_was s_acts s_tape s_taped s_cursor s_start s_token s_value res.1 res.2 s_latest s_isKept s_kept s_trace s_traced)) s.heap.size) ([.ref q_s, .int v1] : List Value).toArray s 0 0 (va_A ((W_M cI cZ q_s q_s_lane q_s_many q_s_item q_s_isle q_s_fresh q_s_then q_s_was q_s_tape q_s_isKept q_s_kept q_s_trace s_thrown s_status s_lane s_many s_item s_isle s_fresh s_then s_was s_acts s_tape s_taped s_cursor s_start s_token s_value s_fault s_faultAt s_latest s_isKept s_kept s_trace s_traced)) s.heap.size) := ⟨_, rfl⟩
  rw [← hQQ]
  have w_0 := hts (Cond.fieldLink RX9 75 "TideInchesModel" "fault" "I") (List.mem_of_getElem? (i := 1) rfl)
  have w_1 := (fun w hw => List.mem_cons_of_mem _ (List.mem_append_right _ hw) : ∀ w ∈ wsX90, w ∈ wsX9_bad)
  have w_2 := hts (Cond.fieldLink RX9 78 "TideInchesModel" "start" "I") (List.mem_of_getElem? (i := 2) rfl)
  have w_3 := hts (Cond.fieldLink RX9 81 "TideInchesModel" "faultAt" "I") (List.mem_of_getElem? (i := 3) rfl)
  have h := hf
  unfold fX9_bad at h
  refine lv_aload_n hx hb dX9_bad_0 rfl (lv_at hl 0 rfl) ?_
  refine va_get (D := (dC, dI)) (ci := 7) (v := .int s_fault) (C := RX9) (T := TX9) (N := 23) hx hb hts w_1 hown hK hP 0 rfl rfl 16 (by decide) w_0 (fun _ h9 => h9) rfl dX9_bad_1 ?_
  refine lv_if_ne (tgt := 20) hx hb dX9_bad_4 (by decide) (fun c_1 => ?_) (fun c_1 => ?_)
  · have h := (if_neg c_1).symm.trans h
    have h := Option.some.inj h
    subst h
    rw [hQQ]
    subst hAe
    exact W.vret hx hb hr (fun t ht hW => ⟨⟨(), rfl, trivial, by rw [ht]; exact hP, va_K.moved hW.alike hK, hD⟩, hS.F ht⟩) hS.2.2 dX9_bad_20
  · have h := (if_pos c_1).symm.trans h
    refine lv_aload_n hx hb dX9_bad_7 rfl (lv_at hl 0 rfl) ?_
    refine lv_iload_n hx hb dX9_bad_8 rfl (lv_at hl 1 rfl) ?_
    refine va_put (D := (dC, dI)) (ci := 7) (v := .int v1) (ty := .int) (C := RX9) (T := TX9) (N := 23) hx hb hts w_1 tyX9 tyX9_ok nmX9 hown hK hP hD hS 0 rfl rfl 16 (by decide) w_0 (fun _ h9 => h9) rfl (by decide +kernel) rfl rfl (Nat.le_of_ble_eq_true rfl) dX9_bad_9 (fun H locs hP hD hS => ?_)
    have hP : va_P (dC, dI) vwCl ((W_M cI cZ q_s q_s_lane q_s_many q_s_item q_s_isle q_s_fresh q_s_then q_s_was q_s_tape q_s_isKept q_s_kept q_s_trace s_thrown s_status s_lane s_many s_item s_isle s_fresh s_then s_was s_acts s_tape s_taped s_cursor s_start s_token s_value v1 s_faultAt s_latest s_isKept s_kept s_trace s_traced)) H := hP
    have hD : va_D A ((W_M cI cZ q_s q_s_lane q_s_many q_s_item q_s_isle q_s_fresh q_s_then q_s_was q_s_tape q_s_isKept q_s_kept q_s_trace s_thrown s_status s_lane s_many s_item s_isle s_fresh s_then s_was s_acts s_tape s_taped s_cursor s_start s_token s_value v1 s_faultAt s_latest s_isKept s_kept s_trace s_traced)) := hD
    refine lv_aload_n hx hb dX9_bad_12 rfl (lv_at hl 0 rfl) ?_
    refine lv_aload_n hx hb dX9_bad_13 rfl (lv_at hl 0 rfl) ?_
    refine va_get (D := (dC, dI)) (ci := 7) (v := .int s_start) (C := RX9) (T := TX9) (N := 23) hx hb hts w_1 hown hK hP 0 rfl rfl 13 (by decide) w_2 (fun _ h9 => h9) rfl dX9_bad_14 ?_
    refine va_put (D := (dC, dI)) (ci := 7) (v := .int s_start) (ty := .int) (C := RX9) (T := TX9) (N := 23) hx hb hts w_1 tyX9 tyX9_ok nmX9 hown hK hP hD hS 0 rfl rfl 17 (by decide) w_3 (fun _ h9 => h9) rfl (by decide +kernel) rfl rfl (Nat.le_of_ble_eq_true rfl) dX9_bad_17 (fun H locs hP hD hS => ?_)
    have hP : va_P (dC, dI) vwCl ((W_M cI cZ q_s q_s_lane q_s_many q_s_item q_s_isle q_s_fresh q_s_then q_s_was q_s_tape q_s_isKept q_s_kept q_s_trace s_thrown s_status s_lane s_many s_item s_isle s_fresh s_then s_was s_acts s_tape s_taped s_cursor s_start s_token s_value v1 s_start s_latest s_isKept s_kept s_trace s_traced)) H := hP
    have hD : va_D A ((W_M cI cZ q_s q_s_lane q_s_many q_s_item q_s_isle q_s_fresh q_s_then q_s_was q_s_tape q_s_isKept q_s_kept q_s_trace s_thrown s_status s_lane s_many s_item s_isle s_fresh s_then s_was s_acts s_tape s_taped s_cursor s_start s_token s_value v1 s_start s_latest s_isKept s_kept s_trace s_traced)) := hD
    have h := Option.some.inj h
    subst h
    rw [hQQ]
    subst hAe
    exact W.vret hx hb hr (fun t ht hW => ⟨⟨(), rfl, trivial, by rw [ht]; exact hP, va_K.moved hW.alike hK, hD⟩, hS.F ht⟩) hS.2.2 dX9_bad_20
def fX9_nextToken_L165 (s_tape : (Nat → Int32)) (s_taped : Int32) (s_cursor : Int32) (k165_255 : Int32 → Int32 → Option (Int32 × Int32 × Int32 × Int32)) : Nat → Int32 → Int32 → Option (Int32 × Int32 × Int32 × Int32)
  | 0, _, _ => none
  | n + 1, s_cursor_h165, s_value_h165 => (if s_taped ≤ s_cursor_h165 then (k165_255 s_cursor_h165 s_value_h165) else chk (¬ (s_cursor_h165 < 0 ∨ 100 ≤ s_cursor_h165.toNatClampNeg)) (bd1 (fX9_in ((s_tape s_cursor_h165.toNatClampNeg).toInt64) 48 57) (fun r_4 => (if r_4 = 0 then (k165_255 s_cursor_h165 s_value_h165) else (if 2 ≤ (s_cursor_h165 - s_cursor) then ((fX9_nextToken_L165 s_tape s_taped s_cursor k165_255 n) (s_cursor_h165 + 1) s_value_h165) else chk (¬ (s_cursor_h165 < 0 ∨ 100 ≤ s_cursor_h165.toNatClampNeg)) (((fX9_nextToken_L165 s_tape s_taped s_cursor k165_255 n) (s_cursor_h165 + 1) (((10 * s_value_h165) + (s_tape s_cursor_h165.toNatClampNeg)) - 48))))))))
def fX9_nextToken_J142 (s_tape : (Nat → Int32)) (s_taped : Int32) (s_cursor : Int32) (w0_j34 : Int32) (w0_j118 : Int32) (w0_j142 : Int32) : Option (Int32 × Int32 × Int32 × Int32) :=
  (if w0_j118 = 3 then (fX9_nextToken_L165 s_tape s_taped s_cursor (fun s_cursor_e255 s_value_e255 => (if (s_cursor_e255 - s_cursor) ≤ 2 then some (s_cursor_e255, s_cursor, 3, s_value_e255) else some (s_cursor_e255, s_cursor, 0, s_value_e255))) FU (s_cursor + w0_j142) (w0_j34 - 48)) else some ((s_cursor + w0_j142), s_cursor, w0_j118, w0_j34))
def fX9_nextToken_J118 (s_tape : (Nat → Int32)) (s_taped : Int32) (s_cursor : Int32) (w0_j34 : Int32) (w0_j118 : Int32) : Option (Int32 × Int32 × Int32 × Int32) :=
  (if s_taped ≤ s_cursor then (fX9_nextToken_J142 s_tape s_taped s_cursor w0_j34 w0_j118 0) else (fX9_nextToken_J142 s_tape s_taped s_cursor w0_j34 w0_j118 1))
def fX9_nextToken_J34 (s_tape : (Nat → Int32)) (s_taped : Int32) (s_cursor : Int32) (w0_j34 : Int32) : Option (Int32 × Int32 × Int32 × Int32) :=
  (if s_cursor = s_taped then (fX9_nextToken_J118 s_tape s_taped s_cursor w0_j34 1) else bd1 (fX9_in w0_j34.toInt64 97 122) (fun r_11 => (if r_11 = 0 then bd1 (fX9_in w0_j34.toInt64 48 57) (fun r_13 => (if r_13 = 0 then (if w0_j34 = 44 then (fX9_nextToken_J118 s_tape s_taped s_cursor w0_j34 4) else (if w0_j34 = 59 then (fX9_nextToken_J118 s_tape s_taped s_cursor w0_j34 4) else (fX9_nextToken_J118 s_tape s_taped s_cursor w0_j34 0))) else (fX9_nextToken_J118 s_tape s_taped s_cursor w0_j34 3))) else (fX9_nextToken_J118 s_tape s_taped s_cursor w0_j34 2))))
def fX9_nextToken (s_tape : (Nat → Int32)) (s_taped : Int32) (s_cursor : Int32) : Option (Int32 × Int32 × Int32 × Int32) :=
  (if s_taped ≤ s_cursor then (fX9_nextToken_J34 s_tape s_taped s_cursor (-1000000)) else chk (¬ (s_cursor < 0 ∨ 100 ≤ s_cursor.toNatClampNeg)) ((fX9_nextToken_J34 s_tape s_taped s_cursor (s_tape s_cursor.toNatClampNeg))))
abbrev rmX9_nextToken : Room := { frames := 1, cells := 0, slots := 0, locals := 25 }
theorem ddX9_nextToken : yX9_nextToken.cls ≠ "java/lang/invoke/MethodHandle" ∧ yX9_nextToken.cls ≠ "java/lang/invoke/VarHandle" ∧ (parseMethodDescriptor yX9_nextToken.desc).map (fun d => d.parameters.length) = some 0 := by decide +kernel
set_option maxHeartbeats 4000000 in
set_option maxRecDepth 100000 in
theorem m_X9_nextToken (l : Launch) (dC : Nat → ClassId) (dI : Nat → Nat → Nat) (cI cZ : ClassId) (q_s q_s_lane q_s_many q_s_item q_s_isle q_s_fresh q_s_then q_s_was q_s_tape q_s_isKept q_s_kept q_s_trace : Nat) (s_thrown : Int32) (s_status : Int32) (s_lane : (Nat → Int32)) (s_many : (Nat → Int32)) (s_item : (Nat → Int32)) (s_isle : (Nat → Int32)) (s_fresh : (Nat → Int32)) (s_then : (Nat → Int32)) (s_was : (Nat → Int32)) (s_acts : Int32) (s_tape : (Nat → Int32)) (s_taped : Int32) (s_cursor : Int32) (s_start : Int32) (s_token : Int32) (s_value : Int32) (s_fault : Int32) (s_faultAt : Int32) (s_latest : Int32) (s_isKept : (Nat → Int32)) (s_kept : (Nat → Int32)) (s_trace : (Nat → Int32)) (s_traced : Int32) (sz : Nat) (res : Int32 × Int32 × Int32 × Int32) (hf : fX9_nextToken s_tape s_taped s_cursor = some res) : Met l yX9_nextToken wsX9_nextToken rmX9_nextToken (mtPc (dC, dI) (tyZ cI cZ) ((W_M cI cZ q_s q_s_lane q_s_many q_s_item q_s_isle q_s_fresh q_s_then q_s_was q_s_tape q_s_isKept q_s_kept q_s_trace s_thrown s_status s_lane s_many s_item s_isle s_fresh s_then s_was s_acts s_tape s_taped s_cursor s_start s_token s_value s_fault s_faultAt s_latest s_isKept s_kept s_trace s_traced)) [.ref q_s] sz) (mtQv (dC, dI) (tyZ cI cZ) ((W_M cI cZ q_s q_s_lane q_s_many q_s_item q_s_isle q_s_fresh q_s_then q_s_was q_s_tape q_s_isKept q_s_kept q_s_trace s_thrown s_status s_lane s_many s_item s_isle s_fresh s_then s_was s_acts s_tape s_taped s_cursor s_start s_token s_value s_fault s_faultAt s_latest s_isKept s_kept s_trace s_traced)) ((W_M cI cZ q_s q_s_lane q_s_many q_s_item q_s_isle q_s_fresh q_s_then q_s_was q_s_tape q_s_isKept q_s_kept q_s_trace s_thrown s_status s_lane s_many s_item s_isle s_fresh s_then s_was s_acts s_tape s_taped res.1 res.2.1 res.2.2.1 res.2.2.2 s_fault s_faultAt s_latest s_isKept s_kept s_trace s_traced)) sz) 0 0 (va_A ((W_M cI cZ q_s q_s_lane q_s_many q_s_item q_s_isle q_s_fresh q_s_then q_s_was q_s_tape q_s_isKept q_s_kept q_s_trace s_thrown s_status s_lane s_many s_item s_isle s_fresh s_then s_was s_acts s_tape s_taped s_cursor s_start s_token s_value s_fault s_faultAt s_latest s_isKept s_kept s_trace s_traced)) sz) := by
  refine Met.ofW (cc := cX9_nextToken) (maxL := 1) (ret := none) (by decide) rfl ?_
  intro p e s m args below meth c s₁ B hml hv
  obtain ⟨rfl, hsz, hP, hK, hD0⟩ := hv
  have hx := B.exec
  have hb := B.bytes
  have hr := B.returns
  have hts := atoms_spec (ws := wsX9_nextToken) B.pre
  have hown : s.vm.findClass RX9 = some m.cls := findClass_of_methodNamed B.named
  have hlocks := B.notSynchronized
  subst hsz
  have hD := hD0.self (sz := s.heap.size)
  obtain ⟨A, hAe⟩ : ∃ A, A = va_A ((W_M cI cZ q_s q_s_lane q_s_many q_s_item q_s_isle q_s_fresh q_s_then q_s_was q_s_tape q_s_isKept q_s_kept q_s_trace s_thrown s_status s_lane s_many s_item s_isle s_fresh s_then s_was s_acts s_tape s_taped s_cursor s_start s_token s_value s_fault s_faultAt s_latest s_isKept s_kept s_trace s_traced)) s.heap.size := ⟨_, rfl⟩
  rw [← hAe] at hD
  have hA : ∀ q : Nat, s.heap.size ≤ q → A q := fun q h => by rw [hAe]; exact Or.inr h
  have hS : va_S A s.heap s.heap [] := va_S.rf
  have hl := lv_entry ([.ref q_s]) (n := 1) (Nat.le_of_ble_eq_true rfl)
  rw [lg_entry_eq]
  generalize (lg_sl ([.ref q_s]) ++ List.replicate (1 - (lg_sl ([.ref q_s])).length) Slot.unset).toArray = ls at hl ⊢
  have hl : lv_has ls 1 [(0, .ref q_s)] := hl
  obtain ⟨QQ, hQQ⟩ : ∃ Q, Q = MQ below (mtQv (dC, dI) (tyZ cI cZ) ((W_M cI cZ q_s q_s_lane q_s_many q_s_item q_s_isle q_s_fresh q_s_then q_s_was q_s_tape q_s_isKept q_s_kept q_s_trace s_thrown s_status s_lane s_many s_item s_isle s_fresh s_then s_was s_acts s_tape s_taped s_cursor s_start s_token s_value s_fault s_faultAt s_latest s_isKept s_kept s_trace s_traced)) ((W_M cI cZ q_s q_s_lane q_s_many q_s_item q_s_isle q_s_fresh q_s_then q_s_was q_s_tape q_s_isKept q_s_kept q_s_trace s_thrown s_status s_lane s_many s_item s_isle s_fresh s_then s_was s_acts s_tape s_taped res.1 res.2.1 res.2.2.1 res.2.2.2 s_fault s_faultAt s_latest s_isKept s_kept s_trace s_traced)) s.heap.size) ([.ref q_s] : List Value).toArray s 0 0 (va_A ((W_M cI cZ q_s q_s_lane q_s_many q_s_item q_s_isle q_s_fresh q_s_then q_s_was q_s_tape q_s_isKept q_s_kept q_s_trace s_thrown s_status s_lane s_many s_item s_isle s_fresh s_then s_was s_acts s_tape s_taped s_cursor s_start s_token s_value s_fault s_faultAt s_latest s_isKept s_kept s_trace s_traced)) s.heap.size) := ⟨_, rfl⟩
  rw [← hQQ]
  have w_0 := hts (Cond.fieldLink RX9 84 "TideInchesModel" "cursor" "I") (List.mem_of_getElem? (i := 1) rfl)
  have w_1 := (fun w hw => List.mem_cons_of_mem _ (List.mem_append_right _ hw) : ∀ w ∈ wsX90, w ∈ wsX9_nextToken)
  have w_2 := hts (Cond.fieldLink RX9 78 "TideInchesModel" "start" "I") (List.mem_of_getElem? (i := 2) rfl)
  have w_3 := hts (Cond.fieldLink RX9 71 "TideInchesModel" "taped" "I") (List.mem_of_getElem? (i := 3) rfl)
  have w_4 := hts (Cond.fieldLink RX9 88 "TideInchesModel" "value" "I") (List.mem_of_getElem? (i := 6) rfl)
  have w_5 := hts (Cond.fieldLink RX9 99 "TideInchesModel" "token" "I") (List.mem_of_getElem? (i := 11) rfl)
  have w_6 := hts (Cond.fieldLink RX9 31 "TideInchesModel" "tape" "[I") (List.mem_of_getElem? (i := 4) rfl)
  have w_7 := hts (Cond.constantLong RX9 95 (48)) (List.mem_of_getElem? (i := 9) rfl)
  have w_8 := hts (Cond.constantLong RX9 97 (57)) (List.mem_of_getElem? (i := 10) rfl)
  have w_9 := hts (Cond.constantLong RX9 91 (97)) (List.mem_of_getElem? (i := 7) rfl)
  have w_10 := hts (Cond.constantLong RX9 93 (122)) (List.mem_of_getElem? (i := 8) rfl)
  have w_11 := hts (Cond.constant RX9 87 (-1000000)) (List.mem_of_getElem? (i := 5) rfl)
  have h := hf
  unfold fX9_nextToken at h
  refine lv_aload_n hx hb dX9_nextToken_0 rfl (lv_at hl 0 rfl) ?_
  refine lv_aload_n hx hb dX9_nextToken_1 rfl (lv_at hl 0 rfl) ?_
  refine va_get (D := (dC, dI)) (ci := 7) (v := .int s_cursor) (C := RX9) (T := TX9) (N := 23) hx hb hts w_1 hown hK hP 0 rfl rfl 12 (by decide) w_0 (fun _ h9 => h9) rfl dX9_nextToken_2 ?_
  refine va_put (D := (dC, dI)) (ci := 7) (v := .int s_cursor) (ty := .int) (C := RX9) (T := TX9) (N := 23) hx hb hts w_1 tyX9 tyX9_ok nmX9 hown hK hP hD hS 0 rfl rfl 13 (by decide) w_2 (fun _ h9 => h9) rfl (by decide +kernel) rfl rfl (Nat.le_of_ble_eq_true rfl) dX9_nextToken_5 (fun H locs hP hD hS => ?_)
  have hP : va_P (dC, dI) vwCl ((W_M cI cZ q_s q_s_lane q_s_many q_s_item q_s_isle q_s_fresh q_s_then q_s_was q_s_tape q_s_isKept q_s_kept q_s_trace s_thrown s_status s_lane s_many s_item s_isle s_fresh s_then s_was s_acts s_tape s_taped s_cursor s_cursor s_token s_value s_fault s_faultAt s_latest s_isKept s_kept s_trace s_traced)) H := hP
  have hD : va_D A ((W_M cI cZ q_s q_s_lane q_s_many q_s_item q_s_isle q_s_fresh q_s_then q_s_was q_s_tape q_s_isKept q_s_kept q_s_trace s_thrown s_status s_lane s_many s_item s_isle s_fresh s_then s_was s_acts s_tape s_taped s_cursor s_cursor s_token s_value s_fault s_faultAt s_latest s_isKept s_kept s_trace s_traced)) := hD
  refine lv_aload_n hx hb dX9_nextToken_8 rfl (lv_at hl 0 rfl) ?_
  refine lv_aload_n hx hb dX9_nextToken_9 rfl (lv_at hl 0 rfl) ?_
  refine va_get (D := (dC, dI)) (ci := 7) (v := .int s_cursor) (C := RX9) (T := TX9) (N := 23) hx hb hts w_1 hown hK hP 0 rfl rfl 12 (by decide) w_0 (fun _ h9 => h9) rfl dX9_nextToken_10 ?_
  refine lv_aload_n hx hb dX9_nextToken_13 rfl (lv_at hl 0 rfl) ?_
  refine va_get (D := (dC, dI)) (ci := 7) (v := .int s_taped) (C := RX9) (T := TX9) (N := 23) hx hb hts w_1 hown hK hP 0 rfl rfl 11 (by decide) w_3 (fun _ h9 => h9) rfl dX9_nextToken_14 ?_
  have KJ34 : ∀ (w0_j34 : Int32) (H : Heap) (locs : List Loc) (ls : Array Slot), va_P (dC, dI) vwCl ((W_M cI cZ q_s q_s_lane q_s_many q_s_item q_s_isle q_s_fresh q_s_then q_s_was q_s_tape q_s_isKept q_s_kept q_s_trace s_thrown s_status s_lane s_many s_item s_isle s_fresh s_then s_was s_acts s_tape s_taped s_cursor s_cursor s_token s_value s_fault s_faultAt s_latest s_isKept s_kept s_trace s_traced)) H → va_D A ((W_M cI cZ q_s q_s_lane q_s_many q_s_item q_s_isle q_s_fresh q_s_then q_s_was q_s_tape q_s_isKept q_s_kept q_s_trace s_thrown s_status s_lane s_many s_item s_isle s_fresh s_then s_was s_acts s_tape s_taped s_cursor s_cursor s_token s_value s_fault s_faultAt s_latest s_isKept s_kept s_trace s_traced)) → va_S A s.heap H locs → lv_has ls 1 [(0, .ref q_s)] → fX9_nextToken_J34 s_tape s_taped s_cursor w0_j34 = some res → W p l e (headSpec wsX9_nextToken rmX9_nextToken).room s m ([.ref q_s] : List Value).toArray below meth c H locs 0 0 QQ (F0 m 34 ls [.int w0_j34, .ref q_s]) := by
    intro w0_j34 H locs ls hP hD hS hl h
    unfold fX9_nextToken_J34 at h
    refine va_put (D := (dC, dI)) (ci := 7) (v := .int w0_j34) (ty := .int) (C := RX9) (T := TX9) (N := 23) hx hb hts w_1 tyX9 tyX9_ok nmX9 hown hK hP hD hS 0 rfl rfl 15 (by decide) w_4 (fun _ h9 => h9) rfl (by decide +kernel) rfl rfl (Nat.le_of_ble_eq_true rfl) dX9_nextToken_34 (fun H locs hP hD hS => ?_)
    have hP : va_P (dC, dI) vwCl ((W_M cI cZ q_s q_s_lane q_s_many q_s_item q_s_isle q_s_fresh q_s_then q_s_was q_s_tape q_s_isKept q_s_kept q_s_trace s_thrown s_status s_lane s_many s_item s_isle s_fresh s_then s_was s_acts s_tape s_taped s_cursor s_cursor s_token w0_j34 s_fault s_faultAt s_latest s_isKept s_kept s_trace s_traced)) H := hP
    have hD : va_D A ((W_M cI cZ q_s q_s_lane q_s_many q_s_item q_s_isle q_s_fresh q_s_then q_s_was q_s_tape q_s_isKept q_s_kept q_s_trace s_thrown s_status s_lane s_many s_item s_isle s_fresh s_then s_was s_acts s_tape s_taped s_cursor s_cursor s_token w0_j34 s_fault s_faultAt s_latest s_isKept s_kept s_trace s_traced)) := hD
    refine lv_aload_n hx hb dX9_nextToken_37 rfl (lv_at hl 0 rfl) ?_
    refine lv_aload_n hx hb dX9_nextToken_38 rfl (lv_at hl 0 rfl) ?_
    refine va_get (D := (dC, dI)) (ci := 7) (v := .int s_cursor) (C := RX9) (T := TX9) (N := 23) hx hb hts w_1 hown hK hP 0 rfl rfl 12 (by decide) w_0 (fun _ h9 => h9) rfl dX9_nextToken_39 ?_
    refine lv_aload_n hx hb dX9_nextToken_42 rfl (lv_at hl 0 rfl) ?_
    refine va_get (D := (dC, dI)) (ci := 7) (v := .int s_taped) (C := RX9) (T := TX9) (N := 23) hx hb hts w_1 hown hK hP 0 rfl rfl 11 (by decide) w_3 (fun _ h9 => h9) rfl dX9_nextToken_43 ?_
    have KJ118 : ∀ (w0_j118 : Int32) (H : Heap) (locs : List Loc) (ls : Array Slot), va_P (dC, dI) vwCl ((W_M cI cZ q_s q_s_lane q_s_many q_s_item q_s_isle q_s_fresh q_s_then q_s_was q_s_tape q_s_isKept q_s_kept q_s_trace s_thrown s_status s_lane s_many s_item s_isle s_fresh s_then s_was s_acts s_tape s_taped s_cursor s_cursor s_token w0_j34 s_fault s_faultAt s_latest s_isKept s_kept s_trace s_traced)) H → va_D A ((W_M cI cZ q_s q_s_lane q_s_many q_s_item q_s_isle q_s_fresh q_s_then q_s_was q_s_tape q_s_isKept q_s_kept q_s_trace s_thrown s_status s_lane s_many s_item s_isle s_fresh s_then s_was s_acts s_tape s_taped s_cursor s_cursor s_token w0_j34 s_fault s_faultAt s_latest s_isKept s_kept s_trace s_traced)) → va_S A s.heap H locs → lv_has ls 1 [(0, .ref q_s)] → fX9_nextToken_J118 s_tape s_taped s_cursor w0_j34 w0_j118 = some res → W p l e (headSpec wsX9_nextToken rmX9_nextToken).room s m ([.ref q_s] : List Value).toArray below meth c H locs 0 0 QQ (F0 m 118 ls [.int w0_j118, .ref q_s]) := by
      intro w0_j118 H locs ls hP hD hS hl h
      unfold fX9_nextToken_J118 at h
      refine va_put (D := (dC, dI)) (ci := 7) (v := .int w0_j118) (ty := .int) (C := RX9) (T := TX9) (N := 23) hx hb hts w_1 tyX9 tyX9_ok nmX9 hown hK hP hD hS 0 rfl rfl 14 (by decide) w_5 (fun _ h9 => h9) rfl (by decide +kernel) rfl rfl (Nat.le_of_ble_eq_true rfl) dX9_nextToken_118 (fun H locs hP hD hS => ?_)
      have hP : va_P (dC, dI) vwCl ((W_M cI cZ q_s q_s_lane q_s_many q_s_item q_s_isle q_s_fresh q_s_then q_s_was q_s_tape q_s_isKept q_s_kept q_s_trace s_thrown s_status s_lane s_many s_item s_isle s_fresh s_then s_was s_acts s_tape s_taped s_cursor s_cursor w0_j118 w0_j34 s_fault s_faultAt s_latest s_isKept s_kept s_trace s_traced)) H := hP
      have hD : va_D A ((W_M cI cZ q_s q_s_lane q_s_many q_s_item q_s_isle q_s_fresh q_s_then q_s_was q_s_tape q_s_isKept q_s_kept q_s_trace s_thrown s_status s_lane s_many s_item s_isle s_fresh s_then s_was s_acts s_tape s_taped s_cursor s_cursor w0_j118 w0_j34 s_fault s_faultAt s_latest s_isKept s_kept s_trace s_traced)) := hD
      refine lv_aload_n hx hb dX9_nextToken_121 rfl (lv_at hl 0 rfl) ?_
      refine lv_dup hx hb dX9_nextToken_122 rfl ?_
      refine va_get (D := (dC, dI)) (ci := 7) (v := .int s_cursor) (C := RX9) (T := TX9) (N := 23) hx hb hts w_1 hown hK hP 0 rfl rfl 12 (by decide) w_0 (fun _ h9 => h9) rfl dX9_nextToken_123 ?_
      refine lv_aload_n hx hb dX9_nextToken_126 rfl (lv_at hl 0 rfl) ?_
      refine va_get (D := (dC, dI)) (ci := 7) (v := .int s_cursor) (C := RX9) (T := TX9) (N := 23) hx hb hts w_1 hown hK hP 0 rfl rfl 12 (by decide) w_0 (fun _ h9 => h9) rfl dX9_nextToken_127 ?_
      refine lv_aload_n hx hb dX9_nextToken_130 rfl (lv_at hl 0 rfl) ?_
      refine va_get (D := (dC, dI)) (ci := 7) (v := .int s_taped) (C := RX9) (T := TX9) (N := 23) hx hb hts w_1 hown hK hP 0 rfl rfl 11 (by decide) w_3 (fun _ h9 => h9) rfl dX9_nextToken_131 ?_
      have KJ142 : ∀ (w0_j142 : Int32) (H : Heap) (locs : List Loc) (ls : Array Slot), va_P (dC, dI) vwCl ((W_M cI cZ q_s q_s_lane q_s_many q_s_item q_s_isle q_s_fresh q_s_then q_s_was q_s_tape q_s_isKept q_s_kept q_s_trace s_thrown s_status s_lane s_many s_item s_isle s_fresh s_then s_was s_acts s_tape s_taped s_cursor s_cursor w0_j118 w0_j34 s_fault s_faultAt s_latest s_isKept s_kept s_trace s_traced)) H → va_D A ((W_M cI cZ q_s q_s_lane q_s_many q_s_item q_s_isle q_s_fresh q_s_then q_s_was q_s_tape q_s_isKept q_s_kept q_s_trace s_thrown s_status s_lane s_many s_item s_isle s_fresh s_then s_was s_acts s_tape s_taped s_cursor s_cursor w0_j118 w0_j34 s_fault s_faultAt s_latest s_isKept s_kept s_trace s_traced)) → va_S A s.heap H locs → lv_has ls 1 [(0, .ref q_s)] → fX9_nextToken_J142 s_tape s_taped s_cursor w0_j34 w0_j118 w0_j142 = some res → W p l e (headSpec wsX9_nextToken rmX9_nextToken).room s m ([.ref q_s] : List Value).toArray below meth c H locs 0 0 QQ (F0 m 142 ls [.int w0_j142, .int s_cursor, .ref q_s]) := by
        intro w0_j142 H locs ls hP hD hS hl h
        unfold fX9_nextToken_J142 at h
        refine lv_iadd hx hb dX9_nextToken_142 ?_
        refine va_put (D := (dC, dI)) (ci := 7) (v := .int (s_cursor + w0_j142)) (ty := .int) (C := RX9) (T := TX9) (N := 23) hx hb hts w_1 tyX9 tyX9_ok nmX9 hown hK hP hD hS 0 rfl rfl 12 (by decide) w_0 (fun _ h9 => h9) rfl (by decide +kernel) rfl rfl (Nat.le_of_ble_eq_true rfl) dX9_nextToken_143 (fun H locs hP hD hS => ?_)
        have hP : va_P (dC, dI) vwCl ((W_M cI cZ q_s q_s_lane q_s_many q_s_item q_s_isle q_s_fresh q_s_then q_s_was q_s_tape q_s_isKept q_s_kept q_s_trace s_thrown s_status s_lane s_many s_item s_isle s_fresh s_then s_was s_acts s_tape s_taped (s_cursor + w0_j142) s_cursor w0_j118 w0_j34 s_fault s_faultAt s_latest s_isKept s_kept s_trace s_traced)) H := hP
        have hD : va_D A ((W_M cI cZ q_s q_s_lane q_s_many q_s_item q_s_isle q_s_fresh q_s_then q_s_was q_s_tape q_s_isKept q_s_kept q_s_trace s_thrown s_status s_lane s_many s_item s_isle s_fresh s_then s_was s_acts s_tape s_taped (s_cursor + w0_j142) s_cursor w0_j118 w0_j34 s_fault s_faultAt s_latest s_isKept s_kept s_trace s_traced)) := hD
        refine lv_aload_n hx hb dX9_nextToken_146 rfl (lv_at hl 0 rfl) ?_
        refine va_get (D := (dC, dI)) (ci := 7) (v := .int w0_j118) (C := RX9) (T := TX9) (N := 23) hx hb hts w_1 hown hK hP 0 rfl rfl 14 (by decide) w_5 (fun _ h9 => h9) rfl dX9_nextToken_147 ?_
        refine lv_iconst (v := 3) hx hb dX9_nextToken_150 (by decide) ?_
        refine lv_icmp_ne (tgt := 277) hx hb dX9_nextToken_151 (by decide) (fun c_1 => ?_) (fun c_1 => ?_)
        · have h := (if_neg c_1).symm.trans h
          have h := Option.some.inj h
          subst h
          rw [hQQ]
          subst hAe
          exact W.vret hx hb hr (fun t ht hW => ⟨⟨(), rfl, trivial, by rw [ht]; exact hP, va_K.moved hW.alike hK, hD⟩, hS.F ht⟩) hS.2.2 dX9_nextToken_277
        · have h := (if_pos c_1).symm.trans h
          refine lv_aload_n hx hb dX9_nextToken_154 rfl (lv_at hl 0 rfl) ?_
          refine lv_dup hx hb dX9_nextToken_155 rfl ?_
          refine va_get (D := (dC, dI)) (ci := 7) (v := .int w0_j34) (C := RX9) (T := TX9) (N := 23) hx hb hts w_1 hown hK hP 0 rfl rfl 15 (by decide) w_4 (fun _ h9 => h9) rfl dX9_nextToken_156 ?_
          refine lv_bipush (v := 48) hx hb dX9_nextToken_159 (by decide) ?_
          refine lv_isub hx hb dX9_nextToken_161 ?_
          refine va_put (D := (dC, dI)) (ci := 7) (v := .int (w0_j34 - 48)) (ty := .int) (C := RX9) (T := TX9) (N := 23) hx hb hts w_1 tyX9 tyX9_ok nmX9 hown hK hP hD hS 0 rfl rfl 15 (by decide) w_4 (fun _ h9 => h9) rfl (by decide +kernel) rfl rfl (Nat.le_of_ble_eq_true rfl) dX9_nextToken_162 (fun H locs hP hD hS => ?_)
          have hP : va_P (dC, dI) vwCl ((W_M cI cZ q_s q_s_lane q_s_many q_s_item q_s_isle q_s_fresh q_s_then q_s_was q_s_tape q_s_isKept q_s_kept q_s_trace s_thrown s_status s_lane s_many s_item s_isle s_fresh s_then s_was s_acts s_tape s_taped (s_cursor + w0_j142) s_cursor w0_j118 (w0_j34 - 48) s_fault s_faultAt s_latest s_isKept s_kept s_trace s_traced)) H := hP
          have hD : va_D A ((W_M cI cZ q_s q_s_lane q_s_many q_s_item q_s_isle q_s_fresh q_s_then q_s_was q_s_tape q_s_isKept q_s_kept q_s_trace s_thrown s_status s_lane s_many s_item s_isle s_fresh s_then s_was s_acts s_tape s_taped (s_cursor + w0_j142) s_cursor w0_j118 (w0_j34 - 48) s_fault s_faultAt s_latest s_isKept s_kept s_trace s_traced)) := hD
          have KL165 : ∀ (k165_255 : Int32 → Int32 → Option (Int32 × Int32 × Int32 × Int32)) , (∀ (s_cursor_e255 : Int32) (s_value_e255 : Int32) (H : Heap) (locs : List Loc) (ls : Array Slot), va_P (dC, dI) vwCl ((W_M cI cZ q_s q_s_lane q_s_many q_s_item q_s_isle q_s_fresh q_s_then q_s_was q_s_tape q_s_isKept q_s_kept q_s_trace s_thrown s_status s_lane s_many s_item s_isle s_fresh s_then s_was s_acts s_tape s_taped s_cursor_e255 s_cursor w0_j118 s_value_e255 s_fault s_faultAt s_latest s_isKept s_kept s_trace s_traced)) H → va_D A ((W_M cI cZ q_s q_s_lane q_s_many q_s_item q_s_isle q_s_fresh q_s_then q_s_was q_s_tape q_s_isKept q_s_kept q_s_trace s_thrown s_status s_lane s_many s_item s_isle s_fresh s_then s_was s_acts s_tape s_taped s_cursor_e255 s_cursor w0_j118 s_value_e255 s_fault s_faultAt s_latest s_isKept s_kept s_trace s_traced)) → va_S A s.heap H locs → lv_has ls 1 [(0, .ref q_s)] → k165_255 s_cursor_e255 s_value_e255 = some res → W p l e (headSpec wsX9_nextToken rmX9_nextToken).room s m ([.ref q_s] : List Value).toArray below meth c H locs 0 0 QQ (F0 m 255 ls [])) → ∀ (n : Nat) (s_cursor_h165 : Int32) (s_value_h165 : Int32) (H : Heap) (locs : List Loc) (ls : Array Slot), va_P (dC, dI) vwCl ((W_M cI cZ q_s q_s_lane q_s_many q_s_item q_s_isle q_s_fresh q_s_then q_s_was q_s_tape q_s_isKept q_s_kept q_s_trace s_thrown s_status s_lane s_many s_item s_isle s_fresh s_then s_was s_acts s_tape s_taped s_cursor_h165 s_cursor w0_j118 s_value_h165 s_fault s_faultAt s_latest s_isKept s_kept s_trace s_traced)) H → va_D A ((W_M cI cZ q_s q_s_lane q_s_many q_s_item q_s_isle q_s_fresh q_s_then q_s_was q_s_tape q_s_isKept q_s_kept q_s_trace s_thrown s_status s_lane s_many s_item s_isle s_fresh s_then s_was s_acts s_tape s_taped s_cursor_h165 s_cursor w0_j118 s_value_h165 s_fault s_faultAt s_latest s_isKept s_kept s_trace s_traced)) → va_S A s.heap H locs → lv_has ls 1 [(0, .ref q_s)] → fX9_nextToken_L165 s_tape s_taped s_cursor k165_255 n s_cursor_h165 s_value_h165 = some res → W p l e (headSpec wsX9_nextToken rmX9_nextToken).room s m ([.ref q_s] : List Value).toArray below meth c H locs 0 0 QQ (F0 m 165 ls []) := by
            intro k165_255 Kk165_255 n
            induction n with
            | zero => intro s_cursor_h165 s_value_h165 H locs ls hP hD hS hl h; rw [fX9_nextToken_L165.eq_1] at h; cases h
            | succ n ih =>
              intro s_cursor_h165 s_value_h165 H locs ls hP hD hS hl h
              rw [fX9_nextToken_L165.eq_2] at h
              refine lv_aload_n hx hb dX9_nextToken_165 rfl (lv_at hl 0 rfl) ?_
              refine va_get (D := (dC, dI)) (ci := 7) (v := .int s_cursor_h165) (C := RX9) (T := TX9) (N := 23) hx hb hts w_1 hown hK hP 0 rfl rfl 12 (by decide) w_0 (fun _ h9 => h9) rfl dX9_nextToken_166 ?_
              refine lv_aload_n hx hb dX9_nextToken_169 rfl (lv_at hl 0 rfl) ?_
              refine va_get (D := (dC, dI)) (ci := 7) (v := .int s_taped) (C := RX9) (T := TX9) (N := 23) hx hb hts w_1 hown hK hP 0 rfl rfl 11 (by decide) w_3 (fun _ h9 => h9) rfl dX9_nextToken_170 ?_
              refine lv_icmp_ge (tgt := 255) hx hb dX9_nextToken_173 (by decide) (fun c_2 => ?_) (fun c_2 => ?_)
              · have h := (if_pos c_2).symm.trans h
                exact Kk165_255 s_cursor_h165 s_value_h165 _ _ _ hP hD hS (lv_sub hl [0] rfl) h
              · have h := (if_neg c_2).symm.trans h
                refine lv_aload_n hx hb dX9_nextToken_176 rfl (lv_at hl 0 rfl) ?_
                refine va_get (D := (dC, dI)) (ci := 7) (v := .ref q_s_tape) (C := RX9) (T := TX9) (N := 23) hx hb hts w_1 hown hK hP 0 rfl rfl 10 (by decide) w_6 (fun _ h9 => h9) rfl dX9_nextToken_177 ?_
                refine lv_aload_n hx hb dX9_nextToken_180 rfl (lv_at hl 0 rfl) ?_
                refine va_get (D := (dC, dI)) (ci := 7) (v := .int s_cursor_h165) (C := RX9) (T := TX9) (N := 23) hx hb hts w_1 hown hK hP 0 rfl rfl 12 (by decide) w_0 (fun _ h9 => h9) rfl dX9_nextToken_181 ?_
                obtain ⟨b_3, h⟩ := chk_of h
                refine va_iald hx hb hK hP 8 0 rfl rfl (i := s_cursor_h165) b_3 dX9_nextToken_184 ?_
                refine lv_i2l hx hb dX9_nextToken_185 rfl ?_
                refine lv_ldc2 hx hb hown w_7 dX9_nextToken_186 ?_
                refine lv_ldc2 hx hb hown w_8 dX9_nextToken_189 ?_
                obtain ⟨r_4, hc_4, h⟩ := bd1_of h
                refine cl_pS (As := [.long ((s_tape s_cursor_h165.toNatClampNeg).toInt64), .long 48, .long 57]) (rest := []) ⟨hx, hb, hml, hown, hts⟩ (m_X9_in l ((s_tape s_cursor_h165.toNatClampNeg).toInt64) 48 57 (r_4) hc_4) (va_cwS 3 hts gX9_nextToken_X9_in rfl rfl rfl ddX9_in ⟨Nat.le_of_ble_eq_true rfl, Nat.le_of_ble_eq_true rfl⟩) rfl rfl hl.1 (Nat.le_of_ble_eq_true rfl) ⟨Nat.zero_le _, Nat.zero_le _⟩ dX9_nextToken_192 ?_
                refine lv_if_eq (tgt := 255) hx hb dX9_nextToken_195 (by decide) (fun c_5 => ?_) (fun c_5 => ?_)
                · have h := (if_pos c_5).symm.trans h
                  exact Kk165_255 s_cursor_h165 s_value_h165 _ _ _ hP hD hS (lv_sub hl [0] rfl) h
                · have h := (if_neg c_5).symm.trans h
                  refine lv_aload_n hx hb dX9_nextToken_198 rfl (lv_at hl 0 rfl) ?_
                  refine lv_aload_n hx hb dX9_nextToken_199 rfl (lv_at hl 0 rfl) ?_
                  refine va_get (D := (dC, dI)) (ci := 7) (v := .int s_cursor_h165) (C := RX9) (T := TX9) (N := 23) hx hb hts w_1 hown hK hP 0 rfl rfl 12 (by decide) w_0 (fun _ h9 => h9) rfl dX9_nextToken_200 ?_
                  refine lv_aload_n hx hb dX9_nextToken_203 rfl (lv_at hl 0 rfl) ?_
                  refine va_get (D := (dC, dI)) (ci := 7) (v := .int s_cursor) (C := RX9) (T := TX9) (N := 23) hx hb hts w_1 hown hK hP 0 rfl rfl 13 (by decide) w_2 (fun _ h9 => h9) rfl dX9_nextToken_204 ?_
                  refine lv_isub hx hb dX9_nextToken_207 ?_
                  refine lv_iconst (v := 2) hx hb dX9_nextToken_208 (by decide) ?_
                  refine lv_icmp_ge (tgt := 235) hx hb dX9_nextToken_209 (by decide) (fun c_6 => ?_) (fun c_6 => ?_)
                  · have h := (if_pos c_6).symm.trans h
                    refine lv_aload_n hx hb dX9_nextToken_235 rfl (lv_at hl 0 rfl) ?_
                    refine va_get (D := (dC, dI)) (ci := 7) (v := .int s_value_h165) (C := RX9) (T := TX9) (N := 23) hx hb hts w_1 hown hK hP 0 rfl rfl 15 (by decide) w_4 (fun _ h9 => h9) rfl dX9_nextToken_236 ?_
                    refine va_put (D := (dC, dI)) (ci := 7) (v := .int s_value_h165) (ty := .int) (C := RX9) (T := TX9) (N := 23) hx hb hts w_1 tyX9 tyX9_ok nmX9 hown hK hP hD hS 0 rfl rfl 15 (by decide) w_4 (fun _ h9 => h9) rfl (by decide +kernel) rfl rfl (Nat.le_of_ble_eq_true rfl) dX9_nextToken_239 (fun H locs hP hD hS => ?_)
                    have hP : va_P (dC, dI) vwCl ((W_M cI cZ q_s q_s_lane q_s_many q_s_item q_s_isle q_s_fresh q_s_then q_s_was q_s_tape q_s_isKept q_s_kept q_s_trace s_thrown s_status s_lane s_many s_item s_isle s_fresh s_then s_was s_acts s_tape s_taped s_cursor_h165 s_cursor w0_j118 s_value_h165 s_fault s_faultAt s_latest s_isKept s_kept s_trace s_traced)) H := hP
                    have hD : va_D A ((W_M cI cZ q_s q_s_lane q_s_many q_s_item q_s_isle q_s_fresh q_s_then q_s_was q_s_tape q_s_isKept q_s_kept q_s_trace s_thrown s_status s_lane s_many s_item s_isle s_fresh s_then s_was s_acts s_tape s_taped s_cursor_h165 s_cursor w0_j118 s_value_h165 s_fault s_faultAt s_latest s_isKept s_kept s_trace s_traced)) := hD
                    refine lv_aload_n hx hb dX9_nextToken_242 rfl (lv_at hl 0 rfl) ?_
                    refine lv_dup hx hb dX9_nextToken_243 rfl ?_
                    refine va_get (D := (dC, dI)) (ci := 7) (v := .int s_cursor_h165) (C := RX9) (T := TX9) (N := 23) hx hb hts w_1 hown hK hP 0 rfl rfl 12 (by decide) w_0 (fun _ h9 => h9) rfl dX9_nextToken_244 ?_
                    refine lv_iconst (v := 1) hx hb dX9_nextToken_247 (by decide) ?_
                    refine lv_iadd hx hb dX9_nextToken_248 ?_
                    refine va_put (D := (dC, dI)) (ci := 7) (v := .int (s_cursor_h165 + 1)) (ty := .int) (C := RX9) (T := TX9) (N := 23) hx hb hts w_1 tyX9 tyX9_ok nmX9 hown hK hP hD hS 0 rfl rfl 12 (by decide) w_0 (fun _ h9 => h9) rfl (by decide +kernel) rfl rfl (Nat.le_of_ble_eq_true rfl) dX9_nextToken_249 (fun H locs hP hD hS => ?_)
                    have hP : va_P (dC, dI) vwCl ((W_M cI cZ q_s q_s_lane q_s_many q_s_item q_s_isle q_s_fresh q_s_then q_s_was q_s_tape q_s_isKept q_s_kept q_s_trace s_thrown s_status s_lane s_many s_item s_isle s_fresh s_then s_was s_acts s_tape s_taped (s_cursor_h165 + 1) s_cursor w0_j118 s_value_h165 s_fault s_faultAt s_latest s_isKept s_kept s_trace s_traced)) H := hP
                    have hD : va_D A ((W_M cI cZ q_s q_s_lane q_s_many q_s_item q_s_isle q_s_fresh q_s_then q_s_was q_s_tape q_s_isKept q_s_kept q_s_trace s_thrown s_status s_lane s_many s_item s_isle s_fresh s_then s_was s_acts s_tape s_taped (s_cursor_h165 + 1) s_cursor w0_j118 s_value_h165 s_fault s_faultAt s_latest s_isKept s_kept s_trace s_traced)) := hD
                    refine lv_goto (tgt := 165) hx hb dX9_nextToken_252 (by decide) ?_
                    exact ih (s_cursor_h165 + 1) s_value_h165 _ _ _ hP hD hS (lv_sub hl [0] rfl) h
                  · have h := (if_neg c_6).symm.trans h
                    refine lv_bipush (v := 10) hx hb dX9_nextToken_212 (by decide) ?_
                    refine lv_aload_n hx hb dX9_nextToken_214 rfl (lv_at hl 0 rfl) ?_
                    refine va_get (D := (dC, dI)) (ci := 7) (v := .int s_value_h165) (C := RX9) (T := TX9) (N := 23) hx hb hts w_1 hown hK hP 0 rfl rfl 15 (by decide) w_4 (fun _ h9 => h9) rfl dX9_nextToken_215 ?_
                    refine lv_imul hx hb dX9_nextToken_218 ?_
                    refine lv_aload_n hx hb dX9_nextToken_219 rfl (lv_at hl 0 rfl) ?_
                    refine va_get (D := (dC, dI)) (ci := 7) (v := .ref q_s_tape) (C := RX9) (T := TX9) (N := 23) hx hb hts w_1 hown hK hP 0 rfl rfl 10 (by decide) w_6 (fun _ h9 => h9) rfl dX9_nextToken_220 ?_
                    refine lv_aload_n hx hb dX9_nextToken_223 rfl (lv_at hl 0 rfl) ?_
                    refine va_get (D := (dC, dI)) (ci := 7) (v := .int s_cursor_h165) (C := RX9) (T := TX9) (N := 23) hx hb hts w_1 hown hK hP 0 rfl rfl 12 (by decide) w_0 (fun _ h9 => h9) rfl dX9_nextToken_224 ?_
                    obtain ⟨b_7, h⟩ := chk_of h
                    refine va_iald hx hb hK hP 8 0 rfl rfl (i := s_cursor_h165) b_7 dX9_nextToken_227 ?_
                    refine lv_iadd hx hb dX9_nextToken_228 ?_
                    refine lv_bipush (v := 48) hx hb dX9_nextToken_229 (by decide) ?_
                    refine lv_isub hx hb dX9_nextToken_231 ?_
                    refine lv_goto (tgt := 239) hx hb dX9_nextToken_232 (by decide) ?_
                    refine va_put (D := (dC, dI)) (ci := 7) (v := .int (((10 * s_value_h165) + (s_tape s_cursor_h165.toNatClampNeg)) - 48)) (ty := .int) (C := RX9) (T := TX9) (N := 23) hx hb hts w_1 tyX9 tyX9_ok nmX9 hown hK hP hD hS 0 rfl rfl 15 (by decide) w_4 (fun _ h9 => h9) rfl (by decide +kernel) rfl rfl (Nat.le_of_ble_eq_true rfl) dX9_nextToken_239 (fun H locs hP hD hS => ?_)
                    have hP : va_P (dC, dI) vwCl ((W_M cI cZ q_s q_s_lane q_s_many q_s_item q_s_isle q_s_fresh q_s_then q_s_was q_s_tape q_s_isKept q_s_kept q_s_trace s_thrown s_status s_lane s_many s_item s_isle s_fresh s_then s_was s_acts s_tape s_taped s_cursor_h165 s_cursor w0_j118 (((10 * s_value_h165) + (s_tape s_cursor_h165.toNatClampNeg)) - 48) s_fault s_faultAt s_latest s_isKept s_kept s_trace s_traced)) H := hP
                    have hD : va_D A ((W_M cI cZ q_s q_s_lane q_s_many q_s_item q_s_isle q_s_fresh q_s_then q_s_was q_s_tape q_s_isKept q_s_kept q_s_trace s_thrown s_status s_lane s_many s_item s_isle s_fresh s_then s_was s_acts s_tape s_taped s_cursor_h165 s_cursor w0_j118 (((10 * s_value_h165) + (s_tape s_cursor_h165.toNatClampNeg)) - 48) s_fault s_faultAt s_latest s_isKept s_kept s_trace s_traced)) := hD
                    refine lv_aload_n hx hb dX9_nextToken_242 rfl (lv_at hl 0 rfl) ?_
                    refine lv_dup hx hb dX9_nextToken_243 rfl ?_
                    refine va_get (D := (dC, dI)) (ci := 7) (v := .int s_cursor_h165) (C := RX9) (T := TX9) (N := 23) hx hb hts w_1 hown hK hP 0 rfl rfl 12 (by decide) w_0 (fun _ h9 => h9) rfl dX9_nextToken_244 ?_
                    refine lv_iconst (v := 1) hx hb dX9_nextToken_247 (by decide) ?_
                    refine lv_iadd hx hb dX9_nextToken_248 ?_
                    refine va_put (D := (dC, dI)) (ci := 7) (v := .int (s_cursor_h165 + 1)) (ty := .int) (C := RX9) (T := TX9) (N := 23) hx hb hts w_1 tyX9 tyX9_ok nmX9 hown hK hP hD hS 0 rfl rfl 12 (by decide) w_0 (fun _ h9 => h9) rfl (by decide +kernel) rfl rfl (Nat.le_of_ble_eq_true rfl) dX9_nextToken_249 (fun H locs hP hD hS => ?_)
                    have hP : va_P (dC, dI) vwCl ((W_M cI cZ q_s q_s_lane q_s_many q_s_item q_s_isle q_s_fresh q_s_then q_s_was q_s_tape q_s_isKept q_s_kept q_s_trace s_thrown s_status s_lane s_many s_item s_isle s_fresh s_then s_was s_acts s_tape s_taped (s_cursor_h165 + 1) s_cursor w0_j118 (((10 * s_value_h165) + (s_tape s_cursor_h165.toNatClampNeg)) - 48) s_fault s_faultAt s_latest s_isKept s_kept s_trace s_traced)) H := hP
                    have hD : va_D A ((W_M cI cZ q_s q_s_lane q_s_many q_s_item q_s_isle q_s_fresh q_s_then q_s_was q_s_tape q_s_isKept q_s_kept q_s_trace s_thrown s_status s_lane s_many s_item s_isle s_fresh s_then s_was s_acts s_tape s_taped (s_cursor_h165 + 1) s_cursor w0_j118 (((10 * s_value_h165) + (s_tape s_cursor_h165.toNatClampNeg)) - 48) s_fault s_faultAt s_latest s_isKept s_kept s_trace s_traced)) := hD
                    refine lv_goto (tgt := 165) hx hb dX9_nextToken_252 (by decide) ?_
                    exact ih (s_cursor_h165 + 1) (((10 * s_value_h165) + (s_tape s_cursor_h165.toNatClampNeg)) - 48) _ _ _ hP hD hS (lv_sub hl [0] rfl) h
          refine KL165 _ (fun s_cursor_e255 s_value_e255 H locs ls hP hD hS hl h => ?_) FU (s_cursor + w0_j142) (w0_j34 - 48) _ _ _ hP hD hS (lv_sub hl [0] rfl) h
          refine lv_aload_n hx hb dX9_nextToken_255 rfl (lv_at hl 0 rfl) ?_
          refine lv_aload_n hx hb dX9_nextToken_256 rfl (lv_at hl 0 rfl) ?_
          refine va_get (D := (dC, dI)) (ci := 7) (v := .int s_cursor_e255) (C := RX9) (T := TX9) (N := 23) hx hb hts w_1 hown hK hP 0 rfl rfl 12 (by decide) w_0 (fun _ h9 => h9) rfl dX9_nextToken_257 ?_
          refine lv_aload_n hx hb dX9_nextToken_260 rfl (lv_at hl 0 rfl) ?_
          refine va_get (D := (dC, dI)) (ci := 7) (v := .int s_cursor) (C := RX9) (T := TX9) (N := 23) hx hb hts w_1 hown hK hP 0 rfl rfl 13 (by decide) w_2 (fun _ h9 => h9) rfl dX9_nextToken_261 ?_
          refine lv_isub hx hb dX9_nextToken_264 ?_
          refine lv_iconst (v := 2) hx hb dX9_nextToken_265 (by decide) ?_
          refine lv_icmp_le (tgt := 273) hx hb dX9_nextToken_266 (by decide) (fun c_8 => ?_) (fun c_8 => ?_)
          · have h := (if_pos c_8).symm.trans h
            refine lv_iconst (v := 3) hx hb dX9_nextToken_273 (by decide) ?_
            refine va_put (D := (dC, dI)) (ci := 7) (v := .int 3) (ty := .int) (C := RX9) (T := TX9) (N := 23) hx hb hts w_1 tyX9 tyX9_ok nmX9 hown hK hP hD hS 0 rfl rfl 14 (by decide) w_5 (fun _ h9 => h9) rfl (by decide +kernel) rfl rfl (Nat.le_of_ble_eq_true rfl) dX9_nextToken_274 (fun H locs hP hD hS => ?_)
            have hP : va_P (dC, dI) vwCl ((W_M cI cZ q_s q_s_lane q_s_many q_s_item q_s_isle q_s_fresh q_s_then q_s_was q_s_tape q_s_isKept q_s_kept q_s_trace s_thrown s_status s_lane s_many s_item s_isle s_fresh s_then s_was s_acts s_tape s_taped s_cursor_e255 s_cursor 3 s_value_e255 s_fault s_faultAt s_latest s_isKept s_kept s_trace s_traced)) H := hP
            have hD : va_D A ((W_M cI cZ q_s q_s_lane q_s_many q_s_item q_s_isle q_s_fresh q_s_then q_s_was q_s_tape q_s_isKept q_s_kept q_s_trace s_thrown s_status s_lane s_many s_item s_isle s_fresh s_then s_was s_acts s_tape s_taped s_cursor_e255 s_cursor 3 s_value_e255 s_fault s_faultAt s_latest s_isKept s_kept s_trace s_traced)) := hD
            have h := Option.some.inj h
            subst h
            rw [hQQ]
            subst hAe
            exact W.vret hx hb hr (fun t ht hW => ⟨⟨(), rfl, trivial, by rw [ht]; exact hP, va_K.moved hW.alike hK, hD⟩, hS.F ht⟩) hS.2.2 dX9_nextToken_277
          · have h := (if_neg c_8).symm.trans h
            refine lv_iconst (v := 0) hx hb dX9_nextToken_269 (by decide) ?_
            refine lv_goto (tgt := 274) hx hb dX9_nextToken_270 (by decide) ?_
            refine va_put (D := (dC, dI)) (ci := 7) (v := .int 0) (ty := .int) (C := RX9) (T := TX9) (N := 23) hx hb hts w_1 tyX9 tyX9_ok nmX9 hown hK hP hD hS 0 rfl rfl 14 (by decide) w_5 (fun _ h9 => h9) rfl (by decide +kernel) rfl rfl (Nat.le_of_ble_eq_true rfl) dX9_nextToken_274 (fun H locs hP hD hS => ?_)
            have hP : va_P (dC, dI) vwCl ((W_M cI cZ q_s q_s_lane q_s_many q_s_item q_s_isle q_s_fresh q_s_then q_s_was q_s_tape q_s_isKept q_s_kept q_s_trace s_thrown s_status s_lane s_many s_item s_isle s_fresh s_then s_was s_acts s_tape s_taped s_cursor_e255 s_cursor 0 s_value_e255 s_fault s_faultAt s_latest s_isKept s_kept s_trace s_traced)) H := hP
            have hD : va_D A ((W_M cI cZ q_s q_s_lane q_s_many q_s_item q_s_isle q_s_fresh q_s_then q_s_was q_s_tape q_s_isKept q_s_kept q_s_trace s_thrown s_status s_lane s_many s_item s_isle s_fresh s_then s_was s_acts s_tape s_taped s_cursor_e255 s_cursor 0 s_value_e255 s_fault s_faultAt s_latest s_isKept s_kept s_trace s_traced)) := hD
            have h := Option.some.inj h
            subst h
            rw [hQQ]
            subst hAe
            exact W.vret hx hb hr (fun t ht hW => ⟨⟨(), rfl, trivial, by rw [ht]; exact hP, va_K.moved hW.alike hK, hD⟩, hS.F ht⟩) hS.2.2 dX9_nextToken_277
      refine lv_icmp_ge (tgt := 141) hx hb dX9_nextToken_134 (by decide) (fun c_9 => ?_) (fun c_9 => ?_)
      · have h := (if_pos c_9).symm.trans h
        refine lv_iconst (v := 0) hx hb dX9_nextToken_141 (by decide) ?_
        exact KJ142 0 _ _ _ hP hD hS (lv_sub hl [0] rfl) h
      · have h := (if_neg c_9).symm.trans h
        refine lv_iconst (v := 1) hx hb dX9_nextToken_137 (by decide) ?_
        refine lv_goto (tgt := 142) hx hb dX9_nextToken_138 (by decide) ?_
        exact KJ142 1 _ _ _ hP hD hS (lv_sub hl [0] rfl) h
    refine lv_icmp_ne (tgt := 53) hx hb dX9_nextToken_46 (by decide) (fun c_10 => ?_) (fun c_10 => ?_)
    · have h := (if_neg c_10).symm.trans h
      refine lv_aload_n hx hb dX9_nextToken_53 rfl (lv_at hl 0 rfl) ?_
      refine va_get (D := (dC, dI)) (ci := 7) (v := .int w0_j34) (C := RX9) (T := TX9) (N := 23) hx hb hts w_1 hown hK hP 0 rfl rfl 15 (by decide) w_4 (fun _ h9 => h9) rfl dX9_nextToken_54 ?_
      refine lv_i2l hx hb dX9_nextToken_57 rfl ?_
      refine lv_ldc2 hx hb hown w_9 dX9_nextToken_58 ?_
      refine lv_ldc2 hx hb hown w_10 dX9_nextToken_61 ?_
      obtain ⟨r_11, hc_11, h⟩ := bd1_of h
      refine cl_pS (As := [.long w0_j34.toInt64, .long 97, .long 122]) (rest := [.ref q_s]) ⟨hx, hb, hml, hown, hts⟩ (m_X9_in l w0_j34.toInt64 97 122 (r_11) hc_11) (va_cwS 3 hts gX9_nextToken_X9_in rfl rfl rfl ddX9_in ⟨Nat.le_of_ble_eq_true rfl, Nat.le_of_ble_eq_true rfl⟩) rfl rfl hl.1 (Nat.le_of_ble_eq_true rfl) ⟨Nat.zero_le _, Nat.zero_le _⟩ dX9_nextToken_64 ?_
      refine lv_if_eq (tgt := 74) hx hb dX9_nextToken_67 (by decide) (fun c_12 => ?_) (fun c_12 => ?_)
      · have h := (if_pos c_12).symm.trans h
        refine lv_aload_n hx hb dX9_nextToken_74 rfl (lv_at hl 0 rfl) ?_
        refine va_get (D := (dC, dI)) (ci := 7) (v := .int w0_j34) (C := RX9) (T := TX9) (N := 23) hx hb hts w_1 hown hK hP 0 rfl rfl 15 (by decide) w_4 (fun _ h9 => h9) rfl dX9_nextToken_75 ?_
        refine lv_i2l hx hb dX9_nextToken_78 rfl ?_
        refine lv_ldc2 hx hb hown w_7 dX9_nextToken_79 ?_
        refine lv_ldc2 hx hb hown w_8 dX9_nextToken_82 ?_
        obtain ⟨r_13, hc_13, h⟩ := bd1_of h
        refine cl_pS (As := [.long w0_j34.toInt64, .long 48, .long 57]) (rest := [.ref q_s]) ⟨hx, hb, hml, hown, hts⟩ (m_X9_in l w0_j34.toInt64 48 57 (r_13) hc_13) (va_cwS 3 hts gX9_nextToken_X9_in rfl rfl rfl ddX9_in ⟨Nat.le_of_ble_eq_true rfl, Nat.le_of_ble_eq_true rfl⟩) rfl rfl hl.1 (Nat.le_of_ble_eq_true rfl) ⟨Nat.zero_le _, Nat.zero_le _⟩ dX9_nextToken_85 ?_
        refine lv_if_eq (tgt := 95) hx hb dX9_nextToken_88 (by decide) (fun c_14 => ?_) (fun c_14 => ?_)
        · have h := (if_pos c_14).symm.trans h
          refine lv_aload_n hx hb dX9_nextToken_95 rfl (lv_at hl 0 rfl) ?_
          refine va_get (D := (dC, dI)) (ci := 7) (v := .int w0_j34) (C := RX9) (T := TX9) (N := 23) hx hb hts w_1 hown hK hP 0 rfl rfl 15 (by decide) w_4 (fun _ h9 => h9) rfl dX9_nextToken_96 ?_
          refine lv_bipush (v := 44) hx hb dX9_nextToken_99 (by decide) ?_
          refine lv_icmp_eq (tgt := 113) hx hb dX9_nextToken_101 (by decide) (fun c_15 => ?_) (fun c_15 => ?_)
          · have h := (if_pos c_15).symm.trans h
            refine lv_iconst (v := 4) hx hb dX9_nextToken_113 (by decide) ?_
            refine lv_goto (tgt := 118) hx hb dX9_nextToken_114 (by decide) ?_
            exact KJ118 4 _ _ _ hP hD hS (lv_sub hl [0] rfl) h
          · have h := (if_neg c_15).symm.trans h
            refine lv_aload_n hx hb dX9_nextToken_104 rfl (lv_at hl 0 rfl) ?_
            refine va_get (D := (dC, dI)) (ci := 7) (v := .int w0_j34) (C := RX9) (T := TX9) (N := 23) hx hb hts w_1 hown hK hP 0 rfl rfl 15 (by decide) w_4 (fun _ h9 => h9) rfl dX9_nextToken_105 ?_
            refine lv_bipush (v := 59) hx hb dX9_nextToken_108 (by decide) ?_
            refine lv_icmp_ne (tgt := 117) hx hb dX9_nextToken_110 (by decide) (fun c_16 => ?_) (fun c_16 => ?_)
            · have h := (if_neg c_16).symm.trans h
              refine lv_iconst (v := 0) hx hb dX9_nextToken_117 (by decide) ?_
              exact KJ118 0 _ _ _ hP hD hS (lv_sub hl [0] rfl) h
            · have h := (if_pos c_16).symm.trans h
              refine lv_iconst (v := 4) hx hb dX9_nextToken_113 (by decide) ?_
              refine lv_goto (tgt := 118) hx hb dX9_nextToken_114 (by decide) ?_
              exact KJ118 4 _ _ _ hP hD hS (lv_sub hl [0] rfl) h
        · have h := (if_neg c_14).symm.trans h
          refine lv_iconst (v := 3) hx hb dX9_nextToken_91 (by decide) ?_
          refine lv_goto (tgt := 118) hx hb dX9_nextToken_92 (by decide) ?_
          exact KJ118 3 _ _ _ hP hD hS (lv_sub hl [0] rfl) h
      · have h := (if_neg c_12).symm.trans h
        refine lv_iconst (v := 2) hx hb dX9_nextToken_70 (by decide) ?_
        refine lv_goto (tgt := 118) hx hb dX9_nextToken_71 (by decide) ?_
        exact KJ118 2 _ _ _ hP hD hS (lv_sub hl [0] rfl) h
    · have h := (if_pos c_10).symm.trans h
      refine lv_iconst (v := 1) hx hb dX9_nextToken_49 (by decide) ?_
      refine lv_goto (tgt := 118) hx hb dX9_nextToken_50 (by decide) ?_
      exact KJ118 1 _ _ _ hP hD hS (lv_sub hl [0] rfl) h
  refine lv_icmp_ge (tgt := 32) hx hb dX9_nextToken_17 (by decide) (fun c_17 => ?_) (fun c_17 => ?_)
  · have h := (if_pos c_17).symm.trans h
    refine lv_ldc hx hb hown w_11 dX9_nextToken_32 ?_
    exact KJ34 (-1000000) _ _ _ hP hD hS (lv_sub hl [0] rfl) h
  · have h := (if_neg c_17).symm.trans h
    refine lv_aload_n hx hb dX9_nextToken_20 rfl (lv_at hl 0 rfl) ?_
    refine va_get (D := (dC, dI)) (ci := 7) (v := .ref q_s_tape) (C := RX9) (T := TX9) (N := 23) hx hb hts w_1 hown hK hP 0 rfl rfl 10 (by decide) w_6 (fun _ h9 => h9) rfl dX9_nextToken_21 ?_
    refine lv_aload_n hx hb dX9_nextToken_24 rfl (lv_at hl 0 rfl) ?_
    refine va_get (D := (dC, dI)) (ci := 7) (v := .int s_cursor) (C := RX9) (T := TX9) (N := 23) hx hb hts w_1 hown hK hP 0 rfl rfl 12 (by decide) w_0 (fun _ h9 => h9) rfl dX9_nextToken_25 ?_
    obtain ⟨b_18, h⟩ := chk_of h
    refine va_iald hx hb hK hP 8 0 rfl rfl (i := s_cursor) b_18 dX9_nextToken_28 ?_
    refine lv_goto (tgt := 34) hx hb dX9_nextToken_29 (by decide) ?_
    exact KJ34 (s_tape s_cursor.toNatClampNeg) _ _ _ hP hD hS (lv_sub hl [0] rfl) h
def fX9_must (s_tape : (Nat → Int32)) (s_taped : Int32) (s_cursor : Int32) (s_start : Int32) (s_token : Int32) (s_value : Int32) (s_fault : Int32) (s_faultAt : Int32) (v1 : Int32) : Option (Int32 × Int32 × Int32 × Int32 × Int32 × Int32) :=
  (if v1 = 0 then bd2 (fX9_bad s_start s_fault s_faultAt 1) (fun s_fault_4 s_faultAt_4 => (if s_fault_4 = 0 then bd4 (fX9_nextToken s_tape s_taped s_cursor) (fun s_cursor_6 s_start_6 s_token_6 s_value_6 => some (s_cursor_6, s_start_6, s_token_6, s_value_6, s_fault_4, s_faultAt_4)) else some (s_cursor, s_start, s_token, s_value, s_fault_4, s_faultAt_4))) else (if s_fault = 0 then bd4 (fX9_nextToken s_tape s_taped s_cursor) (fun s_cursor_3 s_start_3 s_token_3 s_value_3 => some (s_cursor_3, s_start_3, s_token_3, s_value_3, s_fault, s_faultAt)) else some (s_cursor, s_start, s_token, s_value, s_fault, s_faultAt)))
abbrev rmX9_must : Room := { frames := 2, cells := 0, slots := 0, locals := 45 }
theorem ddX9_must : yX9_must.cls ≠ "java/lang/invoke/MethodHandle" ∧ yX9_must.cls ≠ "java/lang/invoke/VarHandle" ∧ (parseMethodDescriptor yX9_must.desc).map (fun d => d.parameters.length) = some 1 := by decide +kernel
set_option maxHeartbeats 4000000 in
set_option maxRecDepth 100000 in
theorem m_X9_must (l : Launch) (dC : Nat → ClassId) (dI : Nat → Nat → Nat) (cI cZ : ClassId) (q_s q_s_lane q_s_many q_s_item q_s_isle q_s_fresh q_s_then q_s_was q_s_tape q_s_isKept q_s_kept q_s_trace : Nat) (s_thrown : Int32) (s_status : Int32) (s_lane : (Nat → Int32)) (s_many : (Nat → Int32)) (s_item : (Nat → Int32)) (s_isle : (Nat → Int32)) (s_fresh : (Nat → Int32)) (s_then : (Nat → Int32)) (s_was : (Nat → Int32)) (s_acts : Int32) (s_tape : (Nat → Int32)) (s_taped : Int32) (s_cursor : Int32) (s_start : Int32) (s_token : Int32) (s_value : Int32) (s_fault : Int32) (s_faultAt : Int32) (s_latest : Int32) (s_isKept : (Nat → Int32)) (s_kept : (Nat → Int32)) (s_trace : (Nat → Int32)) (s_traced : Int32) (v1 : Int32) (sz : Nat) (res : Int32 × Int32 × Int32 × Int32 × Int32 × Int32) (hf : fX9_must s_tape s_taped s_cursor s_start s_token s_value s_fault s_faultAt v1 = some res) : Met l yX9_must wsX9_must rmX9_must (mtPc (dC, dI) (tyZ cI cZ) ((W_M cI cZ q_s q_s_lane q_s_many q_s_item q_s_isle q_s_fresh q_s_then q_s_was q_s_tape q_s_isKept q_s_kept q_s_trace s_thrown s_status s_lane s_many s_item s_isle s_fresh s_then s_was s_acts s_tape s_taped s_cursor s_start s_token s_value s_fault s_faultAt s_latest s_isKept s_kept s_trace s_traced)) [.ref q_s, .int v1] sz) (mtQv (dC, dI) (tyZ cI cZ) ((W_M cI cZ q_s q_s_lane q_s_many q_s_item q_s_isle q_s_fresh q_s_then q_s_was q_s_tape q_s_isKept q_s_kept q_s_trace s_thrown s_status s_lane s_many s_item s_isle s_fresh s_then s_was s_acts s_tape s_taped s_cursor s_start s_token s_value s_fault s_faultAt s_latest s_isKept s_kept s_trace s_traced)) ((W_M cI cZ q_s q_s_lane q_s_many q_s_item q_s_isle q_s_fresh q_s_then q_s_was q_s_tape q_s_isKept q_s_kept q_s_trace s_thrown s_status s_lane s_many s_item s_isle s_fresh s_then s_was s_acts s_tape s_taped res.1 res.2.1 res.2.2.1 res.2.2.2.1 res.2.2.2.2.1 res.2.2.2.2.2 s_latest s_isKept s_kept s_trace s_traced)) sz) 0 0 (va_A ((W_M cI cZ q_s q_s_lane q_s_many q_s_item q_s_isle q_s_fresh q_s_then q_s_was q_s_tape q_s_isKept q_s_kept q_s_trace s_thrown s_status s_lane s_many s_item s_isle s_fresh s_then s_was s_acts s_tape s_taped s_cursor s_start s_token s_value s_fault s_faultAt s_latest s_isKept s_kept s_trace s_traced)) sz) := by
  refine Met.ofW (cc := cX9_must) (maxL := 2) (ret := none) (by decide) rfl ?_
  intro p e s m args below meth c s₁ B hml hv
  obtain ⟨rfl, hsz, hP, hK, hD0⟩ := hv
  have hx := B.exec
  have hb := B.bytes
  have hr := B.returns
  have hts := atoms_spec (ws := wsX9_must) B.pre
  have hown : s.vm.findClass RX9 = some m.cls := findClass_of_methodNamed B.named
  have hlocks := B.notSynchronized
  subst hsz
  have hD := hD0.self (sz := s.heap.size)
  obtain ⟨A, hAe⟩ : ∃ A, A = va_A ((W_M cI cZ q_s q_s_lane q_s_many q_s_item q_s_isle q_s_fresh q_s_then q_s_was q_s_tape q_s_isKept q_s_kept q_s_trace s_thrown s_status s_lane s_many s_item s_isle s_fresh s_then s_was s_acts s_tape s_taped s_cursor s_start s_token s_value s_fault s_faultAt s_latest s_isKept s_kept s_trace s_traced)) s.heap.size := ⟨_, rfl⟩
  rw [← hAe] at hD
  have hA : ∀ q : Nat, s.heap.size ≤ q → A q := fun q h => by rw [hAe]; exact Or.inr h
  have hS : va_S A s.heap s.heap [] := va_S.rf
  have hl := lv_entry ([.ref q_s, .int v1]) (n := 2) (Nat.le_of_ble_eq_true rfl)
  rw [lg_entry_eq]
  generalize (lg_sl ([.ref q_s, .int v1]) ++ List.replicate (2 - (lg_sl ([.ref q_s, .int v1])).length) Slot.unset).toArray = ls at hl ⊢
  have hl : lv_has ls 2 [(0, .ref q_s), (1, .int v1)] := hl
  obtain ⟨QQ, hQQ⟩ : ∃ Q, Q = MQ below (mtQv (dC, dI) (tyZ cI cZ) ((W_M cI cZ q_s q_s_lane q_s_many q_s_item q_s_isle q_s_fresh q_s_then q_s_was q_s_tape q_s_isKept q_s_kept q_s_trace s_thrown s_status s_lane s_many s_item s_isle s_fresh s_then s_was s_acts s_tape s_taped s_cursor s_start s_token s_value s_fault s_faultAt s_latest s_isKept s_kept s_trace s_traced)) ((W_M cI cZ q_s q_s_lane q_s_many q_s_item q_s_isle q_s_fresh q_s_then q_s_was q_s_tape q_s_isKept q_s_kept q_s_trace s_thrown s_status s_lane s_many s_item s_isle s_fresh s_then s_was s_acts s_tape s_taped res.1 res.2.1 res.2.2.1 res.2.2.2.1 res.2.2.2.2.1 res.2.2.2.2.2 s_latest s_isKept s_kept s_trace s_traced)) s.heap.size) ([.ref q_s, .int v1] : List Value).toArray s 0 0 (va_A ((W_M cI cZ q_s q_s_lane q_s_many q_s_item q_s_isle q_s_fresh q_s_then q_s_was q_s_tape q_s_isKept q_s_kept q_s_trace s_thrown s_status s_lane s_many s_item s_isle s_fresh s_then s_was s_acts s_tape s_taped s_cursor s_start s_token s_value s_fault s_faultAt s_latest s_isKept s_kept s_trace s_traced)) s.heap.size) := ⟨_, rfl⟩
  rw [← hQQ]
  have w_0 := hts (Cond.fieldLink RX9 75 "TideInchesModel" "fault" "I") (List.mem_of_getElem? (i := 1) rfl)
  have w_1 := (fun w hw => List.mem_cons_of_mem _ (List.mem_append_right _ hw) : ∀ w ∈ wsX90, w ∈ wsX9_must)
  have h := hf
  unfold fX9_must at h
  refine lv_iload_n hx hb dX9_must_0 rfl (lv_at hl 1 rfl) ?_
  refine lv_if_ne (tgt := 9) hx hb dX9_must_1 (by decide) (fun c_1 => ?_) (fun c_1 => ?_)
  · have h := (if_neg c_1).symm.trans h
    refine lv_aload_n hx hb dX9_must_9 rfl (lv_at hl 0 rfl) ?_
    refine va_get (D := (dC, dI)) (ci := 7) (v := .int s_fault) (C := RX9) (T := TX9) (N := 23) hx hb hts w_1 hown hK hP 0 rfl rfl 16 (by decide) w_0 (fun _ h9 => h9) rfl dX9_must_10 ?_
    refine lv_if_ne (tgt := 20) hx hb dX9_must_13 (by decide) (fun c_2 => ?_) (fun c_2 => ?_)
    · have h := (if_neg c_2).symm.trans h
      have h := Option.some.inj h
      subst h
      rw [hQQ]
      subst hAe
      exact W.vret hx hb hr (fun t ht hW => ⟨⟨(), rfl, trivial, by rw [ht]; exact hP, va_K.moved hW.alike hK, hD⟩, hS.F ht⟩) hS.2.2 dX9_must_20
    · have h := (if_pos c_2).symm.trans h
      refine lv_aload_n hx hb dX9_must_16 rfl (lv_at hl 0 rfl) ?_
      obtain ⟨s_cursor_3, s_start_3, s_token_3, s_value_3, hc_3, h⟩ := bd4_of h
      refine cl_mVv (As := []) (rest := []) (ws' := (W_M cI cZ q_s q_s_lane q_s_many q_s_item q_s_isle q_s_fresh q_s_then q_s_was q_s_tape q_s_isKept q_s_kept q_s_trace s_thrown s_status s_lane s_many s_item s_isle s_fresh s_then s_was s_acts s_tape s_taped s_cursor_3 s_start_3 s_token_3 s_value_3 s_fault s_faultAt s_latest s_isKept s_kept s_trace s_traced)) (wr := []) ⟨hx, hb, hml, hown, hts⟩ (m_X9_nextToken l dC dI cI cZ q_s q_s_lane q_s_many q_s_item q_s_isle q_s_fresh q_s_then q_s_was q_s_tape q_s_isKept q_s_kept q_s_trace s_thrown s_status s_lane s_many s_item s_isle s_fresh s_then s_was s_acts s_tape s_taped s_cursor s_start s_token s_value s_fault s_faultAt s_latest s_isKept s_kept s_trace s_traced _ (s_cursor_3, s_start_3, s_token_3, s_value_3) hc_3) (cwV 0 hts gX9_must_X9_nextToken rfl rfl rfl ⟨rfl, ddX9_nextToken⟩ ⟨Nat.le_of_ble_eq_true rfl, Nat.le_of_ble_eq_true rfl⟩) hK hP hD hS hA [0, 1, 2, 3, 4, 5, 6, 7, 8, 9, 10, 11] [] rfl rfl rfl rfl (by decide) [0, 1, 2, 3, 4, 5, 6, 7, 8, 9, 10, 11] rfl rfl rfl rfl rfl rfl rfl hl.1 (Nat.le_of_ble_eq_true rfl) ⟨Nat.zero_le _, Nat.zero_le _⟩ dX9_must_17 (fun H locs hP hD hS => ?_)
      have h := Option.some.inj h
      subst h
      rw [hQQ]
      subst hAe
      exact W.vret hx hb hr (fun t ht hW => ⟨⟨(), rfl, trivial, by rw [ht]; exact hP, va_K.moved hW.alike hK, hD⟩, hS.F ht⟩) hS.2.2 dX9_must_20
  · have h := (if_pos c_1).symm.trans h
    refine lv_aload_n hx hb dX9_must_4 rfl (lv_at hl 0 rfl) ?_
    refine lv_iconst (v := 1) hx hb dX9_must_5 (by decide) ?_
    obtain ⟨s_fault_4, s_faultAt_4, hc_4, h⟩ := bd2_of h
    refine cl_mVv (As := [.int 1]) (rest := []) (ws' := (W_M cI cZ q_s q_s_lane q_s_many q_s_item q_s_isle q_s_fresh q_s_then q_s_was q_s_tape q_s_isKept q_s_kept q_s_trace s_thrown s_status s_lane s_many s_item s_isle s_fresh s_then s_was s_acts s_tape s_taped s_cursor s_start s_token s_value s_fault_4 s_faultAt_4 s_latest s_isKept s_kept s_trace s_traced)) (wr := []) ⟨hx, hb, hml, hown, hts⟩ (m_X9_bad l dC dI cI cZ q_s q_s_lane q_s_many q_s_item q_s_isle q_s_fresh q_s_then q_s_was q_s_tape q_s_isKept q_s_kept q_s_trace s_thrown s_status s_lane s_many s_item s_isle s_fresh s_then s_was s_acts s_tape s_taped s_cursor s_start s_token s_value s_fault s_faultAt s_latest s_isKept s_kept s_trace s_traced 1 _ (s_fault_4, s_faultAt_4) hc_4) (cwV 1 hts gX9_must_X9_bad rfl rfl rfl ⟨rfl, ddX9_bad⟩ ⟨Nat.le_of_ble_eq_true rfl, Nat.le_of_ble_eq_true rfl⟩) hK hP hD hS hA [0, 1, 2, 3, 4, 5, 6, 7, 8, 9, 10, 11] [] rfl rfl rfl rfl (by decide) [0, 1, 2, 3, 4, 5, 6, 7, 8, 9, 10, 11] rfl rfl rfl rfl rfl rfl rfl hl.1 (Nat.le_of_ble_eq_true rfl) ⟨Nat.zero_le _, Nat.zero_le _⟩ dX9_must_6 (fun H locs hP hD hS => ?_)
    refine lv_aload_n hx hb dX9_must_9 rfl (lv_at hl 0 rfl) ?_
    refine va_get (D := (dC, dI)) (ci := 7) (v := .int s_fault_4) (C := RX9) (T := TX9) (N := 23) hx hb hts w_1 hown hK hP 0 rfl rfl 16 (by decide) w_0 (fun _ h9 => h9) rfl dX9_must_10 ?_
    refine lv_if_ne (tgt := 20) hx hb dX9_must_13 (by decide) (fun c_5 => ?_) (fun c_5 => ?_)
    · have h := (if_neg c_5).symm.trans h
      have h := Option.some.inj h
      subst h
      rw [hQQ]
      subst hAe
      exact W.vret hx hb hr (fun t ht hW => ⟨⟨(), rfl, trivial, by rw [ht]; exact hP, va_K.moved hW.alike hK, hD⟩, hS.F ht⟩) hS.2.2 dX9_must_20
    · have h := (if_pos c_5).symm.trans h
      refine lv_aload_n hx hb dX9_must_16 rfl (lv_at hl 0 rfl) ?_
      obtain ⟨s_cursor_6, s_start_6, s_token_6, s_value_6, hc_6, h⟩ := bd4_of h
      refine cl_mVv (As := []) (rest := []) (ws' := (W_M cI cZ q_s q_s_lane q_s_many q_s_item q_s_isle q_s_fresh q_s_then q_s_was q_s_tape q_s_isKept q_s_kept q_s_trace s_thrown s_status s_lane s_many s_item s_isle s_fresh s_then s_was s_acts s_tape s_taped s_cursor_6 s_start_6 s_token_6 s_value_6 s_fault_4 s_faultAt_4 s_latest s_isKept s_kept s_trace s_traced)) (wr := []) ⟨hx, hb, hml, hown, hts⟩ (m_X9_nextToken l dC dI cI cZ q_s q_s_lane q_s_many q_s_item q_s_isle q_s_fresh q_s_then q_s_was q_s_tape q_s_isKept q_s_kept q_s_trace s_thrown s_status s_lane s_many s_item s_isle s_fresh s_then s_was s_acts s_tape s_taped s_cursor s_start s_token s_value s_fault_4 s_faultAt_4 s_latest s_isKept s_kept s_trace s_traced _ (s_cursor_6, s_start_6, s_token_6, s_value_6) hc_6) (cwV 0 hts gX9_must_X9_nextToken rfl rfl rfl ⟨rfl, ddX9_nextToken⟩ ⟨Nat.le_of_ble_eq_true rfl, Nat.le_of_ble_eq_true rfl⟩) hK hP hD hS hA [0, 1, 2, 3, 4, 5, 6, 7, 8, 9, 10, 11] [] rfl rfl rfl rfl (by decide) [0, 1, 2, 3, 4, 5, 6, 7, 8, 9, 10, 11] rfl rfl rfl rfl rfl rfl rfl hl.1 (Nat.le_of_ble_eq_true rfl) ⟨Nat.zero_le _, Nat.zero_le _⟩ dX9_must_17 (fun H locs hP hD hS => ?_)
      have h := Option.some.inj h
      subst h
      rw [hQQ]
      subst hAe
      exact W.vret hx hb hr (fun t ht hW => ⟨⟨(), rfl, trivial, by rw [ht]; exact hP, va_K.moved hW.alike hK, hD⟩, hS.F ht⟩) hS.2.2 dX9_must_20
def fX9_isLetter (s_token : Int32) (s_value : Int32) (s_fault : Int32) (v1 : Int32) : Option (Int32) :=
  (if s_fault = 0 then (if s_token = 2 then (if s_value = v1 then some (1) else some (0)) else some (0)) else some (0))
abbrev rmX9_isLetter : Room := { frames := 0, cells := 0, slots := 0, locals := 0 }
theorem ddX9_isLetter : yX9_isLetter.cls ≠ "java/lang/invoke/MethodHandle" ∧ yX9_isLetter.cls ≠ "java/lang/invoke/VarHandle" ∧ (parseMethodDescriptor yX9_isLetter.desc).map (fun d => d.parameters.length) = some 1 := by decide +kernel
set_option maxHeartbeats 4000000 in
set_option maxRecDepth 100000 in
theorem m_X9_isLetter (l : Launch) (dC : Nat → ClassId) (dI : Nat → Nat → Nat) (cI cZ : ClassId) (q_s q_s_lane q_s_many q_s_item q_s_isle q_s_fresh q_s_then q_s_was q_s_tape q_s_isKept q_s_kept q_s_trace : Nat) (s_thrown : Int32) (s_status : Int32) (s_lane : (Nat → Int32)) (s_many : (Nat → Int32)) (s_item : (Nat → Int32)) (s_isle : (Nat → Int32)) (s_fresh : (Nat → Int32)) (s_then : (Nat → Int32)) (s_was : (Nat → Int32)) (s_acts : Int32) (s_tape : (Nat → Int32)) (s_taped : Int32) (s_cursor : Int32) (s_start : Int32) (s_token : Int32) (s_value : Int32) (s_fault : Int32) (s_faultAt : Int32) (s_latest : Int32) (s_isKept : (Nat → Int32)) (s_kept : (Nat → Int32)) (s_trace : (Nat → Int32)) (s_traced : Int32) (v1 : Int32) (res : Int32) (hf : fX9_isLetter s_token s_value s_fault v1 = some res) : Met l yX9_isLetter wsX9_isLetter rmX9_isLetter (rdPc (dC, dI) (tyZ cI cZ) ((W_M cI cZ q_s q_s_lane q_s_many q_s_item q_s_isle q_s_fresh q_s_then q_s_was q_s_tape q_s_isKept q_s_kept q_s_trace s_thrown s_status s_lane s_many s_item s_isle s_fresh s_then s_was s_acts s_tape s_taped s_cursor s_start s_token s_value s_fault s_faultAt s_latest s_isKept s_kept s_trace s_traced)) [.ref q_s, .int v1]) (rdQ res) 0 0 (fun _ => False) := by
  refine Met.ofW (cc := cX9_isLetter) (maxL := 2) (ret := (some .boolean)) (by decide) rfl ?_
  intro p e s m args below meth c s₁ B hml hv
  obtain ⟨rfl, hP, hK⟩ := hv
  have hx := B.exec
  have hb := B.bytes
  have hr := B.returns
  have hts := atoms_spec (ws := wsX9_isLetter) B.pre
  have hown : s.vm.findClass RX9 = some m.cls := findClass_of_methodNamed B.named
  have hlocks := B.notSynchronized
  have hl := lv_entry ([.ref q_s, .int v1]) (n := 2) (Nat.le_of_ble_eq_true rfl)
  rw [lg_entry_eq]
  generalize (lg_sl ([.ref q_s, .int v1]) ++ List.replicate (2 - (lg_sl ([.ref q_s, .int v1])).length) Slot.unset).toArray = ls at hl ⊢
  have hl : lv_has ls 2 [(0, .ref q_s), (1, .int v1)] := hl
  obtain ⟨QQ, hQQ⟩ : ∃ Q, Q = MQ below (rdQ res) ([.ref q_s, .int v1] : List Value).toArray s 0 0 (fun _ => False) := ⟨_, rfl⟩
  rw [← hQQ]
  have w_0 := hts (Cond.fieldLink RX9 75 "TideInchesModel" "fault" "I") (List.mem_of_getElem? (i := 1) rfl)
  have w_1 := (fun w hw => List.mem_cons_of_mem _ (List.mem_append_right _ hw) : ∀ w ∈ wsX90, w ∈ wsX9_isLetter)
  have w_2 := hts (Cond.fieldLink RX9 99 "TideInchesModel" "token" "I") (List.mem_of_getElem? (i := 2) rfl)
  have w_3 := hts (Cond.fieldLink RX9 88 "TideInchesModel" "value" "I") (List.mem_of_getElem? (i := 3) rfl)
  have h := hf
  unfold fX9_isLetter at h
  refine lv_aload_n hx hb dX9_isLetter_0 rfl (lv_at hl 0 rfl) ?_
  refine va_get (D := (dC, dI)) (ci := 7) (v := .int s_fault) (C := RX9) (T := TX9) (N := 23) hx hb hts w_1 hown hK hP 0 rfl rfl 16 (by decide) w_0 (fun _ h9 => h9) rfl dX9_isLetter_1 ?_
  refine lv_if_ne (tgt := 27) hx hb dX9_isLetter_4 (by decide) (fun c_1 => ?_) (fun c_1 => ?_)
  · have h := (if_neg c_1).symm.trans h
    refine lv_iconst (v := 0) hx hb dX9_isLetter_27 (by decide) ?_
    rw [hQQ]
    exact W.zret (v := 0) (ty := .boolean) hx hb hr rfl (fun t ht hW => ⟨_, rfl, Option.some.inj h, ht⟩) (fun q hq => by cases hq) dX9_isLetter_28
  · have h := (if_pos c_1).symm.trans h
    refine lv_aload_n hx hb dX9_isLetter_7 rfl (lv_at hl 0 rfl) ?_
    refine va_get (D := (dC, dI)) (ci := 7) (v := .int s_token) (C := RX9) (T := TX9) (N := 23) hx hb hts w_1 hown hK hP 0 rfl rfl 14 (by decide) w_2 (fun _ h9 => h9) rfl dX9_isLetter_8 ?_
    refine lv_iconst (v := 2) hx hb dX9_isLetter_11 (by decide) ?_
    refine lv_icmp_ne (tgt := 27) hx hb dX9_isLetter_12 (by decide) (fun c_2 => ?_) (fun c_2 => ?_)
    · have h := (if_neg c_2).symm.trans h
      refine lv_iconst (v := 0) hx hb dX9_isLetter_27 (by decide) ?_
      rw [hQQ]
      exact W.zret (v := 0) (ty := .boolean) hx hb hr rfl (fun t ht hW => ⟨_, rfl, Option.some.inj h, ht⟩) (fun q hq => by cases hq) dX9_isLetter_28
    · have h := (if_pos c_2).symm.trans h
      refine lv_aload_n hx hb dX9_isLetter_15 rfl (lv_at hl 0 rfl) ?_
      refine va_get (D := (dC, dI)) (ci := 7) (v := .int s_value) (C := RX9) (T := TX9) (N := 23) hx hb hts w_1 hown hK hP 0 rfl rfl 15 (by decide) w_3 (fun _ h9 => h9) rfl dX9_isLetter_16 ?_
      refine lv_iload_n hx hb dX9_isLetter_19 rfl (lv_at hl 1 rfl) ?_
      refine lv_icmp_ne (tgt := 27) hx hb dX9_isLetter_20 (by decide) (fun c_3 => ?_) (fun c_3 => ?_)
      · have h := (if_neg c_3).symm.trans h
        refine lv_iconst (v := 0) hx hb dX9_isLetter_27 (by decide) ?_
        rw [hQQ]
        exact W.zret (v := 0) (ty := .boolean) hx hb hr rfl (fun t ht hW => ⟨_, rfl, Option.some.inj h, ht⟩) (fun q hq => by cases hq) dX9_isLetter_28
      · have h := (if_pos c_3).symm.trans h
        refine lv_iconst (v := 1) hx hb dX9_isLetter_23 (by decide) ?_
        refine lv_goto (tgt := 28) hx hb dX9_isLetter_24 (by decide) ?_
        rw [hQQ]
        exact W.zret (v := 1) (ty := .boolean) hx hb hr rfl (fun t ht hW => ⟨_, rfl, Option.some.inj h, ht⟩) (fun q hq => by cases hq) dX9_isLetter_28
def fX9_number_J47 (s_tape : (Nat → Int32)) (s_taped : Int32) (s_cursor : Int32) (s_start : Int32) (s_token : Int32) (s_value : Int32) (v1 : Int32) (s_fault_j47 : Int32) (s_faultAt_j47 : Int32) : Option (Int32 × Int32 × Int32 × Int32 × Int32 × Int32 × Int32) :=
  (if s_fault_j47 = 0 then bd6 (fX9_must s_tape s_taped s_cursor s_start s_token s_value s_fault_j47 s_faultAt_j47 1) (fun s_cursor_3 s_start_3 s_token_3 s_value_3 s_fault_3 s_faultAt_3 => some (s_value, s_cursor_3, s_start_3, s_token_3, s_value_3, s_fault_3, s_faultAt_3)) else bd6 (fX9_must s_tape s_taped s_cursor s_start s_token s_value s_fault_j47 s_faultAt_j47 1) (fun s_cursor_2 s_start_2 s_token_2 s_value_2 s_fault_2 s_faultAt_2 => some (v1, s_cursor_2, s_start_2, s_token_2, s_value_2, s_fault_2, s_faultAt_2)))
def fX9_number_J20 (s_tape : (Nat → Int32)) (s_taped : Int32) (s_cursor : Int32) (s_start : Int32) (s_token : Int32) (s_value : Int32) (v1 : Int32) (v2 : Int32) (s_fault_j20 : Int32) (s_faultAt_j20 : Int32) : Option (Int32 × Int32 × Int32 × Int32 × Int32 × Int32 × Int32) :=
  (if s_fault_j20 = 0 then bd1 (fX9_in s_value.toInt64 v1.toInt64 v2.toInt64) (fun r_5 => (if r_5 = 0 then bd2 (fX9_bad s_start s_fault_j20 s_faultAt_j20 2) (fun s_fault_7 s_faultAt_7 => (fX9_number_J47 s_tape s_taped s_cursor s_start s_token s_value v1 s_fault_7 s_faultAt_7)) else (fX9_number_J47 s_tape s_taped s_cursor s_start s_token s_value v1 s_fault_j20 s_faultAt_j20))) else (fX9_number_J47 s_tape s_taped s_cursor s_start s_token s_value v1 s_fault_j20 s_faultAt_j20))
def fX9_number (s_tape : (Nat → Int32)) (s_taped : Int32) (s_cursor : Int32) (s_start : Int32) (s_token : Int32) (s_value : Int32) (s_fault : Int32) (s_faultAt : Int32) (v1 : Int32) (v2 : Int32) : Option (Int32 × Int32 × Int32 × Int32 × Int32 × Int32 × Int32) :=
  (if s_fault = 0 then (if s_token = 3 then (fX9_number_J20 s_tape s_taped s_cursor s_start s_token s_value v1 v2 s_fault s_faultAt) else bd2 (fX9_bad s_start s_fault s_faultAt 1) (fun s_fault_10 s_faultAt_10 => (fX9_number_J20 s_tape s_taped s_cursor s_start s_token s_value v1 v2 s_fault_10 s_faultAt_10))) else (fX9_number_J20 s_tape s_taped s_cursor s_start s_token s_value v1 v2 s_fault s_faultAt))
abbrev rmX9_number : Room := { frames := 3, cells := 0, slots := 0, locals := 66 }
theorem ddX9_number : yX9_number.cls ≠ "java/lang/invoke/MethodHandle" ∧ yX9_number.cls ≠ "java/lang/invoke/VarHandle" ∧ (parseMethodDescriptor yX9_number.desc).map (fun d => d.parameters.length) = some 2 := by decide +kernel
set_option maxHeartbeats 4000000 in
set_option maxRecDepth 100000 in
theorem m_X9_number (l : Launch) (dC : Nat → ClassId) (dI : Nat → Nat → Nat) (cI cZ : ClassId) (q_s q_s_lane q_s_many q_s_item q_s_isle q_s_fresh q_s_then q_s_was q_s_tape q_s_isKept q_s_kept q_s_trace : Nat) (s_thrown : Int32) (s_status : Int32) (s_lane : (Nat → Int32)) (s_many : (Nat → Int32)) (s_item : (Nat → Int32)) (s_isle : (Nat → Int32)) (s_fresh : (Nat → Int32)) (s_then : (Nat → Int32)) (s_was : (Nat → Int32)) (s_acts : Int32) (s_tape : (Nat → Int32)) (s_taped : Int32) (s_cursor : Int32) (s_start : Int32) (s_token : Int32) (s_value : Int32) (s_fault : Int32) (s_faultAt : Int32) (s_latest : Int32) (s_isKept : (Nat → Int32)) (s_kept : (Nat → Int32)) (s_trace : (Nat → Int32)) (s_traced : Int32) (v1 : Int32) (v2 : Int32) (sz : Nat) (res : Int32 × Int32 × Int32 × Int32 × Int32 × Int32 × Int32) (hf : fX9_number s_tape s_taped s_cursor s_start s_token s_value s_fault s_faultAt v1 v2 = some res) : Met l yX9_number wsX9_number rmX9_number (mtPc (dC, dI) (tyZ cI cZ) ((W_M cI cZ q_s q_s_lane q_s_many q_s_item q_s_isle q_s_fresh q_s_then q_s_was q_s_tape q_s_isKept q_s_kept q_s_trace s_thrown s_status s_lane s_many s_item s_isle s_fresh s_then s_was s_acts s_tape s_taped s_cursor s_start s_token s_value s_fault s_faultAt s_latest s_isKept s_kept s_trace s_traced)) [.ref q_s, .int v1, .int v2] sz) (mtQi (dC, dI) (tyZ cI cZ) ((W_M cI cZ q_s q_s_lane q_s_many q_s_item q_s_isle q_s_fresh q_s_then q_s_was q_s_tape q_s_isKept q_s_kept q_s_trace s_thrown s_status s_lane s_many s_item s_isle s_fresh s_then s_was s_acts s_tape s_taped s_cursor s_start s_token s_value s_fault s_faultAt s_latest s_isKept s_kept s_trace s_traced)) ((W_M cI cZ q_s q_s_lane q_s_many q_s_item q_s_isle q_s_fresh q_s_then q_s_was q_s_tape q_s_isKept q_s_kept q_s_trace s_thrown s_status s_lane s_many s_item s_isle s_fresh s_then s_was s_acts s_tape s_taped res.2.1 res.2.2.1 res.2.2.2.1 res.2.2.2.2.1 res.2.2.2.2.2.1 res.2.2.2.2.2.2 s_latest s_isKept s_kept s_trace s_traced)) res.1 sz) 0 0 (va_A ((W_M cI cZ q_s q_s_lane q_s_many q_s_item q_s_isle q_s_fresh q_s_then q_s_was q_s_tape q_s_isKept q_s_kept q_s_trace s_thrown s_status s_lane s_many s_item s_isle s_fresh s_then s_was s_acts s_tape s_taped s_cursor s_start s_token s_value s_fault s_faultAt s_latest s_isKept s_kept s_trace s_traced)) sz) := by
  refine Met.ofW (cc := cX9_number) (maxL := 4) (ret := (some .int)) (by decide) rfl ?_
  intro p e s m args below meth c s₁ B hml hv
  obtain ⟨rfl, hsz, hP, hK, hD0⟩ := hv
  have hx := B.exec
  have hb := B.bytes
  have hr := B.returns
  have hts := atoms_spec (ws := wsX9_number) B.pre
  have hown : s.vm.findClass RX9 = some m.cls := findClass_of_methodNamed B.named
  have hlocks := B.notSynchronized
  subst hsz
  have hD := hD0.self (sz := s.heap.size)
  obtain ⟨A, hAe⟩ : ∃ A, A = va_A ((W_M cI cZ q_s q_s_lane q_s_many q_s_item q_s_isle q_s_fresh q_s_then q_s_was q_s_tape q_s_isKept q_s_kept q_s_trace s_thrown s_status s_lane s_many s_item s_isle s_fresh s_then s_was s_acts s_tape s_taped s_cursor s_start s_token s_value s_fault s_faultAt s_latest s_isKept s_kept s_trace s_traced)) s.heap.size := ⟨_, rfl⟩
  rw [← hAe] at hD
  have hA : ∀ q : Nat, s.heap.size ≤ q → A q := fun q h => by rw [hAe]; exact Or.inr h
  have hS : va_S A s.heap s.heap [] := va_S.rf
  have hl := lv_entry ([.ref q_s, .int v1, .int v2]) (n := 4) (Nat.le_of_ble_eq_true rfl)
  rw [lg_entry_eq]
  generalize (lg_sl ([.ref q_s, .int v1, .int v2]) ++ List.replicate (4 - (lg_sl ([.ref q_s, .int v1, .int v2])).length) Slot.unset).toArray = ls at hl ⊢
  have hl : lv_has ls 4 [(0, .ref q_s), (1, .int v1), (2, .int v2)] := hl
  obtain ⟨QQ, hQQ⟩ : ∃ Q, Q = MQ below (mtQi (dC, dI) (tyZ cI cZ) ((W_M cI cZ q_s q_s_lane q_s_many q_s_item q_s_isle q_s_fresh q_s_then q_s_was q_s_tape q_s_isKept q_s_kept q_s_trace s_thrown s_status s_lane s_many s_item s_isle s_fresh s_then s_was s_acts s_tape s_taped s_cursor s_start s_token s_value s_fault s_faultAt s_latest s_isKept s_kept s_trace s_traced)) ((W_M cI cZ q_s q_s_lane q_s_many q_s_item q_s_isle q_s_fresh q_s_then q_s_was q_s_tape q_s_isKept q_s_kept q_s_trace s_thrown s_status s_lane s_many s_item s_isle s_fresh s_then s_was s_acts s_tape s_taped res.2.1 res.2.2.1 res.2.2.2.1 res.2.2.2.2.1 res.2.2.2.2.2.1 res.2.2.2.2.2.2 s_latest s_isKept s_kept s_trace s_traced)) res.1 s.heap.size) ([.ref q_s, .int v1, .int v2] : List Value).toArray s 0 0 (va_A ((W_M cI cZ q_s q_s_lane q_s_many q_s_item q_s_isle q_s_fresh q_s_then q_s_was q_s_tape q_s_isKept q_s_kept q_s_trace s_thrown s_status s_lane s_many s_item s_isle s_fresh s_then s_was s_acts s_tape s_taped s_cursor s_start s_token s_value s_fault s_faultAt s_latest s_isKept s_kept s_trace s_traced)) s.heap.size) := ⟨_, rfl⟩
  rw [← hQQ]
  have w_0 := hts (Cond.fieldLink RX9 75 "TideInchesModel" "fault" "I") (List.mem_of_getElem? (i := 1) rfl)
  have w_1 := (fun w hw => List.mem_cons_of_mem _ (List.mem_append_right _ hw) : ∀ w ∈ wsX90, w ∈ wsX9_number)
  have w_2 := hts (Cond.fieldLink RX9 88 "TideInchesModel" "value" "I") (List.mem_of_getElem? (i := 3) rfl)
  have w_3 := hts (Cond.fieldLink RX9 99 "TideInchesModel" "token" "I") (List.mem_of_getElem? (i := 2) rfl)
  have h := hf
  unfold fX9_number at h
  refine lv_aload_n hx hb dX9_number_0 rfl (lv_at hl 0 rfl) ?_
  refine va_get (D := (dC, dI)) (ci := 7) (v := .int s_fault) (C := RX9) (T := TX9) (N := 23) hx hb hts w_1 hown hK hP 0 rfl rfl 16 (by decide) w_0 (fun _ h9 => h9) rfl dX9_number_1 ?_
  have KJ20 : ∀ (s_fault_j20 : Int32) (s_faultAt_j20 : Int32) (H : Heap) (locs : List Loc) (ls : Array Slot), va_P (dC, dI) vwCl ((W_M cI cZ q_s q_s_lane q_s_many q_s_item q_s_isle q_s_fresh q_s_then q_s_was q_s_tape q_s_isKept q_s_kept q_s_trace s_thrown s_status s_lane s_many s_item s_isle s_fresh s_then s_was s_acts s_tape s_taped s_cursor s_start s_token s_value s_fault_j20 s_faultAt_j20 s_latest s_isKept s_kept s_trace s_traced)) H → va_D A ((W_M cI cZ q_s q_s_lane q_s_many q_s_item q_s_isle q_s_fresh q_s_then q_s_was q_s_tape q_s_isKept q_s_kept q_s_trace s_thrown s_status s_lane s_many s_item s_isle s_fresh s_then s_was s_acts s_tape s_taped s_cursor s_start s_token s_value s_fault_j20 s_faultAt_j20 s_latest s_isKept s_kept s_trace s_traced)) → va_S A s.heap H locs → lv_has ls 4 [(0, .ref q_s), (1, .int v1), (2, .int v2)] → fX9_number_J20 s_tape s_taped s_cursor s_start s_token s_value v1 v2 s_fault_j20 s_faultAt_j20 = some res → W p l e (headSpec wsX9_number rmX9_number).room s m ([.ref q_s, .int v1, .int v2] : List Value).toArray below meth c H locs 0 0 QQ (F0 m 20 ls []) := by
    intro s_fault_j20 s_faultAt_j20 H locs ls hP hD hS hl h
    unfold fX9_number_J20 at h
    refine lv_aload_n hx hb dX9_number_20 rfl (lv_at hl 0 rfl) ?_
    refine va_get (D := (dC, dI)) (ci := 7) (v := .int s_fault_j20) (C := RX9) (T := TX9) (N := 23) hx hb hts w_1 hown hK hP 0 rfl rfl 16 (by decide) w_0 (fun _ h9 => h9) rfl dX9_number_21 ?_
    have KJ47 : ∀ (s_fault_j47 : Int32) (s_faultAt_j47 : Int32) (H : Heap) (locs : List Loc) (ls : Array Slot), va_P (dC, dI) vwCl ((W_M cI cZ q_s q_s_lane q_s_many q_s_item q_s_isle q_s_fresh q_s_then q_s_was q_s_tape q_s_isKept q_s_kept q_s_trace s_thrown s_status s_lane s_many s_item s_isle s_fresh s_then s_was s_acts s_tape s_taped s_cursor s_start s_token s_value s_fault_j47 s_faultAt_j47 s_latest s_isKept s_kept s_trace s_traced)) H → va_D A ((W_M cI cZ q_s q_s_lane q_s_many q_s_item q_s_isle q_s_fresh q_s_then q_s_was q_s_tape q_s_isKept q_s_kept q_s_trace s_thrown s_status s_lane s_many s_item s_isle s_fresh s_then s_was s_acts s_tape s_taped s_cursor s_start s_token s_value s_fault_j47 s_faultAt_j47 s_latest s_isKept s_kept s_trace s_traced)) → va_S A s.heap H locs → lv_has ls 4 [(0, .ref q_s), (1, .int v1)] → fX9_number_J47 s_tape s_taped s_cursor s_start s_token s_value v1 s_fault_j47 s_faultAt_j47 = some res → W p l e (headSpec wsX9_number rmX9_number).room s m ([.ref q_s, .int v1, .int v2] : List Value).toArray below meth c H locs 0 0 QQ (F0 m 47 ls []) := by
      intro s_fault_j47 s_faultAt_j47 H locs ls hP hD hS hl h
      unfold fX9_number_J47 at h
      refine lv_aload_n hx hb dX9_number_47 rfl (lv_at hl 0 rfl) ?_
      refine va_get (D := (dC, dI)) (ci := 7) (v := .int s_fault_j47) (C := RX9) (T := TX9) (N := 23) hx hb hts w_1 hown hK hP 0 rfl rfl 16 (by decide) w_0 (fun _ h9 => h9) rfl dX9_number_48 ?_
      refine lv_if_ne (tgt := 61) hx hb dX9_number_51 (by decide) (fun c_1 => ?_) (fun c_1 => ?_)
      · have h := (if_neg c_1).symm.trans h
        refine lv_iload_n hx hb dX9_number_61 rfl (lv_at hl 1 rfl) ?_
        refine lv_istore_n (lv' := [(3, .int v1), (0, .ref q_s), (1, .int v1)]) hx hb dX9_number_62 rfl hl (by decide) rfl (fun ls hl => ?_)
        refine lv_aload_n hx hb dX9_number_63 rfl (lv_at hl 1 rfl) ?_
        refine lv_iconst (v := 1) hx hb dX9_number_64 (by decide) ?_
        obtain ⟨s_cursor_2, s_start_2, s_token_2, s_value_2, s_fault_2, s_faultAt_2, hc_2, h⟩ := bd6_of h
        refine cl_mVv (As := [.int 1]) (rest := []) (ws' := (W_M cI cZ q_s q_s_lane q_s_many q_s_item q_s_isle q_s_fresh q_s_then q_s_was q_s_tape q_s_isKept q_s_kept q_s_trace s_thrown s_status s_lane s_many s_item s_isle s_fresh s_then s_was s_acts s_tape s_taped s_cursor_2 s_start_2 s_token_2 s_value_2 s_fault_2 s_faultAt_2 s_latest s_isKept s_kept s_trace s_traced)) (wr := []) ⟨hx, hb, hml, hown, hts⟩ (m_X9_must l dC dI cI cZ q_s q_s_lane q_s_many q_s_item q_s_isle q_s_fresh q_s_then q_s_was q_s_tape q_s_isKept q_s_kept q_s_trace s_thrown s_status s_lane s_many s_item s_isle s_fresh s_then s_was s_acts s_tape s_taped s_cursor s_start s_token s_value s_fault_j47 s_faultAt_j47 s_latest s_isKept s_kept s_trace s_traced 1 _ (s_cursor_2, s_start_2, s_token_2, s_value_2, s_fault_2, s_faultAt_2) hc_2) (cwV 1 hts gX9_number_X9_must rfl rfl rfl ⟨rfl, ddX9_must⟩ ⟨Nat.le_of_ble_eq_true rfl, Nat.le_of_ble_eq_true rfl⟩) hK hP hD hS hA [0, 1, 2, 3, 4, 5, 6, 7, 8, 9, 10, 11] [] rfl rfl rfl rfl (by decide) [0, 1, 2, 3, 4, 5, 6, 7, 8, 9, 10, 11] rfl rfl rfl rfl rfl rfl rfl hl.1 (Nat.le_of_ble_eq_true rfl) ⟨Nat.zero_le _, Nat.zero_le _⟩ dX9_number_65 (fun H locs hP hD hS => ?_)
        refine lv_iload_n hx hb dX9_number_68 rfl (lv_at hl 0 rfl) ?_
        have h := Option.some.inj h
        subst h
        rw [hQQ]
        subst hAe
        exact W.iret (v := v1) hx hb hr (fun t ht hW => ⟨⟨_, (), rfl, rfl, by rw [ht]; exact hP, va_K.moved hW.alike hK, hD⟩, hS.F ht⟩) hS.2.2 dX9_number_69
      · have h := (if_pos c_1).symm.trans h
        refine lv_aload_n hx hb dX9_number_54 rfl (lv_at hl 0 rfl) ?_
        refine va_get (D := (dC, dI)) (ci := 7) (v := .int s_value) (C := RX9) (T := TX9) (N := 23) hx hb hts w_1 hown hK hP 0 rfl rfl 15 (by decide) w_2 (fun _ h9 => h9) rfl dX9_number_55 ?_
        refine lv_goto (tgt := 62) hx hb dX9_number_58 (by decide) ?_
        refine lv_istore_n (lv' := [(3, .int s_value), (0, .ref q_s), (1, .int v1)]) hx hb dX9_number_62 rfl hl (by decide) rfl (fun ls hl => ?_)
        refine lv_aload_n hx hb dX9_number_63 rfl (lv_at hl 1 rfl) ?_
        refine lv_iconst (v := 1) hx hb dX9_number_64 (by decide) ?_
        obtain ⟨s_cursor_3, s_start_3, s_token_3, s_value_3, s_fault_3, s_faultAt_3, hc_3, h⟩ := bd6_of h
        refine cl_mVv (As := [.int 1]) (rest := []) (ws' := (W_M cI cZ q_s q_s_lane q_s_many q_s_item q_s_isle q_s_fresh q_s_then q_s_was q_s_tape q_s_isKept q_s_kept q_s_trace s_thrown s_status s_lane s_many s_item s_isle s_fresh s_then s_was s_acts s_tape s_taped s_cursor_3 s_start_3 s_token_3 s_value_3 s_fault_3 s_faultAt_3 s_latest s_isKept s_kept s_trace s_traced)) (wr := []) ⟨hx, hb, hml, hown, hts⟩ (m_X9_must l dC dI cI cZ q_s q_s_lane q_s_many q_s_item q_s_isle q_s_fresh q_s_then q_s_was q_s_tape q_s_isKept q_s_kept q_s_trace s_thrown s_status s_lane s_many s_item s_isle s_fresh s_then s_was s_acts s_tape s_taped s_cursor s_start s_token s_value s_fault_j47 s_faultAt_j47 s_latest s_isKept s_kept s_trace s_traced 1 _ (s_cursor_3, s_start_3, s_token_3, s_value_3, s_fault_3, s_faultAt_3) hc_3) (cwV 1 hts gX9_number_X9_must rfl rfl rfl ⟨rfl, ddX9_must⟩ ⟨Nat.le_of_ble_eq_true rfl, Nat.le_of_ble_eq_true rfl⟩) hK hP hD hS hA [0, 1, 2, 3, 4, 5, 6, 7, 8, 9, 10, 11] [] rfl rfl rfl rfl (by decide) [0, 1, 2, 3, 4, 5, 6, 7, 8, 9, 10, 11] rfl rfl rfl rfl rfl rfl rfl hl.1 (Nat.le_of_ble_eq_true rfl) ⟨Nat.zero_le _, Nat.zero_le _⟩ dX9_number_65 (fun H locs hP hD hS => ?_)
        refine lv_iload_n hx hb dX9_number_68 rfl (lv_at hl 0 rfl) ?_
        have h := Option.some.inj h
        subst h
        rw [hQQ]
        subst hAe
        exact W.iret (v := s_value) hx hb hr (fun t ht hW => ⟨⟨_, (), rfl, rfl, by rw [ht]; exact hP, va_K.moved hW.alike hK, hD⟩, hS.F ht⟩) hS.2.2 dX9_number_69
    refine lv_if_ne (tgt := 47) hx hb dX9_number_24 (by decide) (fun c_4 => ?_) (fun c_4 => ?_)
    · have h := (if_neg c_4).symm.trans h
      exact KJ47 s_fault_j20 s_faultAt_j20 _ _ _ hP hD hS (lv_sub hl [0, 1] rfl) h
    · have h := (if_pos c_4).symm.trans h
      refine lv_aload_n hx hb dX9_number_27 rfl (lv_at hl 0 rfl) ?_
      refine va_get (D := (dC, dI)) (ci := 7) (v := .int s_value) (C := RX9) (T := TX9) (N := 23) hx hb hts w_1 hown hK hP 0 rfl rfl 15 (by decide) w_2 (fun _ h9 => h9) rfl dX9_number_28 ?_
      refine lv_i2l hx hb dX9_number_31 rfl ?_
      refine lv_iload_n hx hb dX9_number_32 rfl (lv_at hl 1 rfl) ?_
      refine lv_i2l hx hb dX9_number_33 rfl ?_
      refine lv_iload_n hx hb dX9_number_34 rfl (lv_at hl 2 rfl) ?_
      refine lv_i2l hx hb dX9_number_35 rfl ?_
      obtain ⟨r_5, hc_5, h⟩ := bd1_of h
      refine cl_pS (As := [.long s_value.toInt64, .long v1.toInt64, .long v2.toInt64]) (rest := []) ⟨hx, hb, hml, hown, hts⟩ (m_X9_in l s_value.toInt64 v1.toInt64 v2.toInt64 (r_5) hc_5) (va_cwS 3 hts gX9_number_X9_in rfl rfl rfl ddX9_in ⟨Nat.le_of_ble_eq_true rfl, Nat.le_of_ble_eq_true rfl⟩) rfl rfl hl.1 (Nat.le_of_ble_eq_true rfl) ⟨Nat.zero_le _, Nat.zero_le _⟩ dX9_number_36 ?_
      refine lv_if_ne (tgt := 47) hx hb dX9_number_39 (by decide) (fun c_6 => ?_) (fun c_6 => ?_)
      · have h := (if_neg c_6).symm.trans h
        exact KJ47 s_fault_j20 s_faultAt_j20 _ _ _ hP hD hS (lv_sub hl [0, 1] rfl) h
      · have h := (if_pos c_6).symm.trans h
        refine lv_aload_n hx hb dX9_number_42 rfl (lv_at hl 0 rfl) ?_
        refine lv_iconst (v := 2) hx hb dX9_number_43 (by decide) ?_
        obtain ⟨s_fault_7, s_faultAt_7, hc_7, h⟩ := bd2_of h
        refine cl_mVv (As := [.int 2]) (rest := []) (ws' := (W_M cI cZ q_s q_s_lane q_s_many q_s_item q_s_isle q_s_fresh q_s_then q_s_was q_s_tape q_s_isKept q_s_kept q_s_trace s_thrown s_status s_lane s_many s_item s_isle s_fresh s_then s_was s_acts s_tape s_taped s_cursor s_start s_token s_value s_fault_7 s_faultAt_7 s_latest s_isKept s_kept s_trace s_traced)) (wr := []) ⟨hx, hb, hml, hown, hts⟩ (m_X9_bad l dC dI cI cZ q_s q_s_lane q_s_many q_s_item q_s_isle q_s_fresh q_s_then q_s_was q_s_tape q_s_isKept q_s_kept q_s_trace s_thrown s_status s_lane s_many s_item s_isle s_fresh s_then s_was s_acts s_tape s_taped s_cursor s_start s_token s_value s_fault_j20 s_faultAt_j20 s_latest s_isKept s_kept s_trace s_traced 2 _ (s_fault_7, s_faultAt_7) hc_7) (cwV 1 hts gX9_number_X9_bad rfl rfl rfl ⟨rfl, ddX9_bad⟩ ⟨Nat.le_of_ble_eq_true rfl, Nat.le_of_ble_eq_true rfl⟩) hK hP hD hS hA [0, 1, 2, 3, 4, 5, 6, 7, 8, 9, 10, 11] [] rfl rfl rfl rfl (by decide) [0, 1, 2, 3, 4, 5, 6, 7, 8, 9, 10, 11] rfl rfl rfl rfl rfl rfl rfl hl.1 (Nat.le_of_ble_eq_true rfl) ⟨Nat.zero_le _, Nat.zero_le _⟩ dX9_number_44 (fun H locs hP hD hS => ?_)
        exact KJ47 s_fault_7 s_faultAt_7 _ _ _ hP hD hS (lv_sub hl [0, 1] rfl) h
  refine lv_if_ne (tgt := 20) hx hb dX9_number_4 (by decide) (fun c_8 => ?_) (fun c_8 => ?_)
  · have h := (if_neg c_8).symm.trans h
    exact KJ20 s_fault s_faultAt _ _ _ hP hD hS (lv_sub hl [0, 1, 2] rfl) h
  · have h := (if_pos c_8).symm.trans h
    refine lv_aload_n hx hb dX9_number_7 rfl (lv_at hl 0 rfl) ?_
    refine va_get (D := (dC, dI)) (ci := 7) (v := .int s_token) (C := RX9) (T := TX9) (N := 23) hx hb hts w_1 hown hK hP 0 rfl rfl 14 (by decide) w_3 (fun _ h9 => h9) rfl dX9_number_8 ?_
    refine lv_iconst (v := 3) hx hb dX9_number_11 (by decide) ?_
    refine lv_icmp_eq (tgt := 20) hx hb dX9_number_12 (by decide) (fun c_9 => ?_) (fun c_9 => ?_)
    · have h := (if_pos c_9).symm.trans h
      exact KJ20 s_fault s_faultAt _ _ _ hP hD hS (lv_sub hl [0, 1, 2] rfl) h
    · have h := (if_neg c_9).symm.trans h
      refine lv_aload_n hx hb dX9_number_15 rfl (lv_at hl 0 rfl) ?_
      refine lv_iconst (v := 1) hx hb dX9_number_16 (by decide) ?_
      obtain ⟨s_fault_10, s_faultAt_10, hc_10, h⟩ := bd2_of h
      refine cl_mVv (As := [.int 1]) (rest := []) (ws' := (W_M cI cZ q_s q_s_lane q_s_many q_s_item q_s_isle q_s_fresh q_s_then q_s_was q_s_tape q_s_isKept q_s_kept q_s_trace s_thrown s_status s_lane s_many s_item s_isle s_fresh s_then s_was s_acts s_tape s_taped s_cursor s_start s_token s_value s_fault_10 s_faultAt_10 s_latest s_isKept s_kept s_trace s_traced)) (wr := []) ⟨hx, hb, hml, hown, hts⟩ (m_X9_bad l dC dI cI cZ q_s q_s_lane q_s_many q_s_item q_s_isle q_s_fresh q_s_then q_s_was q_s_tape q_s_isKept q_s_kept q_s_trace s_thrown s_status s_lane s_many s_item s_isle s_fresh s_then s_was s_acts s_tape s_taped s_cursor s_start s_token s_value s_fault s_faultAt s_latest s_isKept s_kept s_trace s_traced 1 _ (s_fault_10, s_faultAt_10) hc_10) (cwV 1 hts gX9_number_X9_bad rfl rfl rfl ⟨rfl, ddX9_bad⟩ ⟨Nat.le_of_ble_eq_true rfl, Nat.le_of_ble_eq_true rfl⟩) hK hP hD hS hA [0, 1, 2, 3, 4, 5, 6, 7, 8, 9, 10, 11] [] rfl rfl rfl rfl (by decide) [0, 1, 2, 3, 4, 5, 6, 7, 8, 9, 10, 11] rfl rfl rfl rfl rfl rfl rfl hl.1 (Nat.le_of_ble_eq_true rfl) ⟨Nat.zero_le _, Nat.zero_le _⟩ dX9_number_17 (fun H locs hP hD hS => ?_)
      exact KJ20 s_fault_10 s_faultAt_10 _ _ _ hP hD hS (lv_sub hl [0, 1, 2] rfl) h
def fX9_mustSign (s_tape : (Nat → Int32)) (s_taped : Int32) (s_cursor : Int32) (s_start : Int32) (s_token : Int32) (s_value : Int32) (s_fault : Int32) (s_faultAt : Int32) (v1 : Int32) : Option (Int32 × Int32 × Int32 × Int32 × Int32 × Int32) :=
  (if s_token = 4 then (if s_value = v1 then bd6 (fX9_must s_tape s_taped s_cursor s_start s_token s_value s_fault s_faultAt 1) (fun s_cursor_5 s_start_5 s_token_5 s_value_5 s_fault_5 s_faultAt_5 => some (s_cursor_5, s_start_5, s_token_5, s_value_5, s_fault_5, s_faultAt_5)) else bd6 (fX9_must s_tape s_taped s_cursor s_start s_token s_value s_fault s_faultAt 0) (fun s_cursor_4 s_start_4 s_token_4 s_value_4 s_fault_4 s_faultAt_4 => some (s_cursor_4, s_start_4, s_token_4, s_value_4, s_fault_4, s_faultAt_4))) else bd6 (fX9_must s_tape s_taped s_cursor s_start s_token s_value s_fault s_faultAt 0) (fun s_cursor_2 s_start_2 s_token_2 s_value_2 s_fault_2 s_faultAt_2 => some (s_cursor_2, s_start_2, s_token_2, s_value_2, s_fault_2, s_faultAt_2)))
abbrev rmX9_mustSign : Room := { frames := 3, cells := 0, slots := 0, locals := 66 }
theorem ddX9_mustSign : yX9_mustSign.cls ≠ "java/lang/invoke/MethodHandle" ∧ yX9_mustSign.cls ≠ "java/lang/invoke/VarHandle" ∧ (parseMethodDescriptor yX9_mustSign.desc).map (fun d => d.parameters.length) = some 1 := by decide +kernel
set_option maxHeartbeats 4000000 in
set_option maxRecDepth 100000 in
theorem m_X9_mustSign (l : Launch) (dC : Nat → ClassId) (dI : Nat → Nat → Nat) (cI cZ : ClassId) (q_s q_s_lane q_s_many q_s_item q_s_isle q_s_fresh q_s_then q_s_was q_s_tape q_s_isKept q_s_kept q_s_trace : Nat) (s_thrown : Int32) (s_status : Int32) (s_lane : (Nat → Int32)) (s_many : (Nat → Int32)) (s_item : (Nat → Int32)) (s_isle : (Nat → Int32)) (s_fresh : (Nat → Int32)) (s_then : (Nat → Int32)) (s_was : (Nat → Int32)) (s_acts : Int32) (s_tape : (Nat → Int32)) (s_taped : Int32) (s_cursor : Int32) (s_start : Int32) (s_token : Int32) (s_value : Int32) (s_fault : Int32) (s_faultAt : Int32) (s_latest : Int32) (s_isKept : (Nat → Int32)) (s_kept : (Nat → Int32)) (s_trace : (Nat → Int32)) (s_traced : Int32) (v1 : Int32) (sz : Nat) (res : Int32 × Int32 × Int32 × Int32 × Int32 × Int32) (hf : fX9_mustSign s_tape s_taped s_cursor s_start s_token s_value s_fault s_faultAt v1 = some res) : Met l yX9_mustSign wsX9_mustSign rmX9_mustSign (mtPc (dC, dI) (tyZ cI cZ) ((W_M cI cZ q_s q_s_lane q_s_many q_s_item q_s_isle q_s_fresh q_s_then q_s_was q_s_tape q_s_isKept q_s_kept q_s_trace s_thrown s_status s_lane s_many s_item s_isle s_fresh s_then s_was s_acts s_tape s_taped s_cursor s_start s_token s_value s_fault s_faultAt s_latest s_isKept s_kept s_trace s_traced)) [.ref q_s, .int v1] sz) (mtQv (dC, dI) (tyZ cI cZ) ((W_M cI cZ q_s q_s_lane q_s_many q_s_item q_s_isle q_s_fresh q_s_then q_s_was q_s_tape q_s_isKept q_s_kept q_s_trace s_thrown s_status s_lane s_many s_item s_isle s_fresh s_then s_was s_acts s_tape s_taped s_cursor s_start s_token s_value s_fault s_faultAt s_latest s_isKept s_kept s_trace s_traced)) ((W_M cI cZ q_s q_s_lane q_s_many q_s_item q_s_isle q_s_fresh q_s_then q_s_was q_s_tape q_s_isKept q_s_kept q_s_trace s_thrown s_status s_lane s_many s_item s_isle s_fresh s_then s_was s_acts s_tape s_taped res.1 res.2.1 res.2.2.1 res.2.2.2.1 res.2.2.2.2.1 res.2.2.2.2.2 s_latest s_isKept s_kept s_trace s_traced)) sz) 0 0 (va_A ((W_M cI cZ q_s q_s_lane q_s_many q_s_item q_s_isle q_s_fresh q_s_then q_s_was q_s_tape q_s_isKept q_s_kept q_s_trace s_thrown s_status s_lane s_many s_item s_isle s_fresh s_then s_was s_acts s_tape s_taped s_cursor s_start s_token s_value s_fault s_faultAt s_latest s_isKept s_kept s_trace s_traced)) sz) := by
  refine Met.ofW (cc := cX9_mustSign) (maxL := 2) (ret := none) (by decide) rfl ?_
  intro p e s m args below meth c s₁ B hml hv
  obtain ⟨rfl, hsz, hP, hK, hD0⟩ := hv
  have hx := B.exec
  have hb := B.bytes
  have hr := B.returns
  have hts := atoms_spec (ws := wsX9_mustSign) B.pre
  have hown : s.vm.findClass RX9 = some m.cls := findClass_of_methodNamed B.named
  have hlocks := B.notSynchronized
  subst hsz
  have hD := hD0.self (sz := s.heap.size)
  obtain ⟨A, hAe⟩ : ∃ A, A = va_A ((W_M cI cZ q_s q_s_lane q_s_many q_s_item q_s_isle q_s_fresh q_s_then q_s_was q_s_tape q_s_isKept q_s_kept q_s_trace s_thrown s_status s_lane s_many s_item s_isle s_fresh s_then s_was s_acts s_tape s_taped s_cursor s_start s_token s_value s_fault s_faultAt s_latest s_isKept s_kept s_trace s_traced)) s.heap.size := ⟨_, rfl⟩
  rw [← hAe] at hD
  have hA : ∀ q : Nat, s.heap.size ≤ q → A q := fun q h => by rw [hAe]; exact Or.inr h
  have hS : va_S A s.heap s.heap [] := va_S.rf
  have hl := lv_entry ([.ref q_s, .int v1]) (n := 2) (Nat.le_of_ble_eq_true rfl)
  rw [lg_entry_eq]
  generalize (lg_sl ([.ref q_s, .int v1]) ++ List.replicate (2 - (lg_sl ([.ref q_s, .int v1])).length) Slot.unset).toArray = ls at hl ⊢
  have hl : lv_has ls 2 [(0, .ref q_s), (1, .int v1)] := hl
  obtain ⟨QQ, hQQ⟩ : ∃ Q, Q = MQ below (mtQv (dC, dI) (tyZ cI cZ) ((W_M cI cZ q_s q_s_lane q_s_many q_s_item q_s_isle q_s_fresh q_s_then q_s_was q_s_tape q_s_isKept q_s_kept q_s_trace s_thrown s_status s_lane s_many s_item s_isle s_fresh s_then s_was s_acts s_tape s_taped s_cursor s_start s_token s_value s_fault s_faultAt s_latest s_isKept s_kept s_trace s_traced)) ((W_M cI cZ q_s q_s_lane q_s_many q_s_item q_s_isle q_s_fresh q_s_then q_s_was q_s_tape q_s_isKept q_s_kept q_s_trace s_thrown s_status s_lane s_many s_item s_isle s_fresh s_then s_was s_acts s_tape s_taped res.1 res.2.1 res.2.2.1 res.2.2.2.1 res.2.2.2.2.1 res.2.2.2.2.2 s_latest s_isKept s_kept s_trace s_traced)) s.heap.size) ([.ref q_s, .int v1] : List Value).toArray s 0 0 (va_A ((W_M cI cZ q_s q_s_lane q_s_many q_s_item q_s_isle q_s_fresh q_s_then q_s_was q_s_tape q_s_isKept q_s_kept q_s_trace s_thrown s_status s_lane s_many s_item s_isle s_fresh s_then s_was s_acts s_tape s_taped s_cursor s_start s_token s_value s_fault s_faultAt s_latest s_isKept s_kept s_trace s_traced)) s.heap.size) := ⟨_, rfl⟩
  rw [← hQQ]
  have w_0 := hts (Cond.fieldLink RX9 99 "TideInchesModel" "token" "I") (List.mem_of_getElem? (i := 1) rfl)
  have w_1 := (fun w hw => List.mem_cons_of_mem _ (List.mem_append_right _ hw) : ∀ w ∈ wsX90, w ∈ wsX9_mustSign)
  have w_2 := hts (Cond.fieldLink RX9 88 "TideInchesModel" "value" "I") (List.mem_of_getElem? (i := 2) rfl)
  have h := hf
  unfold fX9_mustSign at h
  refine lv_aload_n hx hb dX9_mustSign_0 rfl (lv_at hl 0 rfl) ?_
  refine lv_aload_n hx hb dX9_mustSign_1 rfl (lv_at hl 0 rfl) ?_
  refine va_get (D := (dC, dI)) (ci := 7) (v := .int s_token) (C := RX9) (T := TX9) (N := 23) hx hb hts w_1 hown hK hP 0 rfl rfl 14 (by decide) w_0 (fun _ h9 => h9) rfl dX9_mustSign_2 ?_
  refine lv_iconst (v := 4) hx hb dX9_mustSign_5 (by decide) ?_
  refine lv_icmp_ne (tgt := 21) hx hb dX9_mustSign_6 (by decide) (fun c_1 => ?_) (fun c_1 => ?_)
  · have h := (if_neg c_1).symm.trans h
    refine lv_iconst (v := 0) hx hb dX9_mustSign_21 (by decide) ?_
    obtain ⟨s_cursor_2, s_start_2, s_token_2, s_value_2, s_fault_2, s_faultAt_2, hc_2, h⟩ := bd6_of h
    refine cl_mVv (As := [.int 0]) (rest := []) (ws' := (W_M cI cZ q_s q_s_lane q_s_many q_s_item q_s_isle q_s_fresh q_s_then q_s_was q_s_tape q_s_isKept q_s_kept q_s_trace s_thrown s_status s_lane s_many s_item s_isle s_fresh s_then s_was s_acts s_tape s_taped s_cursor_2 s_start_2 s_token_2 s_value_2 s_fault_2 s_faultAt_2 s_latest s_isKept s_kept s_trace s_traced)) (wr := []) ⟨hx, hb, hml, hown, hts⟩ (m_X9_must l dC dI cI cZ q_s q_s_lane q_s_many q_s_item q_s_isle q_s_fresh q_s_then q_s_was q_s_tape q_s_isKept q_s_kept q_s_trace s_thrown s_status s_lane s_many s_item s_isle s_fresh s_then s_was s_acts s_tape s_taped s_cursor s_start s_token s_value s_fault s_faultAt s_latest s_isKept s_kept s_trace s_traced 0 _ (s_cursor_2, s_start_2, s_token_2, s_value_2, s_fault_2, s_faultAt_2) hc_2) (cwV 1 hts gX9_mustSign_X9_must rfl rfl rfl ⟨rfl, ddX9_must⟩ ⟨Nat.le_of_ble_eq_true rfl, Nat.le_of_ble_eq_true rfl⟩) hK hP hD hS hA [0, 1, 2, 3, 4, 5, 6, 7, 8, 9, 10, 11] [] rfl rfl rfl rfl (by decide) [0, 1, 2, 3, 4, 5, 6, 7, 8, 9, 10, 11] rfl rfl rfl rfl rfl rfl rfl hl.1 (Nat.le_of_ble_eq_true rfl) ⟨Nat.zero_le _, Nat.zero_le _⟩ dX9_mustSign_22 (fun H locs hP hD hS => ?_)
    have h := Option.some.inj h
    subst h
    rw [hQQ]
    subst hAe
    exact W.vret hx hb hr (fun t ht hW => ⟨⟨(), rfl, trivial, by rw [ht]; exact hP, va_K.moved hW.alike hK, hD⟩, hS.F ht⟩) hS.2.2 dX9_mustSign_25
  · have h := (if_pos c_1).symm.trans h
    refine lv_aload_n hx hb dX9_mustSign_9 rfl (lv_at hl 0 rfl) ?_
    refine va_get (D := (dC, dI)) (ci := 7) (v := .int s_value) (C := RX9) (T := TX9) (N := 23) hx hb hts w_1 hown hK hP 0 rfl rfl 15 (by decide) w_2 (fun _ h9 => h9) rfl dX9_mustSign_10 ?_
    refine lv_iload_n hx hb dX9_mustSign_13 rfl (lv_at hl 1 rfl) ?_
    refine lv_icmp_ne (tgt := 21) hx hb dX9_mustSign_14 (by decide) (fun c_3 => ?_) (fun c_3 => ?_)
    · have h := (if_neg c_3).symm.trans h
      refine lv_iconst (v := 0) hx hb dX9_mustSign_21 (by decide) ?_
      obtain ⟨s_cursor_4, s_start_4, s_token_4, s_value_4, s_fault_4, s_faultAt_4, hc_4, h⟩ := bd6_of h
      refine cl_mVv (As := [.int 0]) (rest := []) (ws' := (W_M cI cZ q_s q_s_lane q_s_many q_s_item q_s_isle q_s_fresh q_s_then q_s_was q_s_tape q_s_isKept q_s_kept q_s_trace s_thrown s_status s_lane s_many s_item s_isle s_fresh s_then s_was s_acts s_tape s_taped s_cursor_4 s_start_4 s_token_4 s_value_4 s_fault_4 s_faultAt_4 s_latest s_isKept s_kept s_trace s_traced)) (wr := []) ⟨hx, hb, hml, hown, hts⟩ (m_X9_must l dC dI cI cZ q_s q_s_lane q_s_many q_s_item q_s_isle q_s_fresh q_s_then q_s_was q_s_tape q_s_isKept q_s_kept q_s_trace s_thrown s_status s_lane s_many s_item s_isle s_fresh s_then s_was s_acts s_tape s_taped s_cursor s_start s_token s_value s_fault s_faultAt s_latest s_isKept s_kept s_trace s_traced 0 _ (s_cursor_4, s_start_4, s_token_4, s_value_4, s_fault_4, s_faultAt_4) hc_4) (cwV 1 hts gX9_mustSign_X9_must rfl rfl rfl ⟨rfl, ddX9_must⟩ ⟨Nat.le_of_ble_eq_true rfl, Nat.le_of_ble_eq_true rfl⟩) hK hP hD hS hA [0, 1, 2, 3, 4, 5, 6, 7, 8, 9, 10, 11] [] rfl rfl rfl rfl (by decide) [0, 1, 2, 3, 4, 5, 6, 7, 8, 9, 10, 11] rfl rfl rfl rfl rfl rfl rfl hl.1 (Nat.le_of_ble_eq_true rfl) ⟨Nat.zero_le _, Nat.zero_le _⟩ dX9_mustSign_22 (fun H locs hP hD hS => ?_)
      have h := Option.some.inj h
      subst h
      rw [hQQ]
      subst hAe
      exact W.vret hx hb hr (fun t ht hW => ⟨⟨(), rfl, trivial, by rw [ht]; exact hP, va_K.moved hW.alike hK, hD⟩, hS.F ht⟩) hS.2.2 dX9_mustSign_25
    · have h := (if_pos c_3).symm.trans h
      refine lv_iconst (v := 1) hx hb dX9_mustSign_17 (by decide) ?_
      refine lv_goto (tgt := 22) hx hb dX9_mustSign_18 (by decide) ?_
      obtain ⟨s_cursor_5, s_start_5, s_token_5, s_value_5, s_fault_5, s_faultAt_5, hc_5, h⟩ := bd6_of h
      refine cl_mVv (As := [.int 1]) (rest := []) (ws' := (W_M cI cZ q_s q_s_lane q_s_many q_s_item q_s_isle q_s_fresh q_s_then q_s_was q_s_tape q_s_isKept q_s_kept q_s_trace s_thrown s_status s_lane s_many s_item s_isle s_fresh s_then s_was s_acts s_tape s_taped s_cursor_5 s_start_5 s_token_5 s_value_5 s_fault_5 s_faultAt_5 s_latest s_isKept s_kept s_trace s_traced)) (wr := []) ⟨hx, hb, hml, hown, hts⟩ (m_X9_must l dC dI cI cZ q_s q_s_lane q_s_many q_s_item q_s_isle q_s_fresh q_s_then q_s_was q_s_tape q_s_isKept q_s_kept q_s_trace s_thrown s_status s_lane s_many s_item s_isle s_fresh s_then s_was s_acts s_tape s_taped s_cursor s_start s_token s_value s_fault s_faultAt s_latest s_isKept s_kept s_trace s_traced 1 _ (s_cursor_5, s_start_5, s_token_5, s_value_5, s_fault_5, s_faultAt_5) hc_5) (cwV 1 hts gX9_mustSign_X9_must rfl rfl rfl ⟨rfl, ddX9_must⟩ ⟨Nat.le_of_ble_eq_true rfl, Nat.le_of_ble_eq_true rfl⟩) hK hP hD hS hA [0, 1, 2, 3, 4, 5, 6, 7, 8, 9, 10, 11] [] rfl rfl rfl rfl (by decide) [0, 1, 2, 3, 4, 5, 6, 7, 8, 9, 10, 11] rfl rfl rfl rfl rfl rfl rfl hl.1 (Nat.le_of_ble_eq_true rfl) ⟨Nat.zero_le _, Nat.zero_le _⟩ dX9_mustSign_22 (fun H locs hP hD hS => ?_)
      have h := Option.some.inj h
      subst h
      rw [hQQ]
      subst hAe
      exact W.vret hx hb hr (fun t ht hW => ⟨⟨(), rfl, trivial, by rw [ht]; exact hP, va_K.moved hW.alike hK, hD⟩, hS.F ht⟩) hS.2.2 dX9_mustSign_25
def fX9_begin (s_tape : (Nat → Int32)) (s_taped : Int32) : Option (Int32 × Int32 × Int32 × Int32 × Int32) :=
  bd4 (fX9_nextToken s_tape s_taped 0) (fun s_cursor_1 s_start_1 s_token_1 s_value_1 => some (s_cursor_1, s_start_1, s_token_1, s_value_1, 0))
abbrev rmX9_begin : Room := { frames := 2, cells := 0, slots := 0, locals := 45 }
theorem ddX9_begin : yX9_begin.cls ≠ "java/lang/invoke/MethodHandle" ∧ yX9_begin.cls ≠ "java/lang/invoke/VarHandle" ∧ (parseMethodDescriptor yX9_begin.desc).map (fun d => d.parameters.length) = some 0 := by decide +kernel
set_option maxHeartbeats 4000000 in
set_option maxRecDepth 100000 in
theorem m_X9_begin (l : Launch) (dC : Nat → ClassId) (dI : Nat → Nat → Nat) (cI cZ : ClassId) (q_s q_s_lane q_s_many q_s_item q_s_isle q_s_fresh q_s_then q_s_was q_s_tape q_s_isKept q_s_kept q_s_trace : Nat) (s_thrown : Int32) (s_status : Int32) (s_lane : (Nat → Int32)) (s_many : (Nat → Int32)) (s_item : (Nat → Int32)) (s_isle : (Nat → Int32)) (s_fresh : (Nat → Int32)) (s_then : (Nat → Int32)) (s_was : (Nat → Int32)) (s_acts : Int32) (s_tape : (Nat → Int32)) (s_taped : Int32) (s_cursor : Int32) (s_start : Int32) (s_token : Int32) (s_value : Int32) (s_fault : Int32) (s_faultAt : Int32) (s_latest : Int32) (s_isKept : (Nat → Int32)) (s_kept : (Nat → Int32)) (s_trace : (Nat → Int32)) (s_traced : Int32) (sz : Nat) (res : Int32 × Int32 × Int32 × Int32 × Int32) (hf : fX9_begin s_tape s_taped = some res) : Met l yX9_begin wsX9_begin rmX9_begin (mtPc (dC, dI) (tyZ cI cZ) ((W_M cI cZ q_s q_s_lane q_s_many q_s_item q_s_isle q_s_fresh q_s_then q_s_was q_s_tape q_s_isKept q_s_kept q_s_trace s_thrown s_status s_lane s_many s_item s_isle s_fresh s_then s_was s_acts s_tape s_taped s_cursor s_start s_token s_value s_fault s_faultAt s_latest s_isKept s_kept s_trace s_traced)) [.ref q_s] sz) (mtQv (dC, dI) (tyZ cI cZ) ((W_M cI cZ q_s q_s_lane q_s_many q_s_item q_s_isle q_s_fresh q_s_then q_s_was q_s_tape q_s_isKept q_s_kept q_s_trace s_thrown s_status s_lane s_many s_item s_isle s_fresh s_then s_was s_acts s_tape s_taped s_cursor s_start s_token s_value s_fault s_faultAt s_latest s_isKept s_kept s_trace s_traced)) ((W_M cI cZ q_s q_s_lane q_s_many q_s_item q_s_isle q_s_fresh q_s_then q_s_was q_s_tape q_s_isKept q_s_kept q_s_trace s_thrown s_status s_lane s_many s_item s_isle s_fresh s_then s_was s_acts s_tape s_taped res.1 res.2.1 res.2.2.1 res.2.2.2.1 res.2.2.2.2 s_faultAt s_latest s_isKept s_kept s_trace s_traced)) sz) 0 0 (va_A ((W_M cI cZ q_s q_s_lane q_s_many q_s_item q_s_isle q_s_fresh q_s_then q_s_was q_s_tape q_s_isKept q_s_kept q_s_trace s_thrown s_status s_lane s_many s_item s_isle s_fresh s_then s_was s_acts s_tape s_taped s_cursor s_start s_token s_value s_fault s_faultAt s_latest s_isKept s_kept s_trace s_traced)) sz) := by
  refine Met.ofW (cc := cX9_begin) (maxL := 1) (ret := none) (by decide) rfl ?_
  intro p e s m args below meth c s₁ B hml hv
  obtain ⟨rfl, hsz, hP, hK, hD0⟩ := hv
  have hx := B.exec
  have hb := B.bytes
  have hr := B.returns
  have hts := atoms_spec (ws := wsX9_begin) B.pre
  have hown : s.vm.findClass RX9 = some m.cls := findClass_of_methodNamed B.named
  have hlocks := B.notSynchronized
  subst hsz
  have hD := hD0.self (sz := s.heap.size)
  obtain ⟨A, hAe⟩ : ∃ A, A = va_A ((W_M cI cZ q_s q_s_lane q_s_many q_s_item q_s_isle q_s_fresh q_s_then q_s_was q_s_tape q_s_isKept q_s_kept q_s_trace s_thrown s_status s_lane s_many s_item s_isle s_fresh s_then s_was s_acts s_tape s_taped s_cursor s_start s_token s_value s_fault s_faultAt s_latest s_isKept s_kept s_trace s_traced)) s.heap.size := ⟨_, rfl⟩
  rw [← hAe] at hD
  have hA : ∀ q : Nat, s.heap.size ≤ q → A q := fun q h => by rw [hAe]; exact Or.inr h
  have hS : va_S A s.heap s.heap [] := va_S.rf
  have hl := lv_entry ([.ref q_s]) (n := 1) (Nat.le_of_ble_eq_true rfl)
  rw [lg_entry_eq]
  generalize (lg_sl ([.ref q_s]) ++ List.replicate (1 - (lg_sl ([.ref q_s])).length) Slot.unset).toArray = ls at hl ⊢
  have hl : lv_has ls 1 [(0, .ref q_s)] := hl
  obtain ⟨QQ, hQQ⟩ : ∃ Q, Q = MQ below (mtQv (dC, dI) (tyZ cI cZ) ((W_M cI cZ q_s q_s_lane q_s_many q_s_item q_s_isle q_s_fresh q_s_then q_s_was q_s_tape q_s_isKept q_s_kept q_s_trace s_thrown s_status s_lane s_many s_item s_isle s_fresh s_then s_was s_acts s_tape s_taped s_cursor s_start s_token s_value s_fault s_faultAt s_latest s_isKept s_kept s_trace s_traced)) ((W_M cI cZ q_s q_s_lane q_s_many q_s_item q_s_isle q_s_fresh q_s_then q_s_was q_s_tape q_s_isKept q_s_kept q_s_trace s_thrown s_status s_lane s_many s_item s_isle s_fresh s_then s_was s_acts s_tape s_taped res.1 res.2.1 res.2.2.1 res.2.2.2.1 res.2.2.2.2 s_faultAt s_latest s_isKept s_kept s_trace s_traced)) s.heap.size) ([.ref q_s] : List Value).toArray s 0 0 (va_A ((W_M cI cZ q_s q_s_lane q_s_many q_s_item q_s_isle q_s_fresh q_s_then q_s_was q_s_tape q_s_isKept q_s_kept q_s_trace s_thrown s_status s_lane s_many s_item s_isle s_fresh s_then s_was s_acts s_tape s_taped s_cursor s_start s_token s_value s_fault s_faultAt s_latest s_isKept s_kept s_trace s_traced)) s.heap.size) := ⟨_, rfl⟩
  rw [← hQQ]
  have w_0 := hts (Cond.fieldLink RX9 84 "TideInchesModel" "cursor" "I") (List.mem_of_getElem? (i := 1) rfl)
  have w_1 := (fun w hw => List.mem_cons_of_mem _ (List.mem_append_right _ hw) : ∀ w ∈ wsX90, w ∈ wsX9_begin)
  have w_2 := hts (Cond.fieldLink RX9 75 "TideInchesModel" "fault" "I") (List.mem_of_getElem? (i := 2) rfl)
  have h := hf
  unfold fX9_begin at h
  refine lv_aload_n hx hb dX9_begin_0 rfl (lv_at hl 0 rfl) ?_
  refine lv_iconst (v := 0) hx hb dX9_begin_1 (by decide) ?_
  refine va_put (D := (dC, dI)) (ci := 7) (v := .int 0) (ty := .int) (C := RX9) (T := TX9) (N := 23) hx hb hts w_1 tyX9 tyX9_ok nmX9 hown hK hP hD hS 0 rfl rfl 12 (by decide) w_0 (fun _ h9 => h9) rfl (by decide +kernel) rfl rfl (Nat.le_of_ble_eq_true rfl) dX9_begin_2 (fun H locs hP hD hS => ?_)
  have hP : va_P (dC, dI) vwCl ((W_M cI cZ q_s q_s_lane q_s_many q_s_item q_s_isle q_s_fresh q_s_then q_s_was q_s_tape q_s_isKept q_s_kept q_s_trace s_thrown s_status s_lane s_many s_item s_isle s_fresh s_then s_was s_acts s_tape s_taped 0 s_start s_token s_value s_fault s_faultAt s_latest s_isKept s_kept s_trace s_traced)) H := hP
  have hD : va_D A ((W_M cI cZ q_s q_s_lane q_s_many q_s_item q_s_isle q_s_fresh q_s_then q_s_was q_s_tape q_s_isKept q_s_kept q_s_trace s_thrown s_status s_lane s_many s_item s_isle s_fresh s_then s_was s_acts s_tape s_taped 0 s_start s_token s_value s_fault s_faultAt s_latest s_isKept s_kept s_trace s_traced)) := hD
  refine lv_aload_n hx hb dX9_begin_5 rfl (lv_at hl 0 rfl) ?_
  refine lv_iconst (v := 0) hx hb dX9_begin_6 (by decide) ?_
  refine va_put (D := (dC, dI)) (ci := 7) (v := .int 0) (ty := .int) (C := RX9) (T := TX9) (N := 23) hx hb hts w_1 tyX9 tyX9_ok nmX9 hown hK hP hD hS 0 rfl rfl 16 (by decide) w_2 (fun _ h9 => h9) rfl (by decide +kernel) rfl rfl (Nat.le_of_ble_eq_true rfl) dX9_begin_7 (fun H locs hP hD hS => ?_)
  have hP : va_P (dC, dI) vwCl ((W_M cI cZ q_s q_s_lane q_s_many q_s_item q_s_isle q_s_fresh q_s_then q_s_was q_s_tape q_s_isKept q_s_kept q_s_trace s_thrown s_status s_lane s_many s_item s_isle s_fresh s_then s_was s_acts s_tape s_taped 0 s_start s_token s_value 0 s_faultAt s_latest s_isKept s_kept s_trace s_traced)) H := hP
  have hD : va_D A ((W_M cI cZ q_s q_s_lane q_s_many q_s_item q_s_isle q_s_fresh q_s_then q_s_was q_s_tape q_s_isKept q_s_kept q_s_trace s_thrown s_status s_lane s_many s_item s_isle s_fresh s_then s_was s_acts s_tape s_taped 0 s_start s_token s_value 0 s_faultAt s_latest s_isKept s_kept s_trace s_traced)) := hD
  refine lv_aload_n hx hb dX9_begin_10 rfl (lv_at hl 0 rfl) ?_
  obtain ⟨s_cursor_1, s_start_1, s_token_1, s_value_1, hc_1, h⟩ := bd4_of h
  refine cl_mVv (As := []) (rest := []) (ws' := (W_M cI cZ q_s q_s_lane q_s_many q_s_item q_s_isle q_s_fresh q_s_then q_s_was q_s_tape q_s_isKept q_s_kept q_s_trace s_thrown s_status s_lane s_many s_item s_isle s_fresh s_then s_was s_acts s_tape s_taped s_cursor_1 s_start_1 s_token_1 s_value_1 0 s_faultAt s_latest s_isKept s_kept s_trace s_traced)) (wr := []) ⟨hx, hb, hml, hown, hts⟩ (m_X9_nextToken l dC dI cI cZ q_s q_s_lane q_s_many q_s_item q_s_isle q_s_fresh q_s_then q_s_was q_s_tape q_s_isKept q_s_kept q_s_trace s_thrown s_status s_lane s_many s_item s_isle s_fresh s_then s_was s_acts s_tape s_taped 0 s_start s_token s_value 0 s_faultAt s_latest s_isKept s_kept s_trace s_traced _ (s_cursor_1, s_start_1, s_token_1, s_value_1) hc_1) (cwV 0 hts gX9_begin_X9_nextToken rfl rfl rfl ⟨rfl, ddX9_nextToken⟩ ⟨Nat.le_of_ble_eq_true rfl, Nat.le_of_ble_eq_true rfl⟩) hK hP hD hS hA [0, 1, 2, 3, 4, 5, 6, 7, 8, 9, 10, 11] [] rfl rfl rfl rfl (by decide) [0, 1, 2, 3, 4, 5, 6, 7, 8, 9, 10, 11] rfl rfl rfl rfl rfl rfl rfl hl.1 (Nat.le_of_ble_eq_true rfl) ⟨Nat.zero_le _, Nat.zero_le _⟩ dX9_begin_11 (fun H locs hP hD hS => ?_)
  have h := Option.some.inj h
  subst h
  rw [hQQ]
  subst hAe
  exact W.vret hx hb hr (fun t ht hW => ⟨⟨(), rfl, trivial, by rw [ht]; exact hP, va_K.moved hW.alike hK, hD⟩, hS.F ht⟩) hS.2.2 dX9_begin_14
def fX9_failed_J20 (s_latest : Int32) (s_fault_j20 : Int32) (s_faultAt_j20 : Int32) : Option (Int32 × Int32 × Int32 × Int32 × Int32) :=
  (if s_fault_j20 ≤ 0 then (if s_fault_j20 ≤ 0 then some (0, 0, s_fault_j20, s_faultAt_j20, s_latest) else some (1, 0, s_fault_j20, s_faultAt_j20, s_latest)) else (if s_fault_j20 ≤ 0 then some (0, 0, s_fault_j20, s_faultAt_j20, s_fault_j20) else some (1, 0, s_fault_j20, s_faultAt_j20, s_fault_j20)))
def fX9_failed (s_start : Int32) (s_token : Int32) (s_fault : Int32) (s_faultAt : Int32) (s_latest : Int32) : Option (Int32 × Int32 × Int32 × Int32 × Int32) :=
  (if s_fault = 0 then (if s_token = 1 then (fX9_failed_J20 s_latest s_fault s_faultAt) else bd2 (fX9_bad s_start s_fault s_faultAt 1) (fun s_fault_6 s_faultAt_6 => (fX9_failed_J20 s_latest s_fault_6 s_faultAt_6))) else (fX9_failed_J20 s_latest s_fault s_faultAt))
abbrev rmX9_failed : Room := { frames := 1, cells := 0, slots := 0, locals := 21 }
theorem ddX9_failed : yX9_failed.cls ≠ "java/lang/invoke/MethodHandle" ∧ yX9_failed.cls ≠ "java/lang/invoke/VarHandle" ∧ (parseMethodDescriptor yX9_failed.desc).map (fun d => d.parameters.length) = some 0 := by decide +kernel
set_option maxHeartbeats 4000000 in
set_option maxRecDepth 100000 in
theorem m_X9_failed (l : Launch) (dC : Nat → ClassId) (dI : Nat → Nat → Nat) (cI cZ : ClassId) (q_s q_s_lane q_s_many q_s_item q_s_isle q_s_fresh q_s_then q_s_was q_s_tape q_s_isKept q_s_kept q_s_trace : Nat) (s_thrown : Int32) (s_status : Int32) (s_lane : (Nat → Int32)) (s_many : (Nat → Int32)) (s_item : (Nat → Int32)) (s_isle : (Nat → Int32)) (s_fresh : (Nat → Int32)) (s_then : (Nat → Int32)) (s_was : (Nat → Int32)) (s_acts : Int32) (s_tape : (Nat → Int32)) (s_taped : Int32) (s_cursor : Int32) (s_start : Int32) (s_token : Int32) (s_value : Int32) (s_fault : Int32) (s_faultAt : Int32) (s_latest : Int32) (s_isKept : (Nat → Int32)) (s_kept : (Nat → Int32)) (s_trace : (Nat → Int32)) (s_traced : Int32) (sz : Nat) (res : Int32 × Int32 × Int32 × Int32 × Int32) (hf : fX9_failed s_start s_token s_fault s_faultAt s_latest = some res) : Met l yX9_failed wsX9_failed rmX9_failed (mtPc (dC, dI) (tyZ cI cZ) ((W_M cI cZ q_s q_s_lane q_s_many q_s_item q_s_isle q_s_fresh q_s_then q_s_was q_s_tape q_s_isKept q_s_kept q_s_trace s_thrown s_status s_lane s_many s_item s_isle s_fresh s_then s_was s_acts s_tape s_taped s_cursor s_start s_token s_value s_fault s_faultAt s_latest s_isKept s_kept s_trace s_traced)) [.ref q_s] sz) (mtQi (dC, dI) (tyZ cI cZ) ((W_M cI cZ q_s q_s_lane q_s_many q_s_item q_s_isle q_s_fresh q_s_then q_s_was q_s_tape q_s_isKept q_s_kept q_s_trace s_thrown s_status s_lane s_many s_item s_isle s_fresh s_then s_was s_acts s_tape s_taped s_cursor s_start s_token s_value s_fault s_faultAt s_latest s_isKept s_kept s_trace s_traced)) ((W_M cI cZ q_s q_s_lane q_s_many q_s_item q_s_isle q_s_fresh q_s_then q_s_was q_s_tape q_s_isKept q_s_kept q_s_trace s_thrown s_status s_lane s_many s_item s_isle s_fresh s_then s_was s_acts s_tape res.2.1 s_cursor s_start s_token s_value res.2.2.1 res.2.2.2.1 res.2.2.2.2 s_isKept s_kept s_trace s_traced)) res.1 sz) 0 0 (va_A ((W_M cI cZ q_s q_s_lane q_s_many q_s_item q_s_isle q_s_fresh q_s_then q_s_was q_s_tape q_s_isKept q_s_kept q_s_trace s_thrown s_status s_lane s_many s_item s_isle s_fresh s_then s_was s_acts s_tape s_taped s_cursor s_start s_token s_value s_fault s_faultAt s_latest s_isKept s_kept s_trace s_traced)) sz) := by
  refine Met.ofW (cc := cX9_failed) (maxL := 1) (ret := (some .boolean)) (by decide) rfl ?_
  intro p e s m args below meth c s₁ B hml hv
  obtain ⟨rfl, hsz, hP, hK, hD0⟩ := hv
  have hx := B.exec
  have hb := B.bytes
  have hr := B.returns
  have hts := atoms_spec (ws := wsX9_failed) B.pre
  have hown : s.vm.findClass RX9 = some m.cls := findClass_of_methodNamed B.named
  have hlocks := B.notSynchronized
  subst hsz
  have hD := hD0.self (sz := s.heap.size)
  obtain ⟨A, hAe⟩ : ∃ A, A = va_A ((W_M cI cZ q_s q_s_lane q_s_many q_s_item q_s_isle q_s_fresh q_s_then q_s_was q_s_tape q_s_isKept q_s_kept q_s_trace s_thrown s_status s_lane s_many s_item s_isle s_fresh s_then s_was s_acts s_tape s_taped s_cursor s_start s_token s_value s_fault s_faultAt s_latest s_isKept s_kept s_trace s_traced)) s.heap.size := ⟨_, rfl⟩
  rw [← hAe] at hD
  have hA : ∀ q : Nat, s.heap.size ≤ q → A q := fun q h => by rw [hAe]; exact Or.inr h
  have hS : va_S A s.heap s.heap [] := va_S.rf
  have hl := lv_entry ([.ref q_s]) (n := 1) (Nat.le_of_ble_eq_true rfl)
  rw [lg_entry_eq]
  generalize (lg_sl ([.ref q_s]) ++ List.replicate (1 - (lg_sl ([.ref q_s])).length) Slot.unset).toArray = ls at hl ⊢
  have hl : lv_has ls 1 [(0, .ref q_s)] := hl
  obtain ⟨QQ, hQQ⟩ : ∃ Q, Q = MQ below (mtQi (dC, dI) (tyZ cI cZ) ((W_M cI cZ q_s q_s_lane q_s_many q_s_item q_s_isle q_s_fresh q_s_then q_s_was q_s_tape q_s_isKept q_s_kept q_s_trace s_thrown s_status s_lane s_many s_item s_isle s_fresh s_then s_was s_acts s_tape s_taped s_cursor s_start s_token s_value s_fault s_faultAt s_latest s_isKept s_kept s_trace s_traced)) ((W_M cI cZ q_s q_s_lane q_s_many q_s_item q_s_isle q_s_fresh q_s_then q_s_was q_s_tape q_s_isKept q_s_kept q_s_trace s_thrown s_status s_lane s_many s_item s_isle s_fresh s_then s_was s_acts s_tape res.2.1 s_cursor s_start s_token s_value res.2.2.1 res.2.2.2.1 res.2.2.2.2 s_isKept s_kept s_trace s_traced)) res.1 s.heap.size) ([.ref q_s] : List Value).toArray s 0 0 (va_A ((W_M cI cZ q_s q_s_lane q_s_many q_s_item q_s_isle q_s_fresh q_s_then q_s_was q_s_tape q_s_isKept q_s_kept q_s_trace s_thrown s_status s_lane s_many s_item s_isle s_fresh s_then s_was s_acts s_tape s_taped s_cursor s_start s_token s_value s_fault s_faultAt s_latest s_isKept s_kept s_trace s_traced)) s.heap.size) := ⟨_, rfl⟩
  rw [← hQQ]
  have w_0 := hts (Cond.fieldLink RX9 75 "TideInchesModel" "fault" "I") (List.mem_of_getElem? (i := 1) rfl)
  have w_1 := (fun w hw => List.mem_cons_of_mem _ (List.mem_append_right _ hw) : ∀ w ∈ wsX90, w ∈ wsX9_failed)
  have w_2 := hts (Cond.fieldLink RX9 71 "TideInchesModel" "taped" "I") (List.mem_of_getElem? (i := 3) rfl)
  have w_3 := hts (Cond.fieldLink RX9 113 "TideInchesModel" "latest" "I") (List.mem_of_getElem? (i := 4) rfl)
  have w_4 := hts (Cond.fieldLink RX9 99 "TideInchesModel" "token" "I") (List.mem_of_getElem? (i := 2) rfl)
  have h := hf
  unfold fX9_failed at h
  refine lv_aload_n hx hb dX9_failed_0 rfl (lv_at hl 0 rfl) ?_
  refine va_get (D := (dC, dI)) (ci := 7) (v := .int s_fault) (C := RX9) (T := TX9) (N := 23) hx hb hts w_1 hown hK hP 0 rfl rfl 16 (by decide) w_0 (fun _ h9 => h9) rfl dX9_failed_1 ?_
  have KJ20 : ∀ (s_fault_j20 : Int32) (s_faultAt_j20 : Int32) (H : Heap) (locs : List Loc) (ls : Array Slot), va_P (dC, dI) vwCl ((W_M cI cZ q_s q_s_lane q_s_many q_s_item q_s_isle q_s_fresh q_s_then q_s_was q_s_tape q_s_isKept q_s_kept q_s_trace s_thrown s_status s_lane s_many s_item s_isle s_fresh s_then s_was s_acts s_tape s_taped s_cursor s_start s_token s_value s_fault_j20 s_faultAt_j20 s_latest s_isKept s_kept s_trace s_traced)) H → va_D A ((W_M cI cZ q_s q_s_lane q_s_many q_s_item q_s_isle q_s_fresh q_s_then q_s_was q_s_tape q_s_isKept q_s_kept q_s_trace s_thrown s_status s_lane s_many s_item s_isle s_fresh s_then s_was s_acts s_tape s_taped s_cursor s_start s_token s_value s_fault_j20 s_faultAt_j20 s_latest s_isKept s_kept s_trace s_traced)) → va_S A s.heap H locs → lv_has ls 1 [(0, .ref q_s)] → fX9_failed_J20 s_latest s_fault_j20 s_faultAt_j20 = some res → W p l e (headSpec wsX9_failed rmX9_failed).room s m ([.ref q_s] : List Value).toArray below meth c H locs 0 0 QQ (F0 m 20 ls []) := by
    intro s_fault_j20 s_faultAt_j20 H locs ls hP hD hS hl h
    unfold fX9_failed_J20 at h
    refine lv_aload_n hx hb dX9_failed_20 rfl (lv_at hl 0 rfl) ?_
    refine lv_iconst (v := 0) hx hb dX9_failed_21 (by decide) ?_
    refine va_put (D := (dC, dI)) (ci := 7) (v := .int 0) (ty := .int) (C := RX9) (T := TX9) (N := 23) hx hb hts w_1 tyX9 tyX9_ok nmX9 hown hK hP hD hS 0 rfl rfl 11 (by decide) w_2 (fun _ h9 => h9) rfl (by decide +kernel) rfl rfl (Nat.le_of_ble_eq_true rfl) dX9_failed_22 (fun H locs hP hD hS => ?_)
    have hP : va_P (dC, dI) vwCl ((W_M cI cZ q_s q_s_lane q_s_many q_s_item q_s_isle q_s_fresh q_s_then q_s_was q_s_tape q_s_isKept q_s_kept q_s_trace s_thrown s_status s_lane s_many s_item s_isle s_fresh s_then s_was s_acts s_tape 0 s_cursor s_start s_token s_value s_fault_j20 s_faultAt_j20 s_latest s_isKept s_kept s_trace s_traced)) H := hP
    have hD : va_D A ((W_M cI cZ q_s q_s_lane q_s_many q_s_item q_s_isle q_s_fresh q_s_then q_s_was q_s_tape q_s_isKept q_s_kept q_s_trace s_thrown s_status s_lane s_many s_item s_isle s_fresh s_then s_was s_acts s_tape 0 s_cursor s_start s_token s_value s_fault_j20 s_faultAt_j20 s_latest s_isKept s_kept s_trace s_traced)) := hD
    refine lv_aload_n hx hb dX9_failed_25 rfl (lv_at hl 0 rfl) ?_
    refine lv_aload_n hx hb dX9_failed_26 rfl (lv_at hl 0 rfl) ?_
    refine va_get (D := (dC, dI)) (ci := 7) (v := .int s_fault_j20) (C := RX9) (T := TX9) (N := 23) hx hb hts w_1 hown hK hP 0 rfl rfl 16 (by decide) w_0 (fun _ h9 => h9) rfl dX9_failed_27 ?_
    refine lv_if_le (tgt := 40) hx hb dX9_failed_30 (by decide) (fun c_1 => ?_) (fun c_1 => ?_)
    · have h := (if_pos c_1).symm.trans h
      refine lv_aload_n hx hb dX9_failed_40 rfl (lv_at hl 0 rfl) ?_
      refine va_get (D := (dC, dI)) (ci := 7) (v := .int s_latest) (C := RX9) (T := TX9) (N := 23) hx hb hts w_1 hown hK hP 0 rfl rfl 18 (by decide) w_3 (fun _ h9 => h9) rfl dX9_failed_41 ?_
      refine va_put (D := (dC, dI)) (ci := 7) (v := .int s_latest) (ty := .int) (C := RX9) (T := TX9) (N := 23) hx hb hts w_1 tyX9 tyX9_ok nmX9 hown hK hP hD hS 0 rfl rfl 18 (by decide) w_3 (fun _ h9 => h9) rfl (by decide +kernel) rfl rfl (Nat.le_of_ble_eq_true rfl) dX9_failed_44 (fun H locs hP hD hS => ?_)
      have hP : va_P (dC, dI) vwCl ((W_M cI cZ q_s q_s_lane q_s_many q_s_item q_s_isle q_s_fresh q_s_then q_s_was q_s_tape q_s_isKept q_s_kept q_s_trace s_thrown s_status s_lane s_many s_item s_isle s_fresh s_then s_was s_acts s_tape 0 s_cursor s_start s_token s_value s_fault_j20 s_faultAt_j20 s_latest s_isKept s_kept s_trace s_traced)) H := hP
      have hD : va_D A ((W_M cI cZ q_s q_s_lane q_s_many q_s_item q_s_isle q_s_fresh q_s_then q_s_was q_s_tape q_s_isKept q_s_kept q_s_trace s_thrown s_status s_lane s_many s_item s_isle s_fresh s_then s_was s_acts s_tape 0 s_cursor s_start s_token s_value s_fault_j20 s_faultAt_j20 s_latest s_isKept s_kept s_trace s_traced)) := hD
      refine lv_aload_n hx hb dX9_failed_47 rfl (lv_at hl 0 rfl) ?_
      refine va_get (D := (dC, dI)) (ci := 7) (v := .int s_fault_j20) (C := RX9) (T := TX9) (N := 23) hx hb hts w_1 hown hK hP 0 rfl rfl 16 (by decide) w_0 (fun _ h9 => h9) rfl dX9_failed_48 ?_
      refine lv_if_le (tgt := 58) hx hb dX9_failed_51 (by decide) (fun c_2 => ?_) (fun c_2 => ?_)
      · have h := (if_pos c_2).symm.trans h
        refine lv_iconst (v := 0) hx hb dX9_failed_58 (by decide) ?_
        have h := Option.some.inj h
        subst h
        rw [hQQ]
        subst hAe
        exact W.zret (v := 0) (ty := .boolean) hx hb hr rfl (fun t ht hW => ⟨⟨_, (), rfl, rfl, by rw [ht]; exact hP, va_K.moved hW.alike hK, hD⟩, hS.F ht⟩) hS.2.2 dX9_failed_59
      · have h := (if_neg c_2).symm.trans h
        refine lv_iconst (v := 1) hx hb dX9_failed_54 (by decide) ?_
        refine lv_goto (tgt := 59) hx hb dX9_failed_55 (by decide) ?_
        have h := Option.some.inj h
        subst h
        rw [hQQ]
        subst hAe
        exact W.zret (v := 1) (ty := .boolean) hx hb hr rfl (fun t ht hW => ⟨⟨_, (), rfl, rfl, by rw [ht]; exact hP, va_K.moved hW.alike hK, hD⟩, hS.F ht⟩) hS.2.2 dX9_failed_59
    · have h := (if_neg c_1).symm.trans h
      refine lv_aload_n hx hb dX9_failed_33 rfl (lv_at hl 0 rfl) ?_
      refine va_get (D := (dC, dI)) (ci := 7) (v := .int s_fault_j20) (C := RX9) (T := TX9) (N := 23) hx hb hts w_1 hown hK hP 0 rfl rfl 16 (by decide) w_0 (fun _ h9 => h9) rfl dX9_failed_34 ?_
      refine lv_goto (tgt := 44) hx hb dX9_failed_37 (by decide) ?_
      refine va_put (D := (dC, dI)) (ci := 7) (v := .int s_fault_j20) (ty := .int) (C := RX9) (T := TX9) (N := 23) hx hb hts w_1 tyX9 tyX9_ok nmX9 hown hK hP hD hS 0 rfl rfl 18 (by decide) w_3 (fun _ h9 => h9) rfl (by decide +kernel) rfl rfl (Nat.le_of_ble_eq_true rfl) dX9_failed_44 (fun H locs hP hD hS => ?_)
      have hP : va_P (dC, dI) vwCl ((W_M cI cZ q_s q_s_lane q_s_many q_s_item q_s_isle q_s_fresh q_s_then q_s_was q_s_tape q_s_isKept q_s_kept q_s_trace s_thrown s_status s_lane s_many s_item s_isle s_fresh s_then s_was s_acts s_tape 0 s_cursor s_start s_token s_value s_fault_j20 s_faultAt_j20 s_fault_j20 s_isKept s_kept s_trace s_traced)) H := hP
      have hD : va_D A ((W_M cI cZ q_s q_s_lane q_s_many q_s_item q_s_isle q_s_fresh q_s_then q_s_was q_s_tape q_s_isKept q_s_kept q_s_trace s_thrown s_status s_lane s_many s_item s_isle s_fresh s_then s_was s_acts s_tape 0 s_cursor s_start s_token s_value s_fault_j20 s_faultAt_j20 s_fault_j20 s_isKept s_kept s_trace s_traced)) := hD
      refine lv_aload_n hx hb dX9_failed_47 rfl (lv_at hl 0 rfl) ?_
      refine va_get (D := (dC, dI)) (ci := 7) (v := .int s_fault_j20) (C := RX9) (T := TX9) (N := 23) hx hb hts w_1 hown hK hP 0 rfl rfl 16 (by decide) w_0 (fun _ h9 => h9) rfl dX9_failed_48 ?_
      refine lv_if_le (tgt := 58) hx hb dX9_failed_51 (by decide) (fun c_3 => ?_) (fun c_3 => ?_)
      · have h := (if_pos c_3).symm.trans h
        refine lv_iconst (v := 0) hx hb dX9_failed_58 (by decide) ?_
        have h := Option.some.inj h
        subst h
        rw [hQQ]
        subst hAe
        exact W.zret (v := 0) (ty := .boolean) hx hb hr rfl (fun t ht hW => ⟨⟨_, (), rfl, rfl, by rw [ht]; exact hP, va_K.moved hW.alike hK, hD⟩, hS.F ht⟩) hS.2.2 dX9_failed_59
      · have h := (if_neg c_3).symm.trans h
        refine lv_iconst (v := 1) hx hb dX9_failed_54 (by decide) ?_
        refine lv_goto (tgt := 59) hx hb dX9_failed_55 (by decide) ?_
        have h := Option.some.inj h
        subst h
        rw [hQQ]
        subst hAe
        exact W.zret (v := 1) (ty := .boolean) hx hb hr rfl (fun t ht hW => ⟨⟨_, (), rfl, rfl, by rw [ht]; exact hP, va_K.moved hW.alike hK, hD⟩, hS.F ht⟩) hS.2.2 dX9_failed_59
  refine lv_if_ne (tgt := 20) hx hb dX9_failed_4 (by decide) (fun c_4 => ?_) (fun c_4 => ?_)
  · have h := (if_neg c_4).symm.trans h
    exact KJ20 s_fault s_faultAt _ _ _ hP hD hS (lv_sub hl [0] rfl) h
  · have h := (if_pos c_4).symm.trans h
    refine lv_aload_n hx hb dX9_failed_7 rfl (lv_at hl 0 rfl) ?_
    refine va_get (D := (dC, dI)) (ci := 7) (v := .int s_token) (C := RX9) (T := TX9) (N := 23) hx hb hts w_1 hown hK hP 0 rfl rfl 14 (by decide) w_4 (fun _ h9 => h9) rfl dX9_failed_8 ?_
    refine lv_iconst (v := 1) hx hb dX9_failed_11 (by decide) ?_
    refine lv_icmp_eq (tgt := 20) hx hb dX9_failed_12 (by decide) (fun c_5 => ?_) (fun c_5 => ?_)
    · have h := (if_pos c_5).symm.trans h
      exact KJ20 s_fault s_faultAt _ _ _ hP hD hS (lv_sub hl [0] rfl) h
    · have h := (if_neg c_5).symm.trans h
      refine lv_aload_n hx hb dX9_failed_15 rfl (lv_at hl 0 rfl) ?_
      refine lv_iconst (v := 1) hx hb dX9_failed_16 (by decide) ?_
      obtain ⟨s_fault_6, s_faultAt_6, hc_6, h⟩ := bd2_of h
      refine cl_mVv (As := [.int 1]) (rest := []) (ws' := (W_M cI cZ q_s q_s_lane q_s_many q_s_item q_s_isle q_s_fresh q_s_then q_s_was q_s_tape q_s_isKept q_s_kept q_s_trace s_thrown s_status s_lane s_many s_item s_isle s_fresh s_then s_was s_acts s_tape s_taped s_cursor s_start s_token s_value s_fault_6 s_faultAt_6 s_latest s_isKept s_kept s_trace s_traced)) (wr := []) ⟨hx, hb, hml, hown, hts⟩ (m_X9_bad l dC dI cI cZ q_s q_s_lane q_s_many q_s_item q_s_isle q_s_fresh q_s_then q_s_was q_s_tape q_s_isKept q_s_kept q_s_trace s_thrown s_status s_lane s_many s_item s_isle s_fresh s_then s_was s_acts s_tape s_taped s_cursor s_start s_token s_value s_fault s_faultAt s_latest s_isKept s_kept s_trace s_traced 1 _ (s_fault_6, s_faultAt_6) hc_6) (cwV 1 hts gX9_failed_X9_bad rfl rfl rfl ⟨rfl, ddX9_bad⟩ ⟨Nat.le_of_ble_eq_true rfl, Nat.le_of_ble_eq_true rfl⟩) hK hP hD hS hA [0, 1, 2, 3, 4, 5, 6, 7, 8, 9, 10, 11] [] rfl rfl rfl rfl (by decide) [0, 1, 2, 3, 4, 5, 6, 7, 8, 9, 10, 11] rfl rfl rfl rfl rfl rfl rfl hl.1 (Nat.le_of_ble_eq_true rfl) ⟨Nat.zero_le _, Nat.zero_le _⟩ dX9_failed_17 (fun H locs hP hD hS => ?_)
      exact KJ20 s_fault_6 s_faultAt_6 _ _ _ hP hD hS (lv_sub hl [0] rfl) h
def fX9_fault (s_latest : Int32) : Option (Int32 × Int32) :=
  some (s_latest, 0)
abbrev rmX9_fault : Room := { frames := 0, cells := 0, slots := 0, locals := 0 }
theorem ddX9_fault : yX9_fault.cls ≠ "java/lang/invoke/MethodHandle" ∧ yX9_fault.cls ≠ "java/lang/invoke/VarHandle" ∧ (parseMethodDescriptor yX9_fault.desc).map (fun d => d.parameters.length) = some 0 := by decide +kernel
set_option maxHeartbeats 4000000 in
set_option maxRecDepth 100000 in
theorem m_X9_fault (l : Launch) (dC : Nat → ClassId) (dI : Nat → Nat → Nat) (cI cZ : ClassId) (q_s q_s_lane q_s_many q_s_item q_s_isle q_s_fresh q_s_then q_s_was q_s_tape q_s_isKept q_s_kept q_s_trace : Nat) (s_thrown : Int32) (s_status : Int32) (s_lane : (Nat → Int32)) (s_many : (Nat → Int32)) (s_item : (Nat → Int32)) (s_isle : (Nat → Int32)) (s_fresh : (Nat → Int32)) (s_then : (Nat → Int32)) (s_was : (Nat → Int32)) (s_acts : Int32) (s_tape : (Nat → Int32)) (s_taped : Int32) (s_cursor : Int32) (s_start : Int32) (s_token : Int32) (s_value : Int32) (s_fault : Int32) (s_faultAt : Int32) (s_latest : Int32) (s_isKept : (Nat → Int32)) (s_kept : (Nat → Int32)) (s_trace : (Nat → Int32)) (s_traced : Int32) (sz : Nat) (res : Int32 × Int32) (hf : fX9_fault s_latest = some res) : Met l yX9_fault wsX9_fault rmX9_fault (mtPc (dC, dI) (tyZ cI cZ) ((W_M cI cZ q_s q_s_lane q_s_many q_s_item q_s_isle q_s_fresh q_s_then q_s_was q_s_tape q_s_isKept q_s_kept q_s_trace s_thrown s_status s_lane s_many s_item s_isle s_fresh s_then s_was s_acts s_tape s_taped s_cursor s_start s_token s_value s_fault s_faultAt s_latest s_isKept s_kept s_trace s_traced)) [.ref q_s] sz) (mtQi (dC, dI) (tyZ cI cZ) ((W_M cI cZ q_s q_s_lane q_s_many q_s_item q_s_isle q_s_fresh q_s_then q_s_was q_s_tape q_s_isKept q_s_kept q_s_trace s_thrown s_status s_lane s_many s_item s_isle s_fresh s_then s_was s_acts s_tape s_taped s_cursor s_start s_token s_value s_fault s_faultAt s_latest s_isKept s_kept s_trace s_traced)) ((W_M cI cZ q_s q_s_lane q_s_many q_s_item q_s_isle q_s_fresh q_s_then q_s_was q_s_tape q_s_isKept q_s_kept q_s_trace res.2 s_status s_lane s_many s_item s_isle s_fresh s_then s_was s_acts s_tape s_taped s_cursor s_start s_token s_value s_fault s_faultAt s_latest s_isKept s_kept s_trace s_traced)) res.1 sz) 0 0 (va_A ((W_M cI cZ q_s q_s_lane q_s_many q_s_item q_s_isle q_s_fresh q_s_then q_s_was q_s_tape q_s_isKept q_s_kept q_s_trace s_thrown s_status s_lane s_many s_item s_isle s_fresh s_then s_was s_acts s_tape s_taped s_cursor s_start s_token s_value s_fault s_faultAt s_latest s_isKept s_kept s_trace s_traced)) sz) := by
  refine Met.ofW (cc := cX9_fault) (maxL := 1) (ret := (some .int)) (by decide) rfl ?_
  intro p e s m args below meth c s₁ B hml hv
  obtain ⟨rfl, hsz, hP, hK, hD0⟩ := hv
  have hx := B.exec
  have hb := B.bytes
  have hr := B.returns
  have hts := atoms_spec (ws := wsX9_fault) B.pre
  have hown : s.vm.findClass RX9 = some m.cls := findClass_of_methodNamed B.named
  have hlocks := B.notSynchronized
  subst hsz
  have hD := hD0.self (sz := s.heap.size)
  obtain ⟨A, hAe⟩ : ∃ A, A = va_A ((W_M cI cZ q_s q_s_lane q_s_many q_s_item q_s_isle q_s_fresh q_s_then q_s_was q_s_tape q_s_isKept q_s_kept q_s_trace s_thrown s_status s_lane s_many s_item s_isle s_fresh s_then s_was s_acts s_tape s_taped s_cursor s_start s_token s_value s_fault s_faultAt s_latest s_isKept s_kept s_trace s_traced)) s.heap.size := ⟨_, rfl⟩
  rw [← hAe] at hD
  have hA : ∀ q : Nat, s.heap.size ≤ q → A q := fun q h => by rw [hAe]; exact Or.inr h
  have hS : va_S A s.heap s.heap [] := va_S.rf
  have hl := lv_entry ([.ref q_s]) (n := 1) (Nat.le_of_ble_eq_true rfl)
  rw [lg_entry_eq]
  generalize (lg_sl ([.ref q_s]) ++ List.replicate (1 - (lg_sl ([.ref q_s])).length) Slot.unset).toArray = ls at hl ⊢
  have hl : lv_has ls 1 [(0, .ref q_s)] := hl
  obtain ⟨QQ, hQQ⟩ : ∃ Q, Q = MQ below (mtQi (dC, dI) (tyZ cI cZ) ((W_M cI cZ q_s q_s_lane q_s_many q_s_item q_s_isle q_s_fresh q_s_then q_s_was q_s_tape q_s_isKept q_s_kept q_s_trace s_thrown s_status s_lane s_many s_item s_isle s_fresh s_then s_was s_acts s_tape s_taped s_cursor s_start s_token s_value s_fault s_faultAt s_latest s_isKept s_kept s_trace s_traced)) ((W_M cI cZ q_s q_s_lane q_s_many q_s_item q_s_isle q_s_fresh q_s_then q_s_was q_s_tape q_s_isKept q_s_kept q_s_trace res.2 s_status s_lane s_many s_item s_isle s_fresh s_then s_was s_acts s_tape s_taped s_cursor s_start s_token s_value s_fault s_faultAt s_latest s_isKept s_kept s_trace s_traced)) res.1 s.heap.size) ([.ref q_s] : List Value).toArray s 0 0 (va_A ((W_M cI cZ q_s q_s_lane q_s_many q_s_item q_s_isle q_s_fresh q_s_then q_s_was q_s_tape q_s_isKept q_s_kept q_s_trace s_thrown s_status s_lane s_many s_item s_isle s_fresh s_then s_was s_acts s_tape s_taped s_cursor s_start s_token s_value s_fault s_faultAt s_latest s_isKept s_kept s_trace s_traced)) s.heap.size) := ⟨_, rfl⟩
  rw [← hQQ]
  have w_0 := hts (Cond.fieldLink RX9 44 "TideInchesModel" "thrown" "I") (List.mem_of_getElem? (i := 1) rfl)
  have w_1 := (fun w hw => List.mem_cons_of_mem _ (List.mem_append_right _ hw) : ∀ w ∈ wsX90, w ∈ wsX9_fault)
  have w_2 := hts (Cond.fieldLink RX9 113 "TideInchesModel" "latest" "I") (List.mem_of_getElem? (i := 2) rfl)
  have h := hf
  unfold fX9_fault at h
  refine lv_aload_n hx hb dX9_fault_0 rfl (lv_at hl 0 rfl) ?_
  refine lv_iconst (v := 0) hx hb dX9_fault_1 (by decide) ?_
  refine va_put (D := (dC, dI)) (ci := 7) (v := .int 0) (ty := .int) (C := RX9) (T := TX9) (N := 23) hx hb hts w_1 tyX9 tyX9_ok nmX9 hown hK hP hD hS 0 rfl rfl 0 (by decide) w_0 (fun _ h9 => h9) rfl (by decide +kernel) rfl rfl (Nat.le_of_ble_eq_true rfl) dX9_fault_2 (fun H locs hP hD hS => ?_)
  have hP : va_P (dC, dI) vwCl ((W_M cI cZ q_s q_s_lane q_s_many q_s_item q_s_isle q_s_fresh q_s_then q_s_was q_s_tape q_s_isKept q_s_kept q_s_trace 0 s_status s_lane s_many s_item s_isle s_fresh s_then s_was s_acts s_tape s_taped s_cursor s_start s_token s_value s_fault s_faultAt s_latest s_isKept s_kept s_trace s_traced)) H := hP
  have hD : va_D A ((W_M cI cZ q_s q_s_lane q_s_many q_s_item q_s_isle q_s_fresh q_s_then q_s_was q_s_tape q_s_isKept q_s_kept q_s_trace 0 s_status s_lane s_many s_item s_isle s_fresh s_then s_was s_acts s_tape s_taped s_cursor s_start s_token s_value s_fault s_faultAt s_latest s_isKept s_kept s_trace s_traced)) := hD
  refine lv_aload_n hx hb dX9_fault_5 rfl (lv_at hl 0 rfl) ?_
  refine va_get (D := (dC, dI)) (ci := 7) (v := .int s_latest) (C := RX9) (T := TX9) (N := 23) hx hb hts w_1 hown hK hP 0 rfl rfl 18 (by decide) w_2 (fun _ h9 => h9) rfl dX9_fault_6 ?_
  have h := Option.some.inj h
  subst h
  rw [hQQ]
  subst hAe
  exact W.iret (v := s_latest) hx hb hr (fun t ht hW => ⟨⟨_, (), rfl, rfl, by rw [ht]; exact hP, va_K.moved hW.alike hK, hD⟩, hS.F ht⟩) hS.2.2 dX9_fault_9
def fX9_kindBy (v0 : Int32) : Option (Int32) :=
  (if v0 = 98 then some (1) else (if v0 = 97 then some (2) else (if v0 = 122 then some (3) else (if v0 = 103 then some (4) else (if v0 = 108 then some (5) else some ((-1000000)))))))
abbrev rmX9_kindBy : Room := { frames := 0, cells := 0, slots := 0, locals := 0 }
theorem ddX9_kindBy : yX9_kindBy.cls ≠ "java/lang/invoke/MethodHandle" ∧ yX9_kindBy.cls ≠ "java/lang/invoke/VarHandle" ∧ (parseMethodDescriptor yX9_kindBy.desc).map (fun d => d.parameters.length) = some 1 := by decide +kernel
set_option maxHeartbeats 4000000 in
set_option maxRecDepth 100000 in
theorem m_X9_kindBy (l : Launch) (v0 : Int32) (res : Int32) (hf : fX9_kindBy v0 = some res) : Met l yX9_kindBy wsX9_kindBy rmX9_kindBy (psPc [.int v0]) (rdQ res) 0 0 (fun _ => False) := by
  refine Met.ofW (cc := cX9_kindBy) (maxL := 1) (ret := (some .int)) (by decide) rfl ?_
  intro p e s m args below meth c s₁ B hml hv
  obtain rfl := hv
  have hx := B.exec
  have hb := B.bytes
  have hr := B.returns
  have hts := atoms_spec (ws := wsX9_kindBy) B.pre
  have hown : s.vm.findClass RX9 = some m.cls := findClass_of_methodNamed B.named
  have hlocks := B.notSynchronized
  have hl := lv_entry ([.int v0]) (n := 1) (Nat.le_of_ble_eq_true rfl)
  rw [lg_entry_eq]
  generalize (lg_sl ([.int v0]) ++ List.replicate (1 - (lg_sl ([.int v0])).length) Slot.unset).toArray = ls at hl ⊢
  have hl : lv_has ls 1 [(0, .int v0)] := hl
  obtain ⟨QQ, hQQ⟩ : ∃ Q, Q = MQ below (rdQ res) ([.int v0] : List Value).toArray s 0 0 (fun _ => False) := ⟨_, rfl⟩
  rw [← hQQ]
  have w_0 := hts (Cond.constant RX9 87 (-1000000)) (List.mem_of_getElem? (i := 1) rfl)
  have h := hf
  unfold fX9_kindBy at h
  refine lv_iload_n hx hb dX9_kindBy_0 rfl (lv_at hl 0 rfl) ?_
  refine lv_bipush (v := 98) hx hb dX9_kindBy_1 (by decide) ?_
  refine lv_icmp_ne (tgt := 10) hx hb dX9_kindBy_3 (by decide) (fun c_1 => ?_) (fun c_1 => ?_)
  · have h := (if_neg c_1).symm.trans h
    refine lv_iload_n hx hb dX9_kindBy_10 rfl (lv_at hl 0 rfl) ?_
    refine lv_bipush (v := 97) hx hb dX9_kindBy_11 (by decide) ?_
    refine lv_icmp_ne (tgt := 20) hx hb dX9_kindBy_13 (by decide) (fun c_2 => ?_) (fun c_2 => ?_)
    · have h := (if_neg c_2).symm.trans h
      refine lv_iload_n hx hb dX9_kindBy_20 rfl (lv_at hl 0 rfl) ?_
      refine lv_bipush (v := 122) hx hb dX9_kindBy_21 (by decide) ?_
      refine lv_icmp_ne (tgt := 30) hx hb dX9_kindBy_23 (by decide) (fun c_3 => ?_) (fun c_3 => ?_)
      · have h := (if_neg c_3).symm.trans h
        refine lv_iload_n hx hb dX9_kindBy_30 rfl (lv_at hl 0 rfl) ?_
        refine lv_bipush (v := 103) hx hb dX9_kindBy_31 (by decide) ?_
        refine lv_icmp_ne (tgt := 40) hx hb dX9_kindBy_33 (by decide) (fun c_4 => ?_) (fun c_4 => ?_)
        · have h := (if_neg c_4).symm.trans h
          refine lv_iload_n hx hb dX9_kindBy_40 rfl (lv_at hl 0 rfl) ?_
          refine lv_bipush (v := 108) hx hb dX9_kindBy_41 (by decide) ?_
          refine lv_icmp_ne (tgt := 50) hx hb dX9_kindBy_43 (by decide) (fun c_5 => ?_) (fun c_5 => ?_)
          · have h := (if_neg c_5).symm.trans h
            refine lv_ldc hx hb hown w_0 dX9_kindBy_50 ?_
            rw [hQQ]
            exact W.iret (v := (-1000000)) hx hb hr (fun t ht hW => ⟨_, rfl, Option.some.inj h, ht⟩) (fun q hq => by cases hq) dX9_kindBy_52
          · have h := (if_pos c_5).symm.trans h
            refine lv_iconst (v := 5) hx hb dX9_kindBy_46 (by decide) ?_
            refine lv_goto (tgt := 52) hx hb dX9_kindBy_47 (by decide) ?_
            rw [hQQ]
            exact W.iret (v := 5) hx hb hr (fun t ht hW => ⟨_, rfl, Option.some.inj h, ht⟩) (fun q hq => by cases hq) dX9_kindBy_52
        · have h := (if_pos c_4).symm.trans h
          refine lv_iconst (v := 4) hx hb dX9_kindBy_36 (by decide) ?_
          refine lv_goto (tgt := 52) hx hb dX9_kindBy_37 (by decide) ?_
          rw [hQQ]
          exact W.iret (v := 4) hx hb hr (fun t ht hW => ⟨_, rfl, Option.some.inj h, ht⟩) (fun q hq => by cases hq) dX9_kindBy_52
      · have h := (if_pos c_3).symm.trans h
        refine lv_iconst (v := 3) hx hb dX9_kindBy_26 (by decide) ?_
        refine lv_goto (tgt := 52) hx hb dX9_kindBy_27 (by decide) ?_
        rw [hQQ]
        exact W.iret (v := 3) hx hb hr (fun t ht hW => ⟨_, rfl, Option.some.inj h, ht⟩) (fun q hq => by cases hq) dX9_kindBy_52
    · have h := (if_pos c_2).symm.trans h
      refine lv_iconst (v := 2) hx hb dX9_kindBy_16 (by decide) ?_
      refine lv_goto (tgt := 52) hx hb dX9_kindBy_17 (by decide) ?_
      rw [hQQ]
      exact W.iret (v := 2) hx hb hr (fun t ht hW => ⟨_, rfl, Option.some.inj h, ht⟩) (fun q hq => by cases hq) dX9_kindBy_52
  · have h := (if_pos c_1).symm.trans h
    refine lv_iconst (v := 1) hx hb dX9_kindBy_6 (by decide) ?_
    refine lv_goto (tgt := 52) hx hb dX9_kindBy_7 (by decide) ?_
    rw [hQQ]
    exact W.iret (v := 1) hx hb hr (fun t ht hW => ⟨_, rfl, Option.some.inj h, ht⟩) (fun q hq => by cases hq) dX9_kindBy_52
def fX9_isSort (s_token : Int32) (s_value : Int32) (s_fault : Int32) : Option (Int32) :=
  (if s_fault = 0 then (if s_token = 2 then bd1 (fX9_kindBy s_value) (fun r_3 => (if r_3 = (-1000000) then some (0) else some (1))) else some (0)) else some (0))
abbrev rmX9_isSort : Room := { frames := 1, cells := 0, slots := 0, locals := 20 }
theorem ddX9_isSort : yX9_isSort.cls ≠ "java/lang/invoke/MethodHandle" ∧ yX9_isSort.cls ≠ "java/lang/invoke/VarHandle" ∧ (parseMethodDescriptor yX9_isSort.desc).map (fun d => d.parameters.length) = some 0 := by decide +kernel
set_option maxHeartbeats 4000000 in
set_option maxRecDepth 100000 in
theorem m_X9_isSort (l : Launch) (dC : Nat → ClassId) (dI : Nat → Nat → Nat) (cI cZ : ClassId) (q_s q_s_lane q_s_many q_s_item q_s_isle q_s_fresh q_s_then q_s_was q_s_tape q_s_isKept q_s_kept q_s_trace : Nat) (s_thrown : Int32) (s_status : Int32) (s_lane : (Nat → Int32)) (s_many : (Nat → Int32)) (s_item : (Nat → Int32)) (s_isle : (Nat → Int32)) (s_fresh : (Nat → Int32)) (s_then : (Nat → Int32)) (s_was : (Nat → Int32)) (s_acts : Int32) (s_tape : (Nat → Int32)) (s_taped : Int32) (s_cursor : Int32) (s_start : Int32) (s_token : Int32) (s_value : Int32) (s_fault : Int32) (s_faultAt : Int32) (s_latest : Int32) (s_isKept : (Nat → Int32)) (s_kept : (Nat → Int32)) (s_trace : (Nat → Int32)) (s_traced : Int32) (res : Int32) (hf : fX9_isSort s_token s_value s_fault = some res) : Met l yX9_isSort wsX9_isSort rmX9_isSort (rdPc (dC, dI) (tyZ cI cZ) ((W_M cI cZ q_s q_s_lane q_s_many q_s_item q_s_isle q_s_fresh q_s_then q_s_was q_s_tape q_s_isKept q_s_kept q_s_trace s_thrown s_status s_lane s_many s_item s_isle s_fresh s_then s_was s_acts s_tape s_taped s_cursor s_start s_token s_value s_fault s_faultAt s_latest s_isKept s_kept s_trace s_traced)) [.ref q_s]) (rdQ res) 0 0 (fun _ => False) := by
  refine Met.ofW (cc := cX9_isSort) (maxL := 1) (ret := (some .boolean)) (by decide) rfl ?_
  intro p e s m args below meth c s₁ B hml hv
  obtain ⟨rfl, hP, hK⟩ := hv
  have hx := B.exec
  have hb := B.bytes
  have hr := B.returns
  have hts := atoms_spec (ws := wsX9_isSort) B.pre
  have hown : s.vm.findClass RX9 = some m.cls := findClass_of_methodNamed B.named
  have hlocks := B.notSynchronized
  have hl := lv_entry ([.ref q_s]) (n := 1) (Nat.le_of_ble_eq_true rfl)
  rw [lg_entry_eq]
  generalize (lg_sl ([.ref q_s]) ++ List.replicate (1 - (lg_sl ([.ref q_s])).length) Slot.unset).toArray = ls at hl ⊢
  have hl : lv_has ls 1 [(0, .ref q_s)] := hl
  obtain ⟨QQ, hQQ⟩ : ∃ Q, Q = MQ below (rdQ res) ([.ref q_s] : List Value).toArray s 0 0 (fun _ => False) := ⟨_, rfl⟩
  rw [← hQQ]
  have w_0 := hts (Cond.fieldLink RX9 75 "TideInchesModel" "fault" "I") (List.mem_of_getElem? (i := 1) rfl)
  have w_1 := (fun w hw => List.mem_cons_of_mem _ (List.mem_append_right _ hw) : ∀ w ∈ wsX90, w ∈ wsX9_isSort)
  have w_2 := hts (Cond.fieldLink RX9 99 "TideInchesModel" "token" "I") (List.mem_of_getElem? (i := 2) rfl)
  have w_3 := hts (Cond.fieldLink RX9 88 "TideInchesModel" "value" "I") (List.mem_of_getElem? (i := 3) rfl)
  have w_4 := hts (Cond.constant RX9 87 (-1000000)) (List.mem_of_getElem? (i := 4) rfl)
  have h := hf
  unfold fX9_isSort at h
  refine lv_aload_n hx hb dX9_isSort_0 rfl (lv_at hl 0 rfl) ?_
  refine va_get (D := (dC, dI)) (ci := 7) (v := .int s_fault) (C := RX9) (T := TX9) (N := 23) hx hb hts w_1 hown hK hP 0 rfl rfl 16 (by decide) w_0 (fun _ h9 => h9) rfl dX9_isSort_1 ?_
  refine lv_if_ne (tgt := 31) hx hb dX9_isSort_4 (by decide) (fun c_1 => ?_) (fun c_1 => ?_)
  · have h := (if_neg c_1).symm.trans h
    refine lv_iconst (v := 0) hx hb dX9_isSort_31 (by decide) ?_
    rw [hQQ]
    exact W.zret (v := 0) (ty := .boolean) hx hb hr rfl (fun t ht hW => ⟨_, rfl, Option.some.inj h, ht⟩) (fun q hq => by cases hq) dX9_isSort_32
  · have h := (if_pos c_1).symm.trans h
    refine lv_aload_n hx hb dX9_isSort_7 rfl (lv_at hl 0 rfl) ?_
    refine va_get (D := (dC, dI)) (ci := 7) (v := .int s_token) (C := RX9) (T := TX9) (N := 23) hx hb hts w_1 hown hK hP 0 rfl rfl 14 (by decide) w_2 (fun _ h9 => h9) rfl dX9_isSort_8 ?_
    refine lv_iconst (v := 2) hx hb dX9_isSort_11 (by decide) ?_
    refine lv_icmp_ne (tgt := 31) hx hb dX9_isSort_12 (by decide) (fun c_2 => ?_) (fun c_2 => ?_)
    · have h := (if_neg c_2).symm.trans h
      refine lv_iconst (v := 0) hx hb dX9_isSort_31 (by decide) ?_
      rw [hQQ]
      exact W.zret (v := 0) (ty := .boolean) hx hb hr rfl (fun t ht hW => ⟨_, rfl, Option.some.inj h, ht⟩) (fun q hq => by cases hq) dX9_isSort_32
    · have h := (if_pos c_2).symm.trans h
      refine lv_aload_n hx hb dX9_isSort_15 rfl (lv_at hl 0 rfl) ?_
      refine va_get (D := (dC, dI)) (ci := 7) (v := .int s_value) (C := RX9) (T := TX9) (N := 23) hx hb hts w_1 hown hK hP 0 rfl rfl 15 (by decide) w_3 (fun _ h9 => h9) rfl dX9_isSort_16 ?_
      obtain ⟨r_3, hc_3, h⟩ := bd1_of h
      refine cl_pS (As := [.int s_value]) (rest := []) ⟨hx, hb, hml, hown, hts⟩ (m_X9_kindBy l s_value (r_3) hc_3) (va_cwS 1 hts gX9_isSort_X9_kindBy rfl rfl rfl ddX9_kindBy ⟨Nat.le_of_ble_eq_true rfl, Nat.le_of_ble_eq_true rfl⟩) rfl rfl hl.1 (Nat.le_of_ble_eq_true rfl) ⟨Nat.zero_le _, Nat.zero_le _⟩ dX9_isSort_19 ?_
      refine lv_ldc hx hb hown w_4 dX9_isSort_22 ?_
      refine lv_icmp_eq (tgt := 31) hx hb dX9_isSort_24 (by decide) (fun c_4 => ?_) (fun c_4 => ?_)
      · have h := (if_pos c_4).symm.trans h
        refine lv_iconst (v := 0) hx hb dX9_isSort_31 (by decide) ?_
        rw [hQQ]
        exact W.zret (v := 0) (ty := .boolean) hx hb hr rfl (fun t ht hW => ⟨_, rfl, Option.some.inj h, ht⟩) (fun q hq => by cases hq) dX9_isSort_32
      · have h := (if_neg c_4).symm.trans h
        refine lv_iconst (v := 1) hx hb dX9_isSort_27 (by decide) ?_
        refine lv_goto (tgt := 32) hx hb dX9_isSort_28 (by decide) ?_
        rw [hQQ]
        exact W.zret (v := 1) (ty := .boolean) hx hb hr rfl (fun t ht hW => ⟨_, rfl, Option.some.inj h, ht⟩) (fun q hq => by cases hq) dX9_isSort_32
def fX9_readBidder_J23 (s_fresh : (Nat → Int32)) (s_tape : (Nat → Int32)) (s_taped : Int32) (s_cursor : Int32) (s_start : Int32) (s_token : Int32) (s_value : Int32) (r_1 : Int32) (s_fault_j23 : Int32) (s_faultAt_j23 : Int32) : Option ((Nat → Int32) × Int32 × Int32 × Int32 × Int32 × Int32 × Int32) :=
  bd6 (fX9_must s_tape s_taped s_cursor s_start s_token s_value s_fault_j23 s_faultAt_j23 1) (fun s_cursor_2 s_start_2 s_token_2 s_value_2 s_fault_2 s_faultAt_2 => bd7 (fX9_number s_tape s_taped s_cursor_2 s_start_2 s_token_2 s_value_2 s_fault_2 s_faultAt_2 0 99) (fun r_3 s_cursor_3 s_start_3 s_token_3 s_value_3 s_fault_3 s_faultAt_3 => bd6 (fX9_mustSign s_tape s_taped s_cursor_3 s_start_3 s_token_3 s_value_3 s_fault_3 s_faultAt_3 44) (fun s_cursor_4 s_start_4 s_token_4 s_value_4 s_fault_4 s_faultAt_4 => bd7 (fX9_number s_tape s_taped s_cursor_4 s_start_4 s_token_4 s_value_4 s_fault_4 s_faultAt_4 0 14) (fun r_5 s_cursor_5 s_start_5 s_token_5 s_value_5 s_fault_5 s_faultAt_5 => bd6 (fX9_mustSign s_tape s_taped s_cursor_5 s_start_5 s_token_5 s_value_5 s_fault_5 s_faultAt_5 59) (fun s_cursor_6 s_start_6 s_token_6 s_value_6 s_fault_6 s_faultAt_6 => (if s_fault_6 = 0 then chk (¬ ((36 + (3 * (s_fresh (4 : Int32).toNatClampNeg))) < 0 ∨ 51 ≤ (36 + (3 * (s_fresh (4 : Int32).toNatClampNeg))).toNatClampNeg)) (chk (¬ (((36 + (3 * (s_fresh (4 : Int32).toNatClampNeg))) + 1) < 0 ∨ 51 ≤ ((36 + (3 * (s_fresh (4 : Int32).toNatClampNeg))) + 1).toNatClampNeg)) (chk (¬ (((36 + (3 * (s_fresh (4 : Int32).toNatClampNeg))) + 2) < 0 ∨ 51 ≤ ((36 + (3 * (s_fresh (4 : Int32).toNatClampNeg))) + 2).toNatClampNeg)) (some ((upd (upd (upd (upd s_fresh (36 + (3 * (s_fresh (4 : Int32).toNatClampNeg))).toNatClampNeg r_1) ((36 + (3 * (s_fresh (4 : Int32).toNatClampNeg))) + 1).toNatClampNeg r_3) ((36 + (3 * (s_fresh (4 : Int32).toNatClampNeg))) + 2).toNatClampNeg r_5) (4 : Int32).toNatClampNeg (((upd (upd (upd s_fresh (36 + (3 * (s_fresh (4 : Int32).toNatClampNeg))).toNatClampNeg r_1) ((36 + (3 * (s_fresh (4 : Int32).toNatClampNeg))) + 1).toNatClampNeg r_3) ((36 + (3 * (s_fresh (4 : Int32).toNatClampNeg))) + 2).toNatClampNeg r_5) (4 : Int32).toNatClampNeg) + 1)), s_cursor_6, s_start_6, s_token_6, s_value_6, s_fault_6, s_faultAt_6)))) else some (s_fresh, s_cursor_6, s_start_6, s_token_6, s_value_6, s_fault_6, s_faultAt_6)))))))
def fX9_readBidder (s_fresh : (Nat → Int32)) (s_tape : (Nat → Int32)) (s_taped : Int32) (s_cursor : Int32) (s_start : Int32) (s_token : Int32) (s_value : Int32) (s_fault : Int32) (s_faultAt : Int32) : Option ((Nat → Int32) × Int32 × Int32 × Int32 × Int32 × Int32 × Int32) :=
  bd1 (fX9_kindBy s_value) (fun r_1 => (if (s_fresh (4 : Int32).toNatClampNeg) = 5 then bd2 (fX9_bad s_start s_fault s_faultAt 3) (fun s_fault_12 s_faultAt_12 => (fX9_readBidder_J23 s_fresh s_tape s_taped s_cursor s_start s_token s_value r_1 s_fault_12 s_faultAt_12)) else (fX9_readBidder_J23 s_fresh s_tape s_taped s_cursor s_start s_token s_value r_1 s_fault s_faultAt)))
abbrev rmX9_readBidder : Room := { frames := 4, cells := 0, slots := 0, locals := 89 }
theorem ddX9_readBidder : yX9_readBidder.cls ≠ "java/lang/invoke/MethodHandle" ∧ yX9_readBidder.cls ≠ "java/lang/invoke/VarHandle" ∧ (parseMethodDescriptor yX9_readBidder.desc).map (fun d => d.parameters.length) = some 0 := by decide +kernel
set_option maxHeartbeats 4000000 in
set_option maxRecDepth 100000 in
theorem m_X9_readBidder (l : Launch) (dC : Nat → ClassId) (dI : Nat → Nat → Nat) (cI cZ : ClassId) (q_s q_s_lane q_s_many q_s_item q_s_isle q_s_fresh q_s_then q_s_was q_s_tape q_s_isKept q_s_kept q_s_trace : Nat) (s_thrown : Int32) (s_status : Int32) (s_lane : (Nat → Int32)) (s_many : (Nat → Int32)) (s_item : (Nat → Int32)) (s_isle : (Nat → Int32)) (s_fresh : (Nat → Int32)) (s_then : (Nat → Int32)) (s_was : (Nat → Int32)) (s_acts : Int32) (s_tape : (Nat → Int32)) (s_taped : Int32) (s_cursor : Int32) (s_start : Int32) (s_token : Int32) (s_value : Int32) (s_fault : Int32) (s_faultAt : Int32) (s_latest : Int32) (s_isKept : (Nat → Int32)) (s_kept : (Nat → Int32)) (s_trace : (Nat → Int32)) (s_traced : Int32) (sz : Nat) (res : (Nat → Int32) × Int32 × Int32 × Int32 × Int32 × Int32 × Int32) (hf : fX9_readBidder s_fresh s_tape s_taped s_cursor s_start s_token s_value s_fault s_faultAt = some res) : Met l yX9_readBidder wsX9_readBidder rmX9_readBidder (mtPc (dC, dI) (tyZ cI cZ) ((W_M cI cZ q_s q_s_lane q_s_many q_s_item q_s_isle q_s_fresh q_s_then q_s_was q_s_tape q_s_isKept q_s_kept q_s_trace s_thrown s_status s_lane s_many s_item s_isle s_fresh s_then s_was s_acts s_tape s_taped s_cursor s_start s_token s_value s_fault s_faultAt s_latest s_isKept s_kept s_trace s_traced)) [.ref q_s] sz) (mtQv (dC, dI) (tyZ cI cZ) ((W_M cI cZ q_s q_s_lane q_s_many q_s_item q_s_isle q_s_fresh q_s_then q_s_was q_s_tape q_s_isKept q_s_kept q_s_trace s_thrown s_status s_lane s_many s_item s_isle s_fresh s_then s_was s_acts s_tape s_taped s_cursor s_start s_token s_value s_fault s_faultAt s_latest s_isKept s_kept s_trace s_traced)) ((W_M cI cZ q_s q_s_lane q_s_many q_s_item q_s_isle q_s_fresh q_s_then q_s_was q_s_tape q_s_isKept q_s_kept q_s_trace s_thrown s_status s_lane s_many s_item s_isle res.1 s_then s_was s_acts s_tape s_taped res.2.1 res.2.2.1 res.2.2.2.1 res.2.2.2.2.1 res.2.2.2.2.2.1 res.2.2.2.2.2.2 s_latest s_isKept s_kept s_trace s_traced)) sz) 0 0 (va_A ((W_M cI cZ q_s q_s_lane q_s_many q_s_item q_s_isle q_s_fresh q_s_then q_s_was q_s_tape q_s_isKept q_s_kept q_s_trace s_thrown s_status s_lane s_many s_item s_isle s_fresh s_then s_was s_acts s_tape s_taped s_cursor s_start s_token s_value s_fault s_faultAt s_latest s_isKept s_kept s_trace s_traced)) sz) := by
  refine Met.ofW (cc := cX9_readBidder) (maxL := 5) (ret := none) (by decide) rfl ?_
  intro p e s m args below meth c s₁ B hml hv
  obtain ⟨rfl, hsz, hP, hK, hD0⟩ := hv
  have hx := B.exec
  have hb := B.bytes
  have hr := B.returns
  have hts := atoms_spec (ws := wsX9_readBidder) B.pre
  have hown : s.vm.findClass RX9 = some m.cls := findClass_of_methodNamed B.named
  have hlocks := B.notSynchronized
  subst hsz
  have hD := hD0.self (sz := s.heap.size)
  obtain ⟨A, hAe⟩ : ∃ A, A = va_A ((W_M cI cZ q_s q_s_lane q_s_many q_s_item q_s_isle q_s_fresh q_s_then q_s_was q_s_tape q_s_isKept q_s_kept q_s_trace s_thrown s_status s_lane s_many s_item s_isle s_fresh s_then s_was s_acts s_tape s_taped s_cursor s_start s_token s_value s_fault s_faultAt s_latest s_isKept s_kept s_trace s_traced)) s.heap.size := ⟨_, rfl⟩
  rw [← hAe] at hD
  have hA : ∀ q : Nat, s.heap.size ≤ q → A q := fun q h => by rw [hAe]; exact Or.inr h
  have hS : va_S A s.heap s.heap [] := va_S.rf
  have hl := lv_entry ([.ref q_s]) (n := 5) (Nat.le_of_ble_eq_true rfl)
  rw [lg_entry_eq]
  generalize (lg_sl ([.ref q_s]) ++ List.replicate (5 - (lg_sl ([.ref q_s])).length) Slot.unset).toArray = ls at hl ⊢
  have hl : lv_has ls 5 [(0, .ref q_s)] := hl
  obtain ⟨QQ, hQQ⟩ : ∃ Q, Q = MQ below (mtQv (dC, dI) (tyZ cI cZ) ((W_M cI cZ q_s q_s_lane q_s_many q_s_item q_s_isle q_s_fresh q_s_then q_s_was q_s_tape q_s_isKept q_s_kept q_s_trace s_thrown s_status s_lane s_many s_item s_isle s_fresh s_then s_was s_acts s_tape s_taped s_cursor s_start s_token s_value s_fault s_faultAt s_latest s_isKept s_kept s_trace s_traced)) ((W_M cI cZ q_s q_s_lane q_s_many q_s_item q_s_isle q_s_fresh q_s_then q_s_was q_s_tape q_s_isKept q_s_kept q_s_trace s_thrown s_status s_lane s_many s_item s_isle res.1 s_then s_was s_acts s_tape s_taped res.2.1 res.2.2.1 res.2.2.2.1 res.2.2.2.2.1 res.2.2.2.2.2.1 res.2.2.2.2.2.2 s_latest s_isKept s_kept s_trace s_traced)) s.heap.size) ([.ref q_s] : List Value).toArray s 0 0 (va_A ((W_M cI cZ q_s q_s_lane q_s_many q_s_item q_s_isle q_s_fresh q_s_then q_s_was q_s_tape q_s_isKept q_s_kept q_s_trace s_thrown s_status s_lane s_many s_item s_isle s_fresh s_then s_was s_acts s_tape s_taped s_cursor s_start s_token s_value s_fault s_faultAt s_latest s_isKept s_kept s_trace s_traced)) s.heap.size) := ⟨_, rfl⟩
  rw [← hQQ]
  have w_0 := hts (Cond.fieldLink RX9 88 "TideInchesModel" "value" "I") (List.mem_of_getElem? (i := 1) rfl)
  have w_1 := (fun w hw => List.mem_cons_of_mem _ (List.mem_append_right _ hw) : ∀ w ∈ wsX90, w ∈ wsX9_readBidder)
  have w_2 := hts (Cond.fieldLink RX9 22 "TideInchesModel" "fresh" "[I") (List.mem_of_getElem? (i := 2) rfl)
  have w_3 := hts (Cond.fieldLink RX9 75 "TideInchesModel" "fault" "I") (List.mem_of_getElem? (i := 3) rfl)
  have h := hf
  unfold fX9_readBidder at h
  refine lv_aload_n hx hb dX9_readBidder_0 rfl (lv_at hl 0 rfl) ?_
  refine va_get (D := (dC, dI)) (ci := 7) (v := .int s_value) (C := RX9) (T := TX9) (N := 23) hx hb hts w_1 hown hK hP 0 rfl rfl 15 (by decide) w_0 (fun _ h9 => h9) rfl dX9_readBidder_1 ?_
  obtain ⟨r_1, hc_1, h⟩ := bd1_of h
  refine cl_pS (As := [.int s_value]) (rest := []) ⟨hx, hb, hml, hown, hts⟩ (m_X9_kindBy l s_value (r_1) hc_1) (va_cwS 1 hts gX9_readBidder_X9_kindBy rfl rfl rfl ddX9_kindBy ⟨Nat.le_of_ble_eq_true rfl, Nat.le_of_ble_eq_true rfl⟩) rfl rfl hl.1 (Nat.le_of_ble_eq_true rfl) ⟨Nat.zero_le _, Nat.zero_le _⟩ dX9_readBidder_4 ?_
  refine lv_istore_n (lv' := [(1, .int r_1), (0, .ref q_s)]) hx hb dX9_readBidder_7 rfl hl (by decide) rfl (fun ls hl => ?_)
  refine lv_aload_n hx hb dX9_readBidder_8 rfl (lv_at hl 1 rfl) ?_
  refine va_get (D := (dC, dI)) (ci := 7) (v := .ref q_s_fresh) (C := RX9) (T := TX9) (N := 23) hx hb hts w_1 hown hK hP 0 rfl rfl 6 (by decide) w_2 (fun _ h9 => h9) rfl dX9_readBidder_9 ?_
  refine lv_iconst (v := 4) hx hb dX9_readBidder_12 (by decide) ?_
  refine va_iald hx hb hK hP 5 0 rfl rfl (i := 4) (show ¬ ((4 : Int32) < 0 ∨ 51 ≤ (4 : Int32).toNatClampNeg) by decide +kernel) dX9_readBidder_13 ?_
  refine lv_iconst (v := 5) hx hb dX9_readBidder_14 (by decide) ?_
  have KJ23 : ∀ (s_fault_j23 : Int32) (s_faultAt_j23 : Int32) (H : Heap) (locs : List Loc) (ls : Array Slot), va_P (dC, dI) vwCl ((W_M cI cZ q_s q_s_lane q_s_many q_s_item q_s_isle q_s_fresh q_s_then q_s_was q_s_tape q_s_isKept q_s_kept q_s_trace s_thrown s_status s_lane s_many s_item s_isle s_fresh s_then s_was s_acts s_tape s_taped s_cursor s_start s_token s_value s_fault_j23 s_faultAt_j23 s_latest s_isKept s_kept s_trace s_traced)) H → va_D A ((W_M cI cZ q_s q_s_lane q_s_many q_s_item q_s_isle q_s_fresh q_s_then q_s_was q_s_tape q_s_isKept q_s_kept q_s_trace s_thrown s_status s_lane s_many s_item s_isle s_fresh s_then s_was s_acts s_tape s_taped s_cursor s_start s_token s_value s_fault_j23 s_faultAt_j23 s_latest s_isKept s_kept s_trace s_traced)) → va_S A s.heap H locs → lv_has ls 5 [(0, .ref q_s), (1, .int r_1)] → fX9_readBidder_J23 s_fresh s_tape s_taped s_cursor s_start s_token s_value r_1 s_fault_j23 s_faultAt_j23 = some res → W p l e (headSpec wsX9_readBidder rmX9_readBidder).room s m ([.ref q_s] : List Value).toArray below meth c H locs 0 0 QQ (F0 m 23 ls []) := by
    intro s_fault_j23 s_faultAt_j23 H locs ls hP hD hS hl h
    unfold fX9_readBidder_J23 at h
    refine lv_aload_n hx hb dX9_readBidder_23 rfl (lv_at hl 0 rfl) ?_
    refine lv_iconst (v := 1) hx hb dX9_readBidder_24 (by decide) ?_
    obtain ⟨s_cursor_2, s_start_2, s_token_2, s_value_2, s_fault_2, s_faultAt_2, hc_2, h⟩ := bd6_of h
    refine cl_mVv (As := [.int 1]) (rest := []) (ws' := (W_M cI cZ q_s q_s_lane q_s_many q_s_item q_s_isle q_s_fresh q_s_then q_s_was q_s_tape q_s_isKept q_s_kept q_s_trace s_thrown s_status s_lane s_many s_item s_isle s_fresh s_then s_was s_acts s_tape s_taped s_cursor_2 s_start_2 s_token_2 s_value_2 s_fault_2 s_faultAt_2 s_latest s_isKept s_kept s_trace s_traced)) (wr := []) ⟨hx, hb, hml, hown, hts⟩ (m_X9_must l dC dI cI cZ q_s q_s_lane q_s_many q_s_item q_s_isle q_s_fresh q_s_then q_s_was q_s_tape q_s_isKept q_s_kept q_s_trace s_thrown s_status s_lane s_many s_item s_isle s_fresh s_then s_was s_acts s_tape s_taped s_cursor s_start s_token s_value s_fault_j23 s_faultAt_j23 s_latest s_isKept s_kept s_trace s_traced 1 _ (s_cursor_2, s_start_2, s_token_2, s_value_2, s_fault_2, s_faultAt_2) hc_2) (cwV 1 hts gX9_readBidder_X9_must rfl rfl rfl ⟨rfl, ddX9_must⟩ ⟨Nat.le_of_ble_eq_true rfl, Nat.le_of_ble_eq_true rfl⟩) hK hP hD hS hA [0, 1, 2, 3, 4, 5, 6, 7, 8, 9, 10, 11] [] rfl rfl rfl rfl (by decide) [0, 1, 2, 3, 4, 5, 6, 7, 8, 9, 10, 11] rfl rfl rfl rfl rfl rfl rfl hl.1 (Nat.le_of_ble_eq_true rfl) ⟨Nat.zero_le _, Nat.zero_le _⟩ dX9_readBidder_25 (fun H locs hP hD hS => ?_)
    refine lv_aload_n hx hb dX9_readBidder_28 rfl (lv_at hl 0 rfl) ?_
    refine lv_iconst (v := 0) hx hb dX9_readBidder_29 (by decide) ?_
    refine lv_bipush (v := 99) hx hb dX9_readBidder_30 (by decide) ?_
    obtain ⟨r_3, s_cursor_3, s_start_3, s_token_3, s_value_3, s_fault_3, s_faultAt_3, hc_3, h⟩ := bd7_of h
    refine cl_mVi (As := [.int 0, .int 99]) (rest := []) (ws' := (W_M cI cZ q_s q_s_lane q_s_many q_s_item q_s_isle q_s_fresh q_s_then q_s_was q_s_tape q_s_isKept q_s_kept q_s_trace s_thrown s_status s_lane s_many s_item s_isle s_fresh s_then s_was s_acts s_tape s_taped s_cursor_3 s_start_3 s_token_3 s_value_3 s_fault_3 s_faultAt_3 s_latest s_isKept s_kept s_trace s_traced)) (wr := []) ⟨hx, hb, hml, hown, hts⟩ (m_X9_number l dC dI cI cZ q_s q_s_lane q_s_many q_s_item q_s_isle q_s_fresh q_s_then q_s_was q_s_tape q_s_isKept q_s_kept q_s_trace s_thrown s_status s_lane s_many s_item s_isle s_fresh s_then s_was s_acts s_tape s_taped s_cursor_2 s_start_2 s_token_2 s_value_2 s_fault_2 s_faultAt_2 s_latest s_isKept s_kept s_trace s_traced 0 99 _ (r_3, s_cursor_3, s_start_3, s_token_3, s_value_3, s_fault_3, s_faultAt_3) hc_3) (cwV 2 hts gX9_readBidder_X9_number rfl rfl rfl ⟨rfl, ddX9_number⟩ ⟨Nat.le_of_ble_eq_true rfl, Nat.le_of_ble_eq_true rfl⟩) hK hP hD hS hA [0, 1, 2, 3, 4, 5, 6, 7, 8, 9, 10, 11] [] rfl rfl rfl rfl (by decide) [0, 1, 2, 3, 4, 5, 6, 7, 8, 9, 10, 11] rfl rfl rfl rfl rfl rfl rfl hl.1 (Nat.le_of_ble_eq_true rfl) ⟨Nat.zero_le _, Nat.zero_le _⟩ dX9_readBidder_32 (fun H locs hP hD hS => ?_)
    refine lv_istore_n (lv' := [(2, .int r_3), (0, .ref q_s), (1, .int r_1)]) hx hb dX9_readBidder_35 rfl hl (by decide) rfl (fun ls hl => ?_)
    refine lv_aload_n hx hb dX9_readBidder_36 rfl (lv_at hl 1 rfl) ?_
    refine lv_bipush (v := 44) hx hb dX9_readBidder_37 (by decide) ?_
    obtain ⟨s_cursor_4, s_start_4, s_token_4, s_value_4, s_fault_4, s_faultAt_4, hc_4, h⟩ := bd6_of h
    refine cl_mVv (As := [.int 44]) (rest := []) (ws' := (W_M cI cZ q_s q_s_lane q_s_many q_s_item q_s_isle q_s_fresh q_s_then q_s_was q_s_tape q_s_isKept q_s_kept q_s_trace s_thrown s_status s_lane s_many s_item s_isle s_fresh s_then s_was s_acts s_tape s_taped s_cursor_4 s_start_4 s_token_4 s_value_4 s_fault_4 s_faultAt_4 s_latest s_isKept s_kept s_trace s_traced)) (wr := []) ⟨hx, hb, hml, hown, hts⟩ (m_X9_mustSign l dC dI cI cZ q_s q_s_lane q_s_many q_s_item q_s_isle q_s_fresh q_s_then q_s_was q_s_tape q_s_isKept q_s_kept q_s_trace s_thrown s_status s_lane s_many s_item s_isle s_fresh s_then s_was s_acts s_tape s_taped s_cursor_3 s_start_3 s_token_3 s_value_3 s_fault_3 s_faultAt_3 s_latest s_isKept s_kept s_trace s_traced 44 _ (s_cursor_4, s_start_4, s_token_4, s_value_4, s_fault_4, s_faultAt_4) hc_4) (cwV 1 hts gX9_readBidder_X9_mustSign rfl rfl rfl ⟨rfl, ddX9_mustSign⟩ ⟨Nat.le_of_ble_eq_true rfl, Nat.le_of_ble_eq_true rfl⟩) hK hP hD hS hA [0, 1, 2, 3, 4, 5, 6, 7, 8, 9, 10, 11] [] rfl rfl rfl rfl (by decide) [0, 1, 2, 3, 4, 5, 6, 7, 8, 9, 10, 11] rfl rfl rfl rfl rfl rfl rfl hl.1 (Nat.le_of_ble_eq_true rfl) ⟨Nat.zero_le _, Nat.zero_le _⟩ dX9_readBidder_39 (fun H locs hP hD hS => ?_)
    refine lv_aload_n hx hb dX9_readBidder_42 rfl (lv_at hl 1 rfl) ?_
    refine lv_iconst (v := 0) hx hb dX9_readBidder_43 (by decide) ?_
    refine lv_bipush (v := 14) hx hb dX9_readBidder_44 (by decide) ?_
    obtain ⟨r_5, s_cursor_5, s_start_5, s_token_5, s_value_5, s_fault_5, s_faultAt_5, hc_5, h⟩ := bd7_of h
    refine cl_mVi (As := [.int 0, .int 14]) (rest := []) (ws' := (W_M cI cZ q_s q_s_lane q_s_many q_s_item q_s_isle q_s_fresh q_s_then q_s_was q_s_tape q_s_isKept q_s_kept q_s_trace s_thrown s_status s_lane s_many s_item s_isle s_fresh s_then s_was s_acts s_tape s_taped s_cursor_5 s_start_5 s_token_5 s_value_5 s_fault_5 s_faultAt_5 s_latest s_isKept s_kept s_trace s_traced)) (wr := []) ⟨hx, hb, hml, hown, hts⟩ (m_X9_number l dC dI cI cZ q_s q_s_lane q_s_many q_s_item q_s_isle q_s_fresh q_s_then q_s_was q_s_tape q_s_isKept q_s_kept q_s_trace s_thrown s_status s_lane s_many s_item s_isle s_fresh s_then s_was s_acts s_tape s_taped s_cursor_4 s_start_4 s_token_4 s_value_4 s_fault_4 s_faultAt_4 s_latest s_isKept s_kept s_trace s_traced 0 14 _ (r_5, s_cursor_5, s_start_5, s_token_5, s_value_5, s_fault_5, s_faultAt_5) hc_5) (cwV 2 hts gX9_readBidder_X9_number rfl rfl rfl ⟨rfl, ddX9_number⟩ ⟨Nat.le_of_ble_eq_true rfl, Nat.le_of_ble_eq_true rfl⟩) hK hP hD hS hA [0, 1, 2, 3, 4, 5, 6, 7, 8, 9, 10, 11] [] rfl rfl rfl rfl (by decide) [0, 1, 2, 3, 4, 5, 6, 7, 8, 9, 10, 11] rfl rfl rfl rfl rfl rfl rfl hl.1 (Nat.le_of_ble_eq_true rfl) ⟨Nat.zero_le _, Nat.zero_le _⟩ dX9_readBidder_46 (fun H locs hP hD hS => ?_)
    refine lv_istore_n (lv' := [(3, .int r_5), (2, .int r_3), (0, .ref q_s), (1, .int r_1)]) hx hb dX9_readBidder_49 rfl hl (by decide) rfl (fun ls hl => ?_)
    refine lv_aload_n hx hb dX9_readBidder_50 rfl (lv_at hl 2 rfl) ?_
    refine lv_bipush (v := 59) hx hb dX9_readBidder_51 (by decide) ?_
    obtain ⟨s_cursor_6, s_start_6, s_token_6, s_value_6, s_fault_6, s_faultAt_6, hc_6, h⟩ := bd6_of h
    refine cl_mVv (As := [.int 59]) (rest := []) (ws' := (W_M cI cZ q_s q_s_lane q_s_many q_s_item q_s_isle q_s_fresh q_s_then q_s_was q_s_tape q_s_isKept q_s_kept q_s_trace s_thrown s_status s_lane s_many s_item s_isle s_fresh s_then s_was s_acts s_tape s_taped s_cursor_6 s_start_6 s_token_6 s_value_6 s_fault_6 s_faultAt_6 s_latest s_isKept s_kept s_trace s_traced)) (wr := []) ⟨hx, hb, hml, hown, hts⟩ (m_X9_mustSign l dC dI cI cZ q_s q_s_lane q_s_many q_s_item q_s_isle q_s_fresh q_s_then q_s_was q_s_tape q_s_isKept q_s_kept q_s_trace s_thrown s_status s_lane s_many s_item s_isle s_fresh s_then s_was s_acts s_tape s_taped s_cursor_5 s_start_5 s_token_5 s_value_5 s_fault_5 s_faultAt_5 s_latest s_isKept s_kept s_trace s_traced 59 _ (s_cursor_6, s_start_6, s_token_6, s_value_6, s_fault_6, s_faultAt_6) hc_6) (cwV 1 hts gX9_readBidder_X9_mustSign rfl rfl rfl ⟨rfl, ddX9_mustSign⟩ ⟨Nat.le_of_ble_eq_true rfl, Nat.le_of_ble_eq_true rfl⟩) hK hP hD hS hA [0, 1, 2, 3, 4, 5, 6, 7, 8, 9, 10, 11] [] rfl rfl rfl rfl (by decide) [0, 1, 2, 3, 4, 5, 6, 7, 8, 9, 10, 11] rfl rfl rfl rfl rfl rfl rfl hl.1 (Nat.le_of_ble_eq_true rfl) ⟨Nat.zero_le _, Nat.zero_le _⟩ dX9_readBidder_53 (fun H locs hP hD hS => ?_)
    refine lv_aload_n hx hb dX9_readBidder_56 rfl (lv_at hl 2 rfl) ?_
    refine va_get (D := (dC, dI)) (ci := 7) (v := .int s_fault_6) (C := RX9) (T := TX9) (N := 23) hx hb hts w_1 hown hK hP 0 rfl rfl 16 (by decide) w_3 (fun _ h9 => h9) rfl dX9_readBidder_57 ?_
    refine lv_if_ne (tgt := 114) hx hb dX9_readBidder_60 (by decide) (fun c_7 => ?_) (fun c_7 => ?_)
    · have h := (if_neg c_7).symm.trans h
      have h := Option.some.inj h
      subst h
      rw [hQQ]
      subst hAe
      exact W.vret hx hb hr (fun t ht hW => ⟨⟨(), rfl, trivial, by rw [ht]; exact hP, va_K.moved hW.alike hK, hD⟩, hS.F ht⟩) hS.2.2 dX9_readBidder_114
    · have h := (if_pos c_7).symm.trans h
      refine lv_bipush (v := 36) hx hb dX9_readBidder_63 (by decide) ?_
      refine lv_iconst (v := 3) hx hb dX9_readBidder_65 (by decide) ?_
      refine lv_aload_n hx hb dX9_readBidder_66 rfl (lv_at hl 2 rfl) ?_
      refine va_get (D := (dC, dI)) (ci := 7) (v := .ref q_s_fresh) (C := RX9) (T := TX9) (N := 23) hx hb hts w_1 hown hK hP 0 rfl rfl 6 (by decide) w_2 (fun _ h9 => h9) rfl dX9_readBidder_67 ?_
      refine lv_iconst (v := 4) hx hb dX9_readBidder_70 (by decide) ?_
      refine va_iald hx hb hK hP 5 0 rfl rfl (i := 4) (show ¬ ((4 : Int32) < 0 ∨ 51 ≤ (4 : Int32).toNatClampNeg) by decide +kernel) dX9_readBidder_71 ?_
      refine lv_imul hx hb dX9_readBidder_72 ?_
      refine lv_iadd hx hb dX9_readBidder_73 ?_
      refine lv_istore (lv' := [(4, .int (36 + (3 * (s_fresh (4 : Int32).toNatClampNeg)))), (3, .int r_5), (2, .int r_3), (0, .ref q_s), (1, .int r_1)]) hx hb dX9_readBidder_74 hl (by decide) rfl (fun ls hl => ?_)
      refine lv_aload_n hx hb dX9_readBidder_76 rfl (lv_at hl 3 rfl) ?_
      refine va_get (D := (dC, dI)) (ci := 7) (v := .ref q_s_fresh) (C := RX9) (T := TX9) (N := 23) hx hb hts w_1 hown hK hP 0 rfl rfl 6 (by decide) w_2 (fun _ h9 => h9) rfl dX9_readBidder_77 ?_
      refine lv_iload hx hb dX9_readBidder_80 (lv_at hl 0 rfl) ?_
      refine lv_iload_n hx hb dX9_readBidder_82 rfl (lv_at hl 4 rfl) ?_
      obtain ⟨b_8, h⟩ := chk_of h
      refine va_iast hx hb hK hP hD hS 5 0 rfl rfl (i := (36 + (3 * (s_fresh (4 : Int32).toNatClampNeg)))) (x := r_1) b_8 dX9_readBidder_83 (fun H locs hP hD hS => ?_)
      have hP : va_P (dC, dI) vwCl ((W_M cI cZ q_s q_s_lane q_s_many q_s_item q_s_isle q_s_fresh q_s_then q_s_was q_s_tape q_s_isKept q_s_kept q_s_trace s_thrown s_status s_lane s_many s_item s_isle (upd s_fresh (36 + (3 * (s_fresh (4 : Int32).toNatClampNeg))).toNatClampNeg r_1) s_then s_was s_acts s_tape s_taped s_cursor_6 s_start_6 s_token_6 s_value_6 s_fault_6 s_faultAt_6 s_latest s_isKept s_kept s_trace s_traced)) H := hP
      have hD : va_D A ((W_M cI cZ q_s q_s_lane q_s_many q_s_item q_s_isle q_s_fresh q_s_then q_s_was q_s_tape q_s_isKept q_s_kept q_s_trace s_thrown s_status s_lane s_many s_item s_isle (upd s_fresh (36 + (3 * (s_fresh (4 : Int32).toNatClampNeg))).toNatClampNeg r_1) s_then s_was s_acts s_tape s_taped s_cursor_6 s_start_6 s_token_6 s_value_6 s_fault_6 s_faultAt_6 s_latest s_isKept s_kept s_trace s_traced)) := hD
      refine lv_aload_n hx hb dX9_readBidder_84 rfl (lv_at hl 3 rfl) ?_
      refine va_get (D := (dC, dI)) (ci := 7) (v := .ref q_s_fresh) (C := RX9) (T := TX9) (N := 23) hx hb hts w_1 hown hK hP 0 rfl rfl 6 (by decide) w_2 (fun _ h9 => h9) rfl dX9_readBidder_85 ?_
      refine lv_iload hx hb dX9_readBidder_88 (lv_at hl 0 rfl) ?_
      refine lv_iconst (v := 1) hx hb dX9_readBidder_90 (by decide) ?_
      refine lv_iadd hx hb dX9_readBidder_91 ?_
      refine lv_iload_n hx hb dX9_readBidder_92 rfl (lv_at hl 2 rfl) ?_
      obtain ⟨b_9, h⟩ := chk_of h
      refine va_iast hx hb hK hP hD hS 5 0 rfl rfl (i := ((36 + (3 * (s_fresh (4 : Int32).toNatClampNeg))) + 1)) (x := r_3) b_9 dX9_readBidder_93 (fun H locs hP hD hS => ?_)
      have hP : va_P (dC, dI) vwCl ((W_M cI cZ q_s q_s_lane q_s_many q_s_item q_s_isle q_s_fresh q_s_then q_s_was q_s_tape q_s_isKept q_s_kept q_s_trace s_thrown s_status s_lane s_many s_item s_isle (upd (upd s_fresh (36 + (3 * (s_fresh (4 : Int32).toNatClampNeg))).toNatClampNeg r_1) ((36 + (3 * (s_fresh (4 : Int32).toNatClampNeg))) + 1).toNatClampNeg r_3) s_then s_was s_acts s_tape s_taped s_cursor_6 s_start_6 s_token_6 s_value_6 s_fault_6 s_faultAt_6 s_latest s_isKept s_kept s_trace s_traced)) H := hP
      have hD : va_D A ((W_M cI cZ q_s q_s_lane q_s_many q_s_item q_s_isle q_s_fresh q_s_then q_s_was q_s_tape q_s_isKept q_s_kept q_s_trace s_thrown s_status s_lane s_many s_item s_isle (upd (upd s_fresh (36 + (3 * (s_fresh (4 : Int32).toNatClampNeg))).toNatClampNeg r_1) ((36 + (3 * (s_fresh (4 : Int32).toNatClampNeg))) + 1).toNatClampNeg r_3) s_then s_was s_acts s_tape s_taped s_cursor_6 s_start_6 s_token_6 s_value_6 s_fault_6 s_faultAt_6 s_latest s_isKept s_kept s_trace s_traced)) := hD
      refine lv_aload_n hx hb dX9_readBidder_94 rfl (lv_at hl 3 rfl) ?_
      refine va_get (D := (dC, dI)) (ci := 7) (v := .ref q_s_fresh) (C := RX9) (T := TX9) (N := 23) hx hb hts w_1 hown hK hP 0 rfl rfl 6 (by decide) w_2 (fun _ h9 => h9) rfl dX9_readBidder_95 ?_
      refine lv_iload hx hb dX9_readBidder_98 (lv_at hl 0 rfl) ?_
      refine lv_iconst (v := 2) hx hb dX9_readBidder_100 (by decide) ?_
      refine lv_iadd hx hb dX9_readBidder_101 ?_
      refine lv_iload_n hx hb dX9_readBidder_102 rfl (lv_at hl 1 rfl) ?_
      obtain ⟨b_10, h⟩ := chk_of h
      refine va_iast hx hb hK hP hD hS 5 0 rfl rfl (i := ((36 + (3 * (s_fresh (4 : Int32).toNatClampNeg))) + 2)) (x := r_5) b_10 dX9_readBidder_103 (fun H locs hP hD hS => ?_)
      have hP : va_P (dC, dI) vwCl ((W_M cI cZ q_s q_s_lane q_s_many q_s_item q_s_isle q_s_fresh q_s_then q_s_was q_s_tape q_s_isKept q_s_kept q_s_trace s_thrown s_status s_lane s_many s_item s_isle (upd (upd (upd s_fresh (36 + (3 * (s_fresh (4 : Int32).toNatClampNeg))).toNatClampNeg r_1) ((36 + (3 * (s_fresh (4 : Int32).toNatClampNeg))) + 1).toNatClampNeg r_3) ((36 + (3 * (s_fresh (4 : Int32).toNatClampNeg))) + 2).toNatClampNeg r_5) s_then s_was s_acts s_tape s_taped s_cursor_6 s_start_6 s_token_6 s_value_6 s_fault_6 s_faultAt_6 s_latest s_isKept s_kept s_trace s_traced)) H := hP
      have hD : va_D A ((W_M cI cZ q_s q_s_lane q_s_many q_s_item q_s_isle q_s_fresh q_s_then q_s_was q_s_tape q_s_isKept q_s_kept q_s_trace s_thrown s_status s_lane s_many s_item s_isle (upd (upd (upd s_fresh (36 + (3 * (s_fresh (4 : Int32).toNatClampNeg))).toNatClampNeg r_1) ((36 + (3 * (s_fresh (4 : Int32).toNatClampNeg))) + 1).toNatClampNeg r_3) ((36 + (3 * (s_fresh (4 : Int32).toNatClampNeg))) + 2).toNatClampNeg r_5) s_then s_was s_acts s_tape s_taped s_cursor_6 s_start_6 s_token_6 s_value_6 s_fault_6 s_faultAt_6 s_latest s_isKept s_kept s_trace s_traced)) := hD
      refine lv_aload_n hx hb dX9_readBidder_104 rfl (lv_at hl 3 rfl) ?_
      refine va_get (D := (dC, dI)) (ci := 7) (v := .ref q_s_fresh) (C := RX9) (T := TX9) (N := 23) hx hb hts w_1 hown hK hP 0 rfl rfl 6 (by decide) w_2 (fun _ h9 => h9) rfl dX9_readBidder_105 ?_
      refine lv_iconst (v := 4) hx hb dX9_readBidder_108 (by decide) ?_
      refine lv_dup2_11 hx hb dX9_readBidder_109 rfl rfl ?_
      refine va_iald hx hb hK hP 5 0 rfl rfl (i := 4) (show ¬ ((4 : Int32) < 0 ∨ 51 ≤ (4 : Int32).toNatClampNeg) by decide +kernel) dX9_readBidder_110 ?_
      refine lv_iconst (v := 1) hx hb dX9_readBidder_111 (by decide) ?_
      refine lv_iadd hx hb dX9_readBidder_112 ?_
      refine va_iast hx hb hK hP hD hS 5 0 rfl rfl (i := 4) (x := (((upd (upd (upd s_fresh (36 + (3 * (s_fresh (4 : Int32).toNatClampNeg))).toNatClampNeg r_1) ((36 + (3 * (s_fresh (4 : Int32).toNatClampNeg))) + 1).toNatClampNeg r_3) ((36 + (3 * (s_fresh (4 : Int32).toNatClampNeg))) + 2).toNatClampNeg r_5) (4 : Int32).toNatClampNeg) + 1)) (show ¬ ((4 : Int32) < 0 ∨ 51 ≤ (4 : Int32).toNatClampNeg) by decide +kernel) dX9_readBidder_113 (fun H locs hP hD hS => ?_)
      have hP : va_P (dC, dI) vwCl ((W_M cI cZ q_s q_s_lane q_s_many q_s_item q_s_isle q_s_fresh q_s_then q_s_was q_s_tape q_s_isKept q_s_kept q_s_trace s_thrown s_status s_lane s_many s_item s_isle (upd (upd (upd (upd s_fresh (36 + (3 * (s_fresh (4 : Int32).toNatClampNeg))).toNatClampNeg r_1) ((36 + (3 * (s_fresh (4 : Int32).toNatClampNeg))) + 1).toNatClampNeg r_3) ((36 + (3 * (s_fresh (4 : Int32).toNatClampNeg))) + 2).toNatClampNeg r_5) (4 : Int32).toNatClampNeg (((upd (upd (upd s_fresh (36 + (3 * (s_fresh (4 : Int32).toNatClampNeg))).toNatClampNeg r_1) ((36 + (3 * (s_fresh (4 : Int32).toNatClampNeg))) + 1).toNatClampNeg r_3) ((36 + (3 * (s_fresh (4 : Int32).toNatClampNeg))) + 2).toNatClampNeg r_5) (4 : Int32).toNatClampNeg) + 1)) s_then s_was s_acts s_tape s_taped s_cursor_6 s_start_6 s_token_6 s_value_6 s_fault_6 s_faultAt_6 s_latest s_isKept s_kept s_trace s_traced)) H := hP
      have hD : va_D A ((W_M cI cZ q_s q_s_lane q_s_many q_s_item q_s_isle q_s_fresh q_s_then q_s_was q_s_tape q_s_isKept q_s_kept q_s_trace s_thrown s_status s_lane s_many s_item s_isle (upd (upd (upd (upd s_fresh (36 + (3 * (s_fresh (4 : Int32).toNatClampNeg))).toNatClampNeg r_1) ((36 + (3 * (s_fresh (4 : Int32).toNatClampNeg))) + 1).toNatClampNeg r_3) ((36 + (3 * (s_fresh (4 : Int32).toNatClampNeg))) + 2).toNatClampNeg r_5) (4 : Int32).toNatClampNeg (((upd (upd (upd s_fresh (36 + (3 * (s_fresh (4 : Int32).toNatClampNeg))).toNatClampNeg r_1) ((36 + (3 * (s_fresh (4 : Int32).toNatClampNeg))) + 1).toNatClampNeg r_3) ((36 + (3 * (s_fresh (4 : Int32).toNatClampNeg))) + 2).toNatClampNeg r_5) (4 : Int32).toNatClampNeg) + 1)) s_then s_was s_acts s_tape s_taped s_cursor_6 s_start_6 s_token_6 s_value_6 s_fault_6 s_faultAt_6 s_latest s_isKept s_kept s_trace s_traced)) := hD
      have h := Option.some.inj h
      subst h
      rw [hQQ]
      subst hAe
      exact W.vret hx hb hr (fun t ht hW => ⟨⟨(), rfl, trivial, by rw [ht]; exact hP, va_K.moved hW.alike hK, hD⟩, hS.F ht⟩) hS.2.2 dX9_readBidder_114
  refine lv_icmp_ne (tgt := 23) hx hb dX9_readBidder_15 (by decide) (fun c_11 => ?_) (fun c_11 => ?_)
  · have h := (if_neg c_11).symm.trans h
    exact KJ23 s_fault s_faultAt _ _ _ hP hD hS (lv_sub hl [1, 0] rfl) h
  · have h := (if_pos c_11).symm.trans h
    refine lv_aload_n hx hb dX9_readBidder_18 rfl (lv_at hl 1 rfl) ?_
    refine lv_iconst (v := 3) hx hb dX9_readBidder_19 (by decide) ?_
    obtain ⟨s_fault_12, s_faultAt_12, hc_12, h⟩ := bd2_of h
    refine cl_mVv (As := [.int 3]) (rest := []) (ws' := (W_M cI cZ q_s q_s_lane q_s_many q_s_item q_s_isle q_s_fresh q_s_then q_s_was q_s_tape q_s_isKept q_s_kept q_s_trace s_thrown s_status s_lane s_many s_item s_isle s_fresh s_then s_was s_acts s_tape s_taped s_cursor s_start s_token s_value s_fault_12 s_faultAt_12 s_latest s_isKept s_kept s_trace s_traced)) (wr := []) ⟨hx, hb, hml, hown, hts⟩ (m_X9_bad l dC dI cI cZ q_s q_s_lane q_s_many q_s_item q_s_isle q_s_fresh q_s_then q_s_was q_s_tape q_s_isKept q_s_kept q_s_trace s_thrown s_status s_lane s_many s_item s_isle s_fresh s_then s_was s_acts s_tape s_taped s_cursor s_start s_token s_value s_fault s_faultAt s_latest s_isKept s_kept s_trace s_traced 3 _ (s_fault_12, s_faultAt_12) hc_12) (cwV 1 hts gX9_readBidder_X9_bad rfl rfl rfl ⟨rfl, ddX9_bad⟩ ⟨Nat.le_of_ble_eq_true rfl, Nat.le_of_ble_eq_true rfl⟩) hK hP hD hS hA [0, 1, 2, 3, 4, 5, 6, 7, 8, 9, 10, 11] [] rfl rfl rfl rfl (by decide) [0, 1, 2, 3, 4, 5, 6, 7, 8, 9, 10, 11] rfl rfl rfl rfl rfl rfl rfl hl.1 (Nat.le_of_ble_eq_true rfl) ⟨Nat.zero_le _, Nat.zero_le _⟩ dX9_readBidder_20 (fun H locs hP hD hS => ?_)
    exact KJ23 s_fault_12 s_faultAt_12 _ _ _ hP hD hS (lv_sub hl [1, 0] rfl) h
def fX9_isle_L11 (k11_30 : (Nat → Int32) → Option (Int32 × Int32 × (Nat → Int32) × (Nat → Int32) × Int32 × Int32 × Int32 × Int32 × Int32 × Int32 × Int32 × Int32 × Int32)) : Nat → Int32 → (Nat → Int32) → Option (Int32 × Int32 × (Nat → Int32) × (Nat → Int32) × Int32 × Int32 × Int32 × Int32 × Int32 × Int32 × Int32 × Int32 × Int32)
  | 0, _, _ => none
  | n + 1, v1_h11, s_fresh_h11 => (if 51 ≤ v1_h11 then (k11_30 s_fresh_h11) else chk (¬ (v1_h11 < 0 ∨ 51 ≤ v1_h11.toNatClampNeg)) (((fX9_isle_L11 k11_30 n) (v1_h11 + 1) (upd s_fresh_h11 v1_h11.toNatClampNeg 0))))
def fX9_isle_L121 (s_tape : (Nat → Int32)) (s_taped : Int32) (k121_190 : (Nat → Int32) → Int32 → Int32 → Int32 → Int32 → Int32 → Int32 → Option (Int32 × Int32 × (Nat → Int32) × (Nat → Int32) × Int32 × Int32 × Int32 × Int32 × Int32 × Int32 × Int32 × Int32 × Int32)) : Nat → Int32 → (Nat → Int32) → Int32 → Int32 → Int32 → Int32 → Int32 → Int32 → Option (Int32 × Int32 × (Nat → Int32) × (Nat → Int32) × Int32 × Int32 × Int32 × Int32 × Int32 × Int32 × Int32 × Int32 × Int32)
  | 0, _, _, _, _, _, _, _, _ => none
  | n + 1, v1_h121, s_fresh_h121, s_cursor_h121, s_start_h121, s_token_h121, s_value_h121, s_fault_h121, s_faultAt_h121 => (if 15 ≤ v1_h121 then (k121_190 s_fresh_h121 s_cursor_h121 s_start_h121 s_token_h121 s_value_h121 s_fault_h121 s_faultAt_h121) else (if s_fault_h121 = 0 then chk (¬ ((6 + v1_h121) < 0 ∨ 51 ≤ (6 + v1_h121).toNatClampNeg)) ((if s_token_h121 = 2 then bd1 (fX9_in s_value_h121.toInt64 97 106) (fun r_19 => (if r_19 = 0 then bd6 (fX9_must s_tape s_taped s_cursor_h121 s_start_h121 s_token_h121 s_value_h121 s_fault_h121 s_faultAt_h121 0) (fun s_cursor_21 s_start_21 s_token_21 s_value_21 s_fault_21 s_faultAt_21 => ((fX9_isle_L121 s_tape s_taped k121_190 n) (v1_h121 + 1) (upd s_fresh_h121 (6 + v1_h121).toNatClampNeg (s_value_h121 - 97)) s_cursor_21 s_start_21 s_token_21 s_value_21 s_fault_21 s_faultAt_21)) else bd6 (fX9_must s_tape s_taped s_cursor_h121 s_start_h121 s_token_h121 s_value_h121 s_fault_h121 s_faultAt_h121 1) (fun s_cursor_22 s_start_22 s_token_22 s_value_22 s_fault_22 s_faultAt_22 => ((fX9_isle_L121 s_tape s_taped k121_190 n) (v1_h121 + 1) (upd s_fresh_h121 (6 + v1_h121).toNatClampNeg (s_value_h121 - 97)) s_cursor_22 s_start_22 s_token_22 s_value_22 s_fault_22 s_faultAt_22)))) else bd6 (fX9_must s_tape s_taped s_cursor_h121 s_start_h121 s_token_h121 s_value_h121 s_fault_h121 s_faultAt_h121 0) (fun s_cursor_18 s_start_18 s_token_18 s_value_18 s_fault_18 s_faultAt_18 => ((fX9_isle_L121 s_tape s_taped k121_190 n) (v1_h121 + 1) (upd s_fresh_h121 (6 + v1_h121).toNatClampNeg (s_value_h121 - 97)) s_cursor_18 s_start_18 s_token_18 s_value_18 s_fault_18 s_faultAt_18)))) else (k121_190 s_fresh_h121 s_cursor_h121 s_start_h121 s_token_h121 s_value_h121 s_fault_h121 s_faultAt_h121)))
def fX9_isle_L208 (s_tape : (Nat → Int32)) (s_taped : Int32) (k208_222 : (Nat → Int32) → Int32 → Int32 → Int32 → Int32 → Int32 → Int32 → Option (Int32 × Int32 × (Nat → Int32) × (Nat → Int32) × Int32 × Int32 × Int32 × Int32 × Int32 × Int32 × Int32 × Int32 × Int32)) : Nat → (Nat → Int32) → Int32 → Int32 → Int32 → Int32 → Int32 → Int32 → Option (Int32 × Int32 × (Nat → Int32) × (Nat → Int32) × Int32 × Int32 × Int32 × Int32 × Int32 × Int32 × Int32 × Int32 × Int32)
  | 0, _, _, _, _, _, _, _ => none
  | n + 1, s_fresh_h208, s_cursor_h208, s_start_h208, s_token_h208, s_value_h208, s_fault_h208, s_faultAt_h208 => bd1 (fX9_isSort s_token_h208 s_value_h208 s_fault_h208) (fun r_25 => (if r_25 = 0 then (k208_222 s_fresh_h208 s_cursor_h208 s_start_h208 s_token_h208 s_value_h208 s_fault_h208 s_faultAt_h208) else bd7 (fX9_readBidder s_fresh_h208 s_tape s_taped s_cursor_h208 s_start_h208 s_token_h208 s_value_h208 s_fault_h208 s_faultAt_h208) (fun s_fresh_27 s_cursor_27 s_start_27 s_token_27 s_value_27 s_fault_27 s_faultAt_27 => ((fX9_isle_L208 s_tape s_taped k208_222 n) s_fresh_27 s_cursor_27 s_start_27 s_token_27 s_value_27 s_fault_27 s_faultAt_27))))
def fX9_isle_L244 (s_fresh_e222 : (Nat → Int32)) (k244_268 : (Nat → Int32) → Option (Int32 × Int32 × (Nat → Int32) × (Nat → Int32) × Int32 × Int32 × Int32 × Int32 × Int32 × Int32 × Int32 × Int32 × Int32)) : Nat → Int32 → (Nat → Int32) → Option (Int32 × Int32 × (Nat → Int32) × (Nat → Int32) × Int32 × Int32 × Int32 × Int32 × Int32 × Int32 × Int32 × Int32 × Int32)
  | 0, _, _ => none
  | n + 1, v1_h244, s_isle_h244 => (if 51 ≤ v1_h244 then (k244_268 s_isle_h244) else chk (¬ (v1_h244 < 0 ∨ 51 ≤ v1_h244.toNatClampNeg)) (chk (¬ (v1_h244 < 0 ∨ 51 ≤ v1_h244.toNatClampNeg)) (((fX9_isle_L244 s_fresh_e222 k244_268 n) (v1_h244 + 1) (upd s_isle_h244 v1_h244.toNatClampNeg (s_fresh_e222 v1_h244.toNatClampNeg))))))
def fX9_isle_J208 (s_isle : (Nat → Int32)) (s_acts : Int32) (s_tape : (Nat → Int32)) (s_taped : Int32) (s_latest : Int32) (s_fresh_e190 : (Nat → Int32)) (s_cursor_23 : Int32) (s_start_23 : Int32) (s_token_23 : Int32) (s_value_23 : Int32) (s_fault_j208 : Int32) (s_faultAt_j208 : Int32) : Option (Int32 × Int32 × (Nat → Int32) × (Nat → Int32) × Int32 × Int32 × Int32 × Int32 × Int32 × Int32 × Int32 × Int32 × Int32) :=
  (fX9_isle_L208 s_tape s_taped (fun s_fresh_e222 s_cursor_e222 s_start_e222 s_token_e222 s_value_e222 s_fault_e222 s_faultAt_e222 => bd5 (fX9_failed s_start_e222 s_token_e222 s_fault_e222 s_faultAt_e222 s_latest) (fun r_28 s_taped_28 s_fault_28 s_faultAt_28 s_latest_28 => (if r_28 = 0 then (fX9_isle_L244 s_fresh_e222 (fun s_isle_e268 => some ((s_isle_e268 (4 : Int32).toNatClampNeg), 0, s_isle_e268, s_fresh_e222, 0, s_taped_28, s_cursor_e222, s_start_e222, s_token_e222, s_value_e222, s_fault_28, s_faultAt_28, s_latest_28)) FU 0 s_isle) else some (((-1000100) - s_faultAt_28), 0, s_isle, s_fresh_e222, s_acts, s_taped_28, s_cursor_e222, s_start_e222, s_token_e222, s_value_e222, s_fault_28, s_faultAt_28, s_latest_28)))) FU s_fresh_e190 s_cursor_23 s_start_23 s_token_23 s_value_23 s_fault_j208 s_faultAt_j208)
def fX9_isle (s_isle : (Nat → Int32)) (s_fresh : (Nat → Int32)) (s_acts : Int32) (s_tape : (Nat → Int32)) (s_taped : Int32) (s_faultAt : Int32) (s_latest : Int32) : Option (Int32 × Int32 × (Nat → Int32) × (Nat → Int32) × Int32 × Int32 × Int32 × Int32 × Int32 × Int32 × Int32 × Int32 × Int32) :=
  bd5 (fX9_begin s_tape s_taped) (fun s_cursor_1 s_start_1 s_token_1 s_value_1 s_fault_1 => (fX9_isle_L11 (fun s_fresh_e30 => bd1 (fX9_isLetter s_token_1 s_value_1 s_fault_1 105) (fun r_4 => bd6 (fX9_must s_tape s_taped s_cursor_1 s_start_1 s_token_1 s_value_1 s_fault_1 s_faultAt r_4) (fun s_cursor_5 s_start_5 s_token_5 s_value_5 s_fault_5 s_faultAt_5 => bd7 (fX9_number s_tape s_taped s_cursor_5 s_start_5 s_token_5 s_value_5 s_fault_5 s_faultAt_5 0 9) (fun r_6 s_cursor_6 s_start_6 s_token_6 s_value_6 s_fault_6 s_faultAt_6 => bd6 (fX9_mustSign s_tape s_taped s_cursor_6 s_start_6 s_token_6 s_value_6 s_fault_6 s_faultAt_6 44) (fun s_cursor_7 s_start_7 s_token_7 s_value_7 s_fault_7 s_faultAt_7 => bd7 (fX9_number s_tape s_taped s_cursor_7 s_start_7 s_token_7 s_value_7 s_fault_7 s_faultAt_7 ((upd (upd s_fresh_e30 (0 : Int32).toNatClampNeg 1) (1 : Int32).toNatClampNeg r_6) (1 : Int32).toNatClampNeg) 9) (fun r_8 s_cursor_8 s_start_8 s_token_8 s_value_8 s_fault_8 s_faultAt_8 => bd6 (fX9_mustSign s_tape s_taped s_cursor_8 s_start_8 s_token_8 s_value_8 s_fault_8 s_faultAt_8 44) (fun s_cursor_9 s_start_9 s_token_9 s_value_9 s_fault_9 s_faultAt_9 => bd7 (fX9_number s_tape s_taped s_cursor_9 s_start_9 s_token_9 s_value_9 s_fault_9 s_faultAt_9 1 9) (fun r_10 s_cursor_10 s_start_10 s_token_10 s_value_10 s_fault_10 s_faultAt_10 => bd6 (fX9_mustSign s_tape s_taped s_cursor_10 s_start_10 s_token_10 s_value_10 s_fault_10 s_faultAt_10 59) (fun s_cursor_11 s_start_11 s_token_11 s_value_11 s_fault_11 s_faultAt_11 => bd1 (fX9_isLetter s_token_11 s_value_11 s_fault_11 104) (fun r_12 => bd6 (fX9_must s_tape s_taped s_cursor_11 s_start_11 s_token_11 s_value_11 s_fault_11 s_faultAt_11 r_12) (fun s_cursor_13 s_start_13 s_token_13 s_value_13 s_fault_13 s_faultAt_13 => (fX9_isle_L121 s_tape s_taped (fun s_fresh_e190 s_cursor_e190 s_start_e190 s_token_e190 s_value_e190 s_fault_e190 s_faultAt_e190 => bd6 (fX9_mustSign s_tape s_taped s_cursor_e190 s_start_e190 s_token_e190 s_value_e190 s_fault_e190 s_faultAt_e190 59) (fun s_cursor_23 s_start_23 s_token_23 s_value_23 s_fault_23 s_faultAt_23 => bd1 (fX9_isSort s_token_23 s_value_23 s_fault_23) (fun r_24 => (if r_24 = 0 then bd2 (fX9_bad s_start_23 s_fault_23 s_faultAt_23 1) (fun s_fault_34 s_faultAt_34 => (fX9_isle_J208 s_isle s_acts s_tape s_taped s_latest s_fresh_e190 s_cursor_23 s_start_23 s_token_23 s_value_23 s_fault_34 s_faultAt_34)) else (fX9_isle_J208 s_isle s_acts s_tape s_taped s_latest s_fresh_e190 s_cursor_23 s_start_23 s_token_23 s_value_23 s_fault_23 s_faultAt_23))))) FU 0 (upd (upd (upd (upd s_fresh_e30 (0 : Int32).toNatClampNeg 1) (1 : Int32).toNatClampNeg r_6) (2 : Int32).toNatClampNeg r_8) (3 : Int32).toNatClampNeg r_10) s_cursor_13 s_start_13 s_token_13 s_value_13 s_fault_13 s_faultAt_13)))))))))))) FU 0 s_fresh))
abbrev rmX9_isle : Room := { frames := 5, cells := 0, slots := 0, locals := 113 }
theorem ddX9_isle : yX9_isle.cls ≠ "java/lang/invoke/MethodHandle" ∧ yX9_isle.cls ≠ "java/lang/invoke/VarHandle" ∧ (parseMethodDescriptor yX9_isle.desc).map (fun d => d.parameters.length) = some 0 := by decide +kernel
set_option maxHeartbeats 4000000 in
set_option maxRecDepth 100000 in
theorem m_X9_isle (l : Launch) (dC : Nat → ClassId) (dI : Nat → Nat → Nat) (cI cZ : ClassId) (q_s q_s_lane q_s_many q_s_item q_s_isle q_s_fresh q_s_then q_s_was q_s_tape q_s_isKept q_s_kept q_s_trace : Nat) (s_thrown : Int32) (s_status : Int32) (s_lane : (Nat → Int32)) (s_many : (Nat → Int32)) (s_item : (Nat → Int32)) (s_isle : (Nat → Int32)) (s_fresh : (Nat → Int32)) (s_then : (Nat → Int32)) (s_was : (Nat → Int32)) (s_acts : Int32) (s_tape : (Nat → Int32)) (s_taped : Int32) (s_cursor : Int32) (s_start : Int32) (s_token : Int32) (s_value : Int32) (s_fault : Int32) (s_faultAt : Int32) (s_latest : Int32) (s_isKept : (Nat → Int32)) (s_kept : (Nat → Int32)) (s_trace : (Nat → Int32)) (s_traced : Int32) (sz : Nat) (res : Int32 × Int32 × (Nat → Int32) × (Nat → Int32) × Int32 × Int32 × Int32 × Int32 × Int32 × Int32 × Int32 × Int32 × Int32) (hf : fX9_isle s_isle s_fresh s_acts s_tape s_taped s_faultAt s_latest = some res) : Met l yX9_isle wsX9_isle rmX9_isle (mtPc (dC, dI) (tyZ cI cZ) ((W_M cI cZ q_s q_s_lane q_s_many q_s_item q_s_isle q_s_fresh q_s_then q_s_was q_s_tape q_s_isKept q_s_kept q_s_trace s_thrown s_status s_lane s_many s_item s_isle s_fresh s_then s_was s_acts s_tape s_taped s_cursor s_start s_token s_value s_fault s_faultAt s_latest s_isKept s_kept s_trace s_traced)) [.ref q_s] sz) (mtQi (dC, dI) (tyZ cI cZ) ((W_M cI cZ q_s q_s_lane q_s_many q_s_item q_s_isle q_s_fresh q_s_then q_s_was q_s_tape q_s_isKept q_s_kept q_s_trace s_thrown s_status s_lane s_many s_item s_isle s_fresh s_then s_was s_acts s_tape s_taped s_cursor s_start s_token s_value s_fault s_faultAt s_latest s_isKept s_kept s_trace s_traced)) ((W_M cI cZ q_s q_s_lane q_s_many q_s_item q_s_isle q_s_fresh q_s_then q_s_was q_s_tape q_s_isKept q_s_kept q_s_trace res.2.1 s_status s_lane s_many s_item res.2.2.1 res.2.2.2.1 s_then s_was res.2.2.2.2.1 s_tape res.2.2.2.2.2.1 res.2.2.2.2.2.2.1 res.2.2.2.2.2.2.2.1 res.2.2.2.2.2.2.2.2.1 res.2.2.2.2.2.2.2.2.2.1 res.2.2.2.2.2.2.2.2.2.2.1 res.2.2.2.2.2.2.2.2.2.2.2.1 res.2.2.2.2.2.2.2.2.2.2.2.2 s_isKept s_kept s_trace s_traced)) res.1 sz) 0 0 (va_A ((W_M cI cZ q_s q_s_lane q_s_many q_s_item q_s_isle q_s_fresh q_s_then q_s_was q_s_tape q_s_isKept q_s_kept q_s_trace s_thrown s_status s_lane s_many s_item s_isle s_fresh s_then s_was s_acts s_tape s_taped s_cursor s_start s_token s_value s_fault s_faultAt s_latest s_isKept s_kept s_trace s_traced)) sz) := by
  refine Met.ofW (cc := cX9_isle) (maxL := 2) (ret := (some .int)) (by decide) rfl ?_
  intro p e s m args below meth c s₁ B hml hv
  obtain ⟨rfl, hsz, hP, hK, hD0⟩ := hv
  have hx := B.exec
  have hb := B.bytes
  have hr := B.returns
  have hts := atoms_spec (ws := wsX9_isle) B.pre
  have hown : s.vm.findClass RX9 = some m.cls := findClass_of_methodNamed B.named
  have hlocks := B.notSynchronized
  subst hsz
  have hD := hD0.self (sz := s.heap.size)
  obtain ⟨A, hAe⟩ : ∃ A, A = va_A ((W_M cI cZ q_s q_s_lane q_s_many q_s_item q_s_isle q_s_fresh q_s_then q_s_was q_s_tape q_s_isKept q_s_kept q_s_trace s_thrown s_status s_lane s_many s_item s_isle s_fresh s_then s_was s_acts s_tape s_taped s_cursor s_start s_token s_value s_fault s_faultAt s_latest s_isKept s_kept s_trace s_traced)) s.heap.size := ⟨_, rfl⟩
  rw [← hAe] at hD
  have hA : ∀ q : Nat, s.heap.size ≤ q → A q := fun q h => by rw [hAe]; exact Or.inr h
  have hS : va_S A s.heap s.heap [] := va_S.rf
  have hl := lv_entry ([.ref q_s]) (n := 2) (Nat.le_of_ble_eq_true rfl)
  rw [lg_entry_eq]
  generalize (lg_sl ([.ref q_s]) ++ List.replicate (2 - (lg_sl ([.ref q_s])).length) Slot.unset).toArray = ls at hl ⊢
  have hl : lv_has ls 2 [(0, .ref q_s)] := hl
  obtain ⟨QQ, hQQ⟩ : ∃ Q, Q = MQ below (mtQi (dC, dI) (tyZ cI cZ) ((W_M cI cZ q_s q_s_lane q_s_many q_s_item q_s_isle q_s_fresh q_s_then q_s_was q_s_tape q_s_isKept q_s_kept q_s_trace s_thrown s_status s_lane s_many s_item s_isle s_fresh s_then s_was s_acts s_tape s_taped s_cursor s_start s_token s_value s_fault s_faultAt s_latest s_isKept s_kept s_trace s_traced)) ((W_M cI cZ q_s q_s_lane q_s_many q_s_item q_s_isle q_s_fresh q_s_then q_s_was q_s_tape q_s_isKept q_s_kept q_s_trace res.2.1 s_status s_lane s_many s_item res.2.2.1 res.2.2.2.1 s_then s_was res.2.2.2.2.1 s_tape res.2.2.2.2.2.1 res.2.2.2.2.2.2.1 res.2.2.2.2.2.2.2.1 res.2.2.2.2.2.2.2.2.1 res.2.2.2.2.2.2.2.2.2.1 res.2.2.2.2.2.2.2.2.2.2.1 res.2.2.2.2.2.2.2.2.2.2.2.1 res.2.2.2.2.2.2.2.2.2.2.2.2 s_isKept s_kept s_trace s_traced)) res.1 s.heap.size) ([.ref q_s] : List Value).toArray s 0 0 (va_A ((W_M cI cZ q_s q_s_lane q_s_many q_s_item q_s_isle q_s_fresh q_s_then q_s_was q_s_tape q_s_isKept q_s_kept q_s_trace s_thrown s_status s_lane s_many s_item s_isle s_fresh s_then s_was s_acts s_tape s_taped s_cursor s_start s_token s_value s_fault s_faultAt s_latest s_isKept s_kept s_trace s_traced)) s.heap.size) := ⟨_, rfl⟩
  rw [← hQQ]
  have w_0 := hts (Cond.fieldLink RX9 44 "TideInchesModel" "thrown" "I") (List.mem_of_getElem? (i := 1) rfl)
  have w_1 := (fun w hw => List.mem_cons_of_mem _ (List.mem_append_right _ hw) : ∀ w ∈ wsX90, w ∈ wsX9_isle)
  have w_2 := hts (Cond.fieldLink RX9 22 "TideInchesModel" "fresh" "[I") (List.mem_of_getElem? (i := 2) rfl)
  have w_3 := hts (Cond.fieldLink RX9 75 "TideInchesModel" "fault" "I") (List.mem_of_getElem? (i := 3) rfl)
  have w_4 := hts (Cond.fieldLink RX9 88 "TideInchesModel" "value" "I") (List.mem_of_getElem? (i := 4) rfl)
  have w_5 := hts (Cond.fieldLink RX9 99 "TideInchesModel" "token" "I") (List.mem_of_getElem? (i := 5) rfl)
  have w_6 := hts (Cond.constantLong RX9 91 (97)) (List.mem_of_getElem? (i := 6) rfl)
  have w_7 := hts (Cond.constantLong RX9 132 (106)) (List.mem_of_getElem? (i := 7) rfl)
  have w_8 := hts (Cond.fieldLink RX9 145 "TideInchesModel" "acts" "I") (List.mem_of_getElem? (i := 10) rfl)
  have w_9 := hts (Cond.fieldLink RX9 19 "TideInchesModel" "isle" "[I") (List.mem_of_getElem? (i := 11) rfl)
  have w_10 := hts (Cond.constant RX9 144 (-1000100)) (List.mem_of_getElem? (i := 8) rfl)
  have w_11 := hts (Cond.fieldLink RX9 81 "TideInchesModel" "faultAt" "I") (List.mem_of_getElem? (i := 9) rfl)
  have h := hf
  unfold fX9_isle at h
  refine lv_aload_n hx hb dX9_isle_0 rfl (lv_at hl 0 rfl) ?_
  refine lv_iconst (v := 0) hx hb dX9_isle_1 (by decide) ?_
  refine va_put (D := (dC, dI)) (ci := 7) (v := .int 0) (ty := .int) (C := RX9) (T := TX9) (N := 23) hx hb hts w_1 tyX9 tyX9_ok nmX9 hown hK hP hD hS 0 rfl rfl 0 (by decide) w_0 (fun _ h9 => h9) rfl (by decide +kernel) rfl rfl (Nat.le_of_ble_eq_true rfl) dX9_isle_2 (fun H locs hP hD hS => ?_)
  have hP : va_P (dC, dI) vwCl ((W_M cI cZ q_s q_s_lane q_s_many q_s_item q_s_isle q_s_fresh q_s_then q_s_was q_s_tape q_s_isKept q_s_kept q_s_trace 0 s_status s_lane s_many s_item s_isle s_fresh s_then s_was s_acts s_tape s_taped s_cursor s_start s_token s_value s_fault s_faultAt s_latest s_isKept s_kept s_trace s_traced)) H := hP
  have hD : va_D A ((W_M cI cZ q_s q_s_lane q_s_many q_s_item q_s_isle q_s_fresh q_s_then q_s_was q_s_tape q_s_isKept q_s_kept q_s_trace 0 s_status s_lane s_many s_item s_isle s_fresh s_then s_was s_acts s_tape s_taped s_cursor s_start s_token s_value s_fault s_faultAt s_latest s_isKept s_kept s_trace s_traced)) := hD
  refine lv_aload_n hx hb dX9_isle_5 rfl (lv_at hl 0 rfl) ?_
  obtain ⟨s_cursor_1, s_start_1, s_token_1, s_value_1, s_fault_1, hc_1, h⟩ := bd5_of h
  refine cl_mVv (As := []) (rest := []) (ws' := (W_M cI cZ q_s q_s_lane q_s_many q_s_item q_s_isle q_s_fresh q_s_then q_s_was q_s_tape q_s_isKept q_s_kept q_s_trace 0 s_status s_lane s_many s_item s_isle s_fresh s_then s_was s_acts s_tape s_taped s_cursor_1 s_start_1 s_token_1 s_value_1 s_fault_1 s_faultAt s_latest s_isKept s_kept s_trace s_traced)) (wr := []) ⟨hx, hb, hml, hown, hts⟩ (m_X9_begin l dC dI cI cZ q_s q_s_lane q_s_many q_s_item q_s_isle q_s_fresh q_s_then q_s_was q_s_tape q_s_isKept q_s_kept q_s_trace 0 s_status s_lane s_many s_item s_isle s_fresh s_then s_was s_acts s_tape s_taped s_cursor s_start s_token s_value s_fault s_faultAt s_latest s_isKept s_kept s_trace s_traced _ (s_cursor_1, s_start_1, s_token_1, s_value_1, s_fault_1) hc_1) (cwV 0 hts gX9_isle_X9_begin rfl rfl rfl ⟨rfl, ddX9_begin⟩ ⟨Nat.le_of_ble_eq_true rfl, Nat.le_of_ble_eq_true rfl⟩) hK hP hD hS hA [0, 1, 2, 3, 4, 5, 6, 7, 8, 9, 10, 11] [] rfl rfl rfl rfl (by decide) [0, 1, 2, 3, 4, 5, 6, 7, 8, 9, 10, 11] rfl rfl rfl rfl rfl rfl rfl hl.1 (Nat.le_of_ble_eq_true rfl) ⟨Nat.zero_le _, Nat.zero_le _⟩ dX9_isle_6 (fun H locs hP hD hS => ?_)
  refine lv_iconst (v := 0) hx hb dX9_isle_9 (by decide) ?_
  refine lv_istore_n (lv' := [(1, .int 0), (0, .ref q_s)]) hx hb dX9_isle_10 rfl hl (by decide) rfl (fun ls hl => ?_)
  have KL11 : ∀ (k11_30 : (Nat → Int32) → Option (Int32 × Int32 × (Nat → Int32) × (Nat → Int32) × Int32 × Int32 × Int32 × Int32 × Int32 × Int32 × Int32 × Int32 × Int32)) , (∀ (s_fresh_e30 : (Nat → Int32)) (H : Heap) (locs : List Loc) (ls : Array Slot), va_P (dC, dI) vwCl ((W_M cI cZ q_s q_s_lane q_s_many q_s_item q_s_isle q_s_fresh q_s_then q_s_was q_s_tape q_s_isKept q_s_kept q_s_trace 0 s_status s_lane s_many s_item s_isle s_fresh_e30 s_then s_was s_acts s_tape s_taped s_cursor_1 s_start_1 s_token_1 s_value_1 s_fault_1 s_faultAt s_latest s_isKept s_kept s_trace s_traced)) H → va_D A ((W_M cI cZ q_s q_s_lane q_s_many q_s_item q_s_isle q_s_fresh q_s_then q_s_was q_s_tape q_s_isKept q_s_kept q_s_trace 0 s_status s_lane s_many s_item s_isle s_fresh_e30 s_then s_was s_acts s_tape s_taped s_cursor_1 s_start_1 s_token_1 s_value_1 s_fault_1 s_faultAt s_latest s_isKept s_kept s_trace s_traced)) → va_S A s.heap H locs → lv_has ls 2 [(0, .ref q_s)] → k11_30 s_fresh_e30 = some res → W p l e (headSpec wsX9_isle rmX9_isle).room s m ([.ref q_s] : List Value).toArray below meth c H locs 0 0 QQ (F0 m 30 ls [])) → ∀ (n : Nat) (v1_h11 : Int32) (s_fresh_h11 : (Nat → Int32)) (H : Heap) (locs : List Loc) (ls : Array Slot), va_P (dC, dI) vwCl ((W_M cI cZ q_s q_s_lane q_s_many q_s_item q_s_isle q_s_fresh q_s_then q_s_was q_s_tape q_s_isKept q_s_kept q_s_trace 0 s_status s_lane s_many s_item s_isle s_fresh_h11 s_then s_was s_acts s_tape s_taped s_cursor_1 s_start_1 s_token_1 s_value_1 s_fault_1 s_faultAt s_latest s_isKept s_kept s_trace s_traced)) H → va_D A ((W_M cI cZ q_s q_s_lane q_s_many q_s_item q_s_isle q_s_fresh q_s_then q_s_was q_s_tape q_s_isKept q_s_kept q_s_trace 0 s_status s_lane s_many s_item s_isle s_fresh_h11 s_then s_was s_acts s_tape s_taped s_cursor_1 s_start_1 s_token_1 s_value_1 s_fault_1 s_faultAt s_latest s_isKept s_kept s_trace s_traced)) → va_S A s.heap H locs → lv_has ls 2 [(0, .ref q_s), (1, .int v1_h11)] → fX9_isle_L11 k11_30 n v1_h11 s_fresh_h11 = some res → W p l e (headSpec wsX9_isle rmX9_isle).room s m ([.ref q_s] : List Value).toArray below meth c H locs 0 0 QQ (F0 m 11 ls []) := by
    intro k11_30 Kk11_30 n
    induction n with
    | zero => intro v1_h11 s_fresh_h11 H locs ls hP hD hS hl h; rw [fX9_isle_L11.eq_1] at h; cases h
    | succ n ih =>
      intro v1_h11 s_fresh_h11 H locs ls hP hD hS hl h
      rw [fX9_isle_L11.eq_2] at h
      refine lv_iload_n hx hb dX9_isle_11 rfl (lv_at hl 1 rfl) ?_
      refine lv_bipush (v := 51) hx hb dX9_isle_12 (by decide) ?_
      refine lv_icmp_ge (tgt := 30) hx hb dX9_isle_14 (by decide) (fun c_2 => ?_) (fun c_2 => ?_)
      · have h := (if_pos c_2).symm.trans h
        exact Kk11_30 s_fresh_h11 _ _ _ hP hD hS (lv_sub hl [0] rfl) h
      · have h := (if_neg c_2).symm.trans h
        refine lv_aload_n hx hb dX9_isle_17 rfl (lv_at hl 0 rfl) ?_
        refine va_get (D := (dC, dI)) (ci := 7) (v := .ref q_s_fresh) (C := RX9) (T := TX9) (N := 23) hx hb hts w_1 hown hK hP 0 rfl rfl 6 (by decide) w_2 (fun _ h9 => h9) rfl dX9_isle_18 ?_
        refine lv_iload_n hx hb dX9_isle_21 rfl (lv_at hl 1 rfl) ?_
        refine lv_iconst (v := 0) hx hb dX9_isle_22 (by decide) ?_
        obtain ⟨b_3, h⟩ := chk_of h
        refine va_iast hx hb hK hP hD hS 5 0 rfl rfl (i := v1_h11) (x := 0) b_3 dX9_isle_23 (fun H locs hP hD hS => ?_)
        have hP : va_P (dC, dI) vwCl ((W_M cI cZ q_s q_s_lane q_s_many q_s_item q_s_isle q_s_fresh q_s_then q_s_was q_s_tape q_s_isKept q_s_kept q_s_trace 0 s_status s_lane s_many s_item s_isle (upd s_fresh_h11 v1_h11.toNatClampNeg 0) s_then s_was s_acts s_tape s_taped s_cursor_1 s_start_1 s_token_1 s_value_1 s_fault_1 s_faultAt s_latest s_isKept s_kept s_trace s_traced)) H := hP
        have hD : va_D A ((W_M cI cZ q_s q_s_lane q_s_many q_s_item q_s_isle q_s_fresh q_s_then q_s_was q_s_tape q_s_isKept q_s_kept q_s_trace 0 s_status s_lane s_many s_item s_isle (upd s_fresh_h11 v1_h11.toNatClampNeg 0) s_then s_was s_acts s_tape s_taped s_cursor_1 s_start_1 s_token_1 s_value_1 s_fault_1 s_faultAt s_latest s_isKept s_kept s_trace s_traced)) := hD
        refine lv_iinc (v := (v1_h11 + 1)) (lv' := [(1, .int (v1_h11 + 1)), (0, .ref q_s)]) hx hb dX9_isle_24 hl (k := 1) rfl rfl (by decide) rfl (fun ls hl => ?_)
        refine lv_goto (tgt := 11) hx hb dX9_isle_27 (by decide) ?_
        exact ih (v1_h11 + 1) (upd s_fresh_h11 v1_h11.toNatClampNeg 0) _ _ _ hP hD hS (lv_sub hl [1, 0] rfl) h
  refine KL11 _ (fun s_fresh_e30 H locs ls hP hD hS hl h => ?_) FU 0 s_fresh _ _ _ hP hD hS (lv_sub hl [1, 0] rfl) h
  refine lv_aload_n hx hb dX9_isle_30 rfl (lv_at hl 0 rfl) ?_
  refine va_get (D := (dC, dI)) (ci := 7) (v := .ref q_s_fresh) (C := RX9) (T := TX9) (N := 23) hx hb hts w_1 hown hK hP 0 rfl rfl 6 (by decide) w_2 (fun _ h9 => h9) rfl dX9_isle_31 ?_
  refine lv_iconst (v := 0) hx hb dX9_isle_34 (by decide) ?_
  refine lv_iconst (v := 1) hx hb dX9_isle_35 (by decide) ?_
  refine va_iast hx hb hK hP hD hS 5 0 rfl rfl (i := 0) (x := 1) (show ¬ ((0 : Int32) < 0 ∨ 51 ≤ (0 : Int32).toNatClampNeg) by decide +kernel) dX9_isle_36 (fun H locs hP hD hS => ?_)
  have hP : va_P (dC, dI) vwCl ((W_M cI cZ q_s q_s_lane q_s_many q_s_item q_s_isle q_s_fresh q_s_then q_s_was q_s_tape q_s_isKept q_s_kept q_s_trace 0 s_status s_lane s_many s_item s_isle (upd s_fresh_e30 (0 : Int32).toNatClampNeg 1) s_then s_was s_acts s_tape s_taped s_cursor_1 s_start_1 s_token_1 s_value_1 s_fault_1 s_faultAt s_latest s_isKept s_kept s_trace s_traced)) H := hP
  have hD : va_D A ((W_M cI cZ q_s q_s_lane q_s_many q_s_item q_s_isle q_s_fresh q_s_then q_s_was q_s_tape q_s_isKept q_s_kept q_s_trace 0 s_status s_lane s_many s_item s_isle (upd s_fresh_e30 (0 : Int32).toNatClampNeg 1) s_then s_was s_acts s_tape s_taped s_cursor_1 s_start_1 s_token_1 s_value_1 s_fault_1 s_faultAt s_latest s_isKept s_kept s_trace s_traced)) := hD
  refine lv_aload_n hx hb dX9_isle_37 rfl (lv_at hl 0 rfl) ?_
  refine lv_aload_n hx hb dX9_isle_38 rfl (lv_at hl 0 rfl) ?_
  refine lv_bipush (v := 105) hx hb dX9_isle_39 (by decide) ?_
  obtain ⟨r_4, hc_4, h⟩ := bd1_of h
  refine cl_rV (As := [.int 105]) (rest := [.ref q_s]) ⟨hx, hb, hml, hown, hts⟩ (m_X9_isLetter l dC dI cI cZ q_s q_s_lane q_s_many q_s_item q_s_isle q_s_fresh q_s_then q_s_was q_s_tape q_s_isKept q_s_kept q_s_trace 0 s_status s_lane s_many s_item s_isle (upd s_fresh_e30 (0 : Int32).toNatClampNeg 1) s_then s_was s_acts s_tape s_taped s_cursor_1 s_start_1 s_token_1 s_value_1 s_fault_1 s_faultAt s_latest s_isKept s_kept s_trace s_traced 105 (r_4) hc_4) (cwV 1 hts gX9_isle_X9_isLetter rfl rfl rfl ⟨rfl, ddX9_isLetter⟩ ⟨Nat.le_of_ble_eq_true rfl, Nat.le_of_ble_eq_true rfl⟩) hK hP [0, 1, 2, 3, 4, 5, 6, 7, 8, 9, 10, 11] rfl rfl rfl rfl rfl hl.1 (Nat.le_of_ble_eq_true rfl) ⟨Nat.zero_le _, Nat.zero_le _⟩ dX9_isle_41 ?_
  obtain ⟨s_cursor_5, s_start_5, s_token_5, s_value_5, s_fault_5, s_faultAt_5, hc_5, h⟩ := bd6_of h
  refine cl_mVv (As := [.int r_4]) (rest := []) (ws' := (W_M cI cZ q_s q_s_lane q_s_many q_s_item q_s_isle q_s_fresh q_s_then q_s_was q_s_tape q_s_isKept q_s_kept q_s_trace 0 s_status s_lane s_many s_item s_isle (upd s_fresh_e30 (0 : Int32).toNatClampNeg 1) s_then s_was s_acts s_tape s_taped s_cursor_5 s_start_5 s_token_5 s_value_5 s_fault_5 s_faultAt_5 s_latest s_isKept s_kept s_trace s_traced)) (wr := []) ⟨hx, hb, hml, hown, hts⟩ (m_X9_must l dC dI cI cZ q_s q_s_lane q_s_many q_s_item q_s_isle q_s_fresh q_s_then q_s_was q_s_tape q_s_isKept q_s_kept q_s_trace 0 s_status s_lane s_many s_item s_isle (upd s_fresh_e30 (0 : Int32).toNatClampNeg 1) s_then s_was s_acts s_tape s_taped s_cursor_1 s_start_1 s_token_1 s_value_1 s_fault_1 s_faultAt s_latest s_isKept s_kept s_trace s_traced r_4 _ (s_cursor_5, s_start_5, s_token_5, s_value_5, s_fault_5, s_faultAt_5) hc_5) (cwV 1 hts gX9_isle_X9_must rfl rfl rfl ⟨rfl, ddX9_must⟩ ⟨Nat.le_of_ble_eq_true rfl, Nat.le_of_ble_eq_true rfl⟩) hK hP hD hS hA [0, 1, 2, 3, 4, 5, 6, 7, 8, 9, 10, 11] [] rfl rfl rfl rfl (by decide) [0, 1, 2, 3, 4, 5, 6, 7, 8, 9, 10, 11] rfl rfl rfl rfl rfl rfl rfl hl.1 (Nat.le_of_ble_eq_true rfl) ⟨Nat.zero_le _, Nat.zero_le _⟩ dX9_isle_44 (fun H locs hP hD hS => ?_)
  refine lv_aload_n hx hb dX9_isle_47 rfl (lv_at hl 0 rfl) ?_
  refine va_get (D := (dC, dI)) (ci := 7) (v := .ref q_s_fresh) (C := RX9) (T := TX9) (N := 23) hx hb hts w_1 hown hK hP 0 rfl rfl 6 (by decide) w_2 (fun _ h9 => h9) rfl dX9_isle_48 ?_
  refine lv_iconst (v := 1) hx hb dX9_isle_51 (by decide) ?_
  refine lv_aload_n hx hb dX9_isle_52 rfl (lv_at hl 0 rfl) ?_
  refine lv_iconst (v := 0) hx hb dX9_isle_53 (by decide) ?_
  refine lv_bipush (v := 9) hx hb dX9_isle_54 (by decide) ?_
  obtain ⟨r_6, s_cursor_6, s_start_6, s_token_6, s_value_6, s_fault_6, s_faultAt_6, hc_6, h⟩ := bd7_of h
  refine cl_mVi (As := [.int 0, .int 9]) (rest := [.int 1, .ref q_s_fresh]) (ws' := (W_M cI cZ q_s q_s_lane q_s_many q_s_item q_s_isle q_s_fresh q_s_then q_s_was q_s_tape q_s_isKept q_s_kept q_s_trace 0 s_status s_lane s_many s_item s_isle (upd s_fresh_e30 (0 : Int32).toNatClampNeg 1) s_then s_was s_acts s_tape s_taped s_cursor_6 s_start_6 s_token_6 s_value_6 s_fault_6 s_faultAt_6 s_latest s_isKept s_kept s_trace s_traced)) (wr := []) ⟨hx, hb, hml, hown, hts⟩ (m_X9_number l dC dI cI cZ q_s q_s_lane q_s_many q_s_item q_s_isle q_s_fresh q_s_then q_s_was q_s_tape q_s_isKept q_s_kept q_s_trace 0 s_status s_lane s_many s_item s_isle (upd s_fresh_e30 (0 : Int32).toNatClampNeg 1) s_then s_was s_acts s_tape s_taped s_cursor_5 s_start_5 s_token_5 s_value_5 s_fault_5 s_faultAt_5 s_latest s_isKept s_kept s_trace s_traced 0 9 _ (r_6, s_cursor_6, s_start_6, s_token_6, s_value_6, s_fault_6, s_faultAt_6) hc_6) (cwV 2 hts gX9_isle_X9_number rfl rfl rfl ⟨rfl, ddX9_number⟩ ⟨Nat.le_of_ble_eq_true rfl, Nat.le_of_ble_eq_true rfl⟩) hK hP hD hS hA [0, 1, 2, 3, 4, 5, 6, 7, 8, 9, 10, 11] [] rfl rfl rfl rfl (by decide) [0, 1, 2, 3, 4, 5, 6, 7, 8, 9, 10, 11] rfl rfl rfl rfl rfl rfl rfl hl.1 (Nat.le_of_ble_eq_true rfl) ⟨Nat.zero_le _, Nat.zero_le _⟩ dX9_isle_56 (fun H locs hP hD hS => ?_)
  refine va_iast hx hb hK hP hD hS 5 0 rfl rfl (i := 1) (x := r_6) (show ¬ ((1 : Int32) < 0 ∨ 51 ≤ (1 : Int32).toNatClampNeg) by decide +kernel) dX9_isle_59 (fun H locs hP hD hS => ?_)
  have hP : va_P (dC, dI) vwCl ((W_M cI cZ q_s q_s_lane q_s_many q_s_item q_s_isle q_s_fresh q_s_then q_s_was q_s_tape q_s_isKept q_s_kept q_s_trace 0 s_status s_lane s_many s_item s_isle (upd (upd s_fresh_e30 (0 : Int32).toNatClampNeg 1) (1 : Int32).toNatClampNeg r_6) s_then s_was s_acts s_tape s_taped s_cursor_6 s_start_6 s_token_6 s_value_6 s_fault_6 s_faultAt_6 s_latest s_isKept s_kept s_trace s_traced)) H := hP
  have hD : va_D A ((W_M cI cZ q_s q_s_lane q_s_many q_s_item q_s_isle q_s_fresh q_s_then q_s_was q_s_tape q_s_isKept q_s_kept q_s_trace 0 s_status s_lane s_many s_item s_isle (upd (upd s_fresh_e30 (0 : Int32).toNatClampNeg 1) (1 : Int32).toNatClampNeg r_6) s_then s_was s_acts s_tape s_taped s_cursor_6 s_start_6 s_token_6 s_value_6 s_fault_6 s_faultAt_6 s_latest s_isKept s_kept s_trace s_traced)) := hD
  refine lv_aload_n hx hb dX9_isle_60 rfl (lv_at hl 0 rfl) ?_
  refine lv_bipush (v := 44) hx hb dX9_isle_61 (by decide) ?_
  obtain ⟨s_cursor_7, s_start_7, s_token_7, s_value_7, s_fault_7, s_faultAt_7, hc_7, h⟩ := bd6_of h
  refine cl_mVv (As := [.int 44]) (rest := []) (ws' := (W_M cI cZ q_s q_s_lane q_s_many q_s_item q_s_isle q_s_fresh q_s_then q_s_was q_s_tape q_s_isKept q_s_kept q_s_trace 0 s_status s_lane s_many s_item s_isle (upd (upd s_fresh_e30 (0 : Int32).toNatClampNeg 1) (1 : Int32).toNatClampNeg r_6) s_then s_was s_acts s_tape s_taped s_cursor_7 s_start_7 s_token_7 s_value_7 s_fault_7 s_faultAt_7 s_latest s_isKept s_kept s_trace s_traced)) (wr := []) ⟨hx, hb, hml, hown, hts⟩ (m_X9_mustSign l dC dI cI cZ q_s q_s_lane q_s_many q_s_item q_s_isle q_s_fresh q_s_then q_s_was q_s_tape q_s_isKept q_s_kept q_s_trace 0 s_status s_lane s_many s_item s_isle (upd (upd s_fresh_e30 (0 : Int32).toNatClampNeg 1) (1 : Int32).toNatClampNeg r_6) s_then s_was s_acts s_tape s_taped s_cursor_6 s_start_6 s_token_6 s_value_6 s_fault_6 s_faultAt_6 s_latest s_isKept s_kept s_trace s_traced 44 _ (s_cursor_7, s_start_7, s_token_7, s_value_7, s_fault_7, s_faultAt_7) hc_7) (cwV 1 hts gX9_isle_X9_mustSign rfl rfl rfl ⟨rfl, ddX9_mustSign⟩ ⟨Nat.le_of_ble_eq_true rfl, Nat.le_of_ble_eq_true rfl⟩) hK hP hD hS hA [0, 1, 2, 3, 4, 5, 6, 7, 8, 9, 10, 11] [] rfl rfl rfl rfl (by decide) [0, 1, 2, 3, 4, 5, 6, 7, 8, 9, 10, 11] rfl rfl rfl rfl rfl rfl rfl hl.1 (Nat.le_of_ble_eq_true rfl) ⟨Nat.zero_le _, Nat.zero_le _⟩ dX9_isle_63 (fun H locs hP hD hS => ?_)
  refine lv_aload_n hx hb dX9_isle_66 rfl (lv_at hl 0 rfl) ?_
  refine va_get (D := (dC, dI)) (ci := 7) (v := .ref q_s_fresh) (C := RX9) (T := TX9) (N := 23) hx hb hts w_1 hown hK hP 0 rfl rfl 6 (by decide) w_2 (fun _ h9 => h9) rfl dX9_isle_67 ?_
  refine lv_iconst (v := 2) hx hb dX9_isle_70 (by decide) ?_
  refine lv_aload_n hx hb dX9_isle_71 rfl (lv_at hl 0 rfl) ?_
  refine lv_aload_n hx hb dX9_isle_72 rfl (lv_at hl 0 rfl) ?_
  refine va_get (D := (dC, dI)) (ci := 7) (v := .ref q_s_fresh) (C := RX9) (T := TX9) (N := 23) hx hb hts w_1 hown hK hP 0 rfl rfl 6 (by decide) w_2 (fun _ h9 => h9) rfl dX9_isle_73 ?_
  refine lv_iconst (v := 1) hx hb dX9_isle_76 (by decide) ?_
  refine va_iald hx hb hK hP 5 0 rfl rfl (i := 1) (show ¬ ((1 : Int32) < 0 ∨ 51 ≤ (1 : Int32).toNatClampNeg) by decide +kernel) dX9_isle_77 ?_
  refine lv_bipush (v := 9) hx hb dX9_isle_78 (by decide) ?_
  obtain ⟨r_8, s_cursor_8, s_start_8, s_token_8, s_value_8, s_fault_8, s_faultAt_8, hc_8, h⟩ := bd7_of h
  refine cl_mVi (As := [.int ((upd (upd s_fresh_e30 (0 : Int32).toNatClampNeg 1) (1 : Int32).toNatClampNeg r_6) (1 : Int32).toNatClampNeg), .int 9]) (rest := [.int 2, .ref q_s_fresh]) (ws' := (W_M cI cZ q_s q_s_lane q_s_many q_s_item q_s_isle q_s_fresh q_s_then q_s_was q_s_tape q_s_isKept q_s_kept q_s_trace 0 s_status s_lane s_many s_item s_isle (upd (upd s_fresh_e30 (0 : Int32).toNatClampNeg 1) (1 : Int32).toNatClampNeg r_6) s_then s_was s_acts s_tape s_taped s_cursor_8 s_start_8 s_token_8 s_value_8 s_fault_8 s_faultAt_8 s_latest s_isKept s_kept s_trace s_traced)) (wr := []) ⟨hx, hb, hml, hown, hts⟩ (m_X9_number l dC dI cI cZ q_s q_s_lane q_s_many q_s_item q_s_isle q_s_fresh q_s_then q_s_was q_s_tape q_s_isKept q_s_kept q_s_trace 0 s_status s_lane s_many s_item s_isle (upd (upd s_fresh_e30 (0 : Int32).toNatClampNeg 1) (1 : Int32).toNatClampNeg r_6) s_then s_was s_acts s_tape s_taped s_cursor_7 s_start_7 s_token_7 s_value_7 s_fault_7 s_faultAt_7 s_latest s_isKept s_kept s_trace s_traced ((upd (upd s_fresh_e30 (0 : Int32).toNatClampNeg 1) (1 : Int32).toNatClampNeg r_6) (1 : Int32).toNatClampNeg) 9 _ (r_8, s_cursor_8, s_start_8, s_token_8, s_value_8, s_fault_8, s_faultAt_8) hc_8) (cwV 2 hts gX9_isle_X9_number rfl rfl rfl ⟨rfl, ddX9_number⟩ ⟨Nat.le_of_ble_eq_true rfl, Nat.le_of_ble_eq_true rfl⟩) hK hP hD hS hA [0, 1, 2, 3, 4, 5, 6, 7, 8, 9, 10, 11] [] rfl rfl rfl rfl (by decide) [0, 1, 2, 3, 4, 5, 6, 7, 8, 9, 10, 11] rfl rfl rfl rfl rfl rfl rfl hl.1 (Nat.le_of_ble_eq_true rfl) ⟨Nat.zero_le _, Nat.zero_le _⟩ dX9_isle_80 (fun H locs hP hD hS => ?_)
  refine va_iast hx hb hK hP hD hS 5 0 rfl rfl (i := 2) (x := r_8) (show ¬ ((2 : Int32) < 0 ∨ 51 ≤ (2 : Int32).toNatClampNeg) by decide +kernel) dX9_isle_83 (fun H locs hP hD hS => ?_)
  have hP : va_P (dC, dI) vwCl ((W_M cI cZ q_s q_s_lane q_s_many q_s_item q_s_isle q_s_fresh q_s_then q_s_was q_s_tape q_s_isKept q_s_kept q_s_trace 0 s_status s_lane s_many s_item s_isle (upd (upd (upd s_fresh_e30 (0 : Int32).toNatClampNeg 1) (1 : Int32).toNatClampNeg r_6) (2 : Int32).toNatClampNeg r_8) s_then s_was s_acts s_tape s_taped s_cursor_8 s_start_8 s_token_8 s_value_8 s_fault_8 s_faultAt_8 s_latest s_isKept s_kept s_trace s_traced)) H := hP
  have hD : va_D A ((W_M cI cZ q_s q_s_lane q_s_many q_s_item q_s_isle q_s_fresh q_s_then q_s_was q_s_tape q_s_isKept q_s_kept q_s_trace 0 s_status s_lane s_many s_item s_isle (upd (upd (upd s_fresh_e30 (0 : Int32).toNatClampNeg 1) (1 : Int32).toNatClampNeg r_6) (2 : Int32).toNatClampNeg r_8) s_then s_was s_acts s_tape s_taped s_cursor_8 s_start_8 s_token_8 s_value_8 s_fault_8 s_faultAt_8 s_latest s_isKept s_kept s_trace s_traced)) := hD
  refine lv_aload_n hx hb dX9_isle_84 rfl (lv_at hl 0 rfl) ?_
  refine lv_bipush (v := 44) hx hb dX9_isle_85 (by decide) ?_
  obtain ⟨s_cursor_9, s_start_9, s_token_9, s_value_9, s_fault_9, s_faultAt_9, hc_9, h⟩ := bd6_of h
  refine cl_mVv (As := [.int 44]) (rest := []) (ws' := (W_M cI cZ q_s q_s_lane q_s_many q_s_item q_s_isle q_s_fresh q_s_then q_s_was q_s_tape q_s_isKept q_s_kept q_s_trace 0 s_status s_lane s_many s_item s_isle (upd (upd (upd s_fresh_e30 (0 : Int32).toNatClampNeg 1) (1 : Int32).toNatClampNeg r_6) (2 : Int32).toNatClampNeg r_8) s_then s_was s_acts s_tape s_taped s_cursor_9 s_start_9 s_token_9 s_value_9 s_fault_9 s_faultAt_9 s_latest s_isKept s_kept s_trace s_traced)) (wr := []) ⟨hx, hb, hml, hown, hts⟩ (m_X9_mustSign l dC dI cI cZ q_s q_s_lane q_s_many q_s_item q_s_isle q_s_fresh q_s_then q_s_was q_s_tape q_s_isKept q_s_kept q_s_trace 0 s_status s_lane s_many s_item s_isle (upd (upd (upd s_fresh_e30 (0 : Int32).toNatClampNeg 1) (1 : Int32).toNatClampNeg r_6) (2 : Int32).toNatClampNeg r_8) s_then s_was s_acts s_tape s_taped s_cursor_8 s_start_8 s_token_8 s_value_8 s_fault_8 s_faultAt_8 s_latest s_isKept s_kept s_trace s_traced 44 _ (s_cursor_9, s_start_9, s_token_9, s_value_9, s_fault_9, s_faultAt_9) hc_9) (cwV 1 hts gX9_isle_X9_mustSign rfl rfl rfl ⟨rfl, ddX9_mustSign⟩ ⟨Nat.le_of_ble_eq_true rfl, Nat.le_of_ble_eq_true rfl⟩) hK hP hD hS hA [0, 1, 2, 3, 4, 5, 6, 7, 8, 9, 10, 11] [] rfl rfl rfl rfl (by decide) [0, 1, 2, 3, 4, 5, 6, 7, 8, 9, 10, 11] rfl rfl rfl rfl rfl rfl rfl hl.1 (Nat.le_of_ble_eq_true rfl) ⟨Nat.zero_le _, Nat.zero_le _⟩ dX9_isle_87 (fun H locs hP hD hS => ?_)
  refine lv_aload_n hx hb dX9_isle_90 rfl (lv_at hl 0 rfl) ?_
  refine va_get (D := (dC, dI)) (ci := 7) (v := .ref q_s_fresh) (C := RX9) (T := TX9) (N := 23) hx hb hts w_1 hown hK hP 0 rfl rfl 6 (by decide) w_2 (fun _ h9 => h9) rfl dX9_isle_91 ?_
  refine lv_iconst (v := 3) hx hb dX9_isle_94 (by decide) ?_
  refine lv_aload_n hx hb dX9_isle_95 rfl (lv_at hl 0 rfl) ?_
  refine lv_iconst (v := 1) hx hb dX9_isle_96 (by decide) ?_
  refine lv_bipush (v := 9) hx hb dX9_isle_97 (by decide) ?_
  obtain ⟨r_10, s_cursor_10, s_start_10, s_token_10, s_value_10, s_fault_10, s_faultAt_10, hc_10, h⟩ := bd7_of h
  refine cl_mVi (As := [.int 1, .int 9]) (rest := [.int 3, .ref q_s_fresh]) (ws' := (W_M cI cZ q_s q_s_lane q_s_many q_s_item q_s_isle q_s_fresh q_s_then q_s_was q_s_tape q_s_isKept q_s_kept q_s_trace 0 s_status s_lane s_many s_item s_isle (upd (upd (upd s_fresh_e30 (0 : Int32).toNatClampNeg 1) (1 : Int32).toNatClampNeg r_6) (2 : Int32).toNatClampNeg r_8) s_then s_was s_acts s_tape s_taped s_cursor_10 s_start_10 s_token_10 s_value_10 s_fault_10 s_faultAt_10 s_latest s_isKept s_kept s_trace s_traced)) (wr := []) ⟨hx, hb, hml, hown, hts⟩ (m_X9_number l dC dI cI cZ q_s q_s_lane q_s_many q_s_item q_s_isle q_s_fresh q_s_then q_s_was q_s_tape q_s_isKept q_s_kept q_s_trace 0 s_status s_lane s_many s_item s_isle (upd (upd (upd s_fresh_e30 (0 : Int32).toNatClampNeg 1) (1 : Int32).toNatClampNeg r_6) (2 : Int32).toNatClampNeg r_8) s_then s_was s_acts s_tape s_taped s_cursor_9 s_start_9 s_token_9 s_value_9 s_fault_9 s_faultAt_9 s_latest s_isKept s_kept s_trace s_traced 1 9 _ (r_10, s_cursor_10, s_start_10, s_token_10, s_value_10, s_fault_10, s_faultAt_10) hc_10) (cwV 2 hts gX9_isle_X9_number rfl rfl rfl ⟨rfl, ddX9_number⟩ ⟨Nat.le_of_ble_eq_true rfl, Nat.le_of_ble_eq_true rfl⟩) hK hP hD hS hA [0, 1, 2, 3, 4, 5, 6, 7, 8, 9, 10, 11] [] rfl rfl rfl rfl (by decide) [0, 1, 2, 3, 4, 5, 6, 7, 8, 9, 10, 11] rfl rfl rfl rfl rfl rfl rfl hl.1 (Nat.le_of_ble_eq_true rfl) ⟨Nat.zero_le _, Nat.zero_le _⟩ dX9_isle_99 (fun H locs hP hD hS => ?_)
  refine va_iast hx hb hK hP hD hS 5 0 rfl rfl (i := 3) (x := r_10) (show ¬ ((3 : Int32) < 0 ∨ 51 ≤ (3 : Int32).toNatClampNeg) by decide +kernel) dX9_isle_102 (fun H locs hP hD hS => ?_)
  have hP : va_P (dC, dI) vwCl ((W_M cI cZ q_s q_s_lane q_s_many q_s_item q_s_isle q_s_fresh q_s_then q_s_was q_s_tape q_s_isKept q_s_kept q_s_trace 0 s_status s_lane s_many s_item s_isle (upd (upd (upd (upd s_fresh_e30 (0 : Int32).toNatClampNeg 1) (1 : Int32).toNatClampNeg r_6) (2 : Int32).toNatClampNeg r_8) (3 : Int32).toNatClampNeg r_10) s_then s_was s_acts s_tape s_taped s_cursor_10 s_start_10 s_token_10 s_value_10 s_fault_10 s_faultAt_10 s_latest s_isKept s_kept s_trace s_traced)) H := hP
  have hD : va_D A ((W_M cI cZ q_s q_s_lane q_s_many q_s_item q_s_isle q_s_fresh q_s_then q_s_was q_s_tape q_s_isKept q_s_kept q_s_trace 0 s_status s_lane s_many s_item s_isle (upd (upd (upd (upd s_fresh_e30 (0 : Int32).toNatClampNeg 1) (1 : Int32).toNatClampNeg r_6) (2 : Int32).toNatClampNeg r_8) (3 : Int32).toNatClampNeg r_10) s_then s_was s_acts s_tape s_taped s_cursor_10 s_start_10 s_token_10 s_value_10 s_fault_10 s_faultAt_10 s_latest s_isKept s_kept s_trace s_traced)) := hD
  refine lv_aload_n hx hb dX9_isle_103 rfl (lv_at hl 0 rfl) ?_
  refine lv_bipush (v := 59) hx hb dX9_isle_104 (by decide) ?_
  obtain ⟨s_cursor_11, s_start_11, s_token_11, s_value_11, s_fault_11, s_faultAt_11, hc_11, h⟩ := bd6_of h
  refine cl_mVv (As := [.int 59]) (rest := []) (ws' := (W_M cI cZ q_s q_s_lane q_s_many q_s_item q_s_isle q_s_fresh q_s_then q_s_was q_s_tape q_s_isKept q_s_kept q_s_trace 0 s_status s_lane s_many s_item s_isle (upd (upd (upd (upd s_fresh_e30 (0 : Int32).toNatClampNeg 1) (1 : Int32).toNatClampNeg r_6) (2 : Int32).toNatClampNeg r_8) (3 : Int32).toNatClampNeg r_10) s_then s_was s_acts s_tape s_taped s_cursor_11 s_start_11 s_token_11 s_value_11 s_fault_11 s_faultAt_11 s_latest s_isKept s_kept s_trace s_traced)) (wr := []) ⟨hx, hb, hml, hown, hts⟩ (m_X9_mustSign l dC dI cI cZ q_s q_s_lane q_s_many q_s_item q_s_isle q_s_fresh q_s_then q_s_was q_s_tape q_s_isKept q_s_kept q_s_trace 0 s_status s_lane s_many s_item s_isle (upd (upd (upd (upd s_fresh_e30 (0 : Int32).toNatClampNeg 1) (1 : Int32).toNatClampNeg r_6) (2 : Int32).toNatClampNeg r_8) (3 : Int32).toNatClampNeg r_10) s_then s_was s_acts s_tape s_taped s_cursor_10 s_start_10 s_token_10 s_value_10 s_fault_10 s_faultAt_10 s_latest s_isKept s_kept s_trace s_traced 59 _ (s_cursor_11, s_start_11, s_token_11, s_value_11, s_fault_11, s_faultAt_11) hc_11) (cwV 1 hts gX9_isle_X9_mustSign rfl rfl rfl ⟨rfl, ddX9_mustSign⟩ ⟨Nat.le_of_ble_eq_true rfl, Nat.le_of_ble_eq_true rfl⟩) hK hP hD hS hA [0, 1, 2, 3, 4, 5, 6, 7, 8, 9, 10, 11] [] rfl rfl rfl rfl (by decide) [0, 1, 2, 3, 4, 5, 6, 7, 8, 9, 10, 11] rfl rfl rfl rfl rfl rfl rfl hl.1 (Nat.le_of_ble_eq_true rfl) ⟨Nat.zero_le _, Nat.zero_le _⟩ dX9_isle_106 (fun H locs hP hD hS => ?_)
  refine lv_aload_n hx hb dX9_isle_109 rfl (lv_at hl 0 rfl) ?_
  refine lv_aload_n hx hb dX9_isle_110 rfl (lv_at hl 0 rfl) ?_
  refine lv_bipush (v := 104) hx hb dX9_isle_111 (by decide) ?_
  obtain ⟨r_12, hc_12, h⟩ := bd1_of h
  refine cl_rV (As := [.int 104]) (rest := [.ref q_s]) ⟨hx, hb, hml, hown, hts⟩ (m_X9_isLetter l dC dI cI cZ q_s q_s_lane q_s_many q_s_item q_s_isle q_s_fresh q_s_then q_s_was q_s_tape q_s_isKept q_s_kept q_s_trace 0 s_status s_lane s_many s_item s_isle (upd (upd (upd (upd s_fresh_e30 (0 : Int32).toNatClampNeg 1) (1 : Int32).toNatClampNeg r_6) (2 : Int32).toNatClampNeg r_8) (3 : Int32).toNatClampNeg r_10) s_then s_was s_acts s_tape s_taped s_cursor_11 s_start_11 s_token_11 s_value_11 s_fault_11 s_faultAt_11 s_latest s_isKept s_kept s_trace s_traced 104 (r_12) hc_12) (cwV 1 hts gX9_isle_X9_isLetter rfl rfl rfl ⟨rfl, ddX9_isLetter⟩ ⟨Nat.le_of_ble_eq_true rfl, Nat.le_of_ble_eq_true rfl⟩) hK hP [0, 1, 2, 3, 4, 5, 6, 7, 8, 9, 10, 11] rfl rfl rfl rfl rfl hl.1 (Nat.le_of_ble_eq_true rfl) ⟨Nat.zero_le _, Nat.zero_le _⟩ dX9_isle_113 ?_
  obtain ⟨s_cursor_13, s_start_13, s_token_13, s_value_13, s_fault_13, s_faultAt_13, hc_13, h⟩ := bd6_of h
  refine cl_mVv (As := [.int r_12]) (rest := []) (ws' := (W_M cI cZ q_s q_s_lane q_s_many q_s_item q_s_isle q_s_fresh q_s_then q_s_was q_s_tape q_s_isKept q_s_kept q_s_trace 0 s_status s_lane s_many s_item s_isle (upd (upd (upd (upd s_fresh_e30 (0 : Int32).toNatClampNeg 1) (1 : Int32).toNatClampNeg r_6) (2 : Int32).toNatClampNeg r_8) (3 : Int32).toNatClampNeg r_10) s_then s_was s_acts s_tape s_taped s_cursor_13 s_start_13 s_token_13 s_value_13 s_fault_13 s_faultAt_13 s_latest s_isKept s_kept s_trace s_traced)) (wr := []) ⟨hx, hb, hml, hown, hts⟩ (m_X9_must l dC dI cI cZ q_s q_s_lane q_s_many q_s_item q_s_isle q_s_fresh q_s_then q_s_was q_s_tape q_s_isKept q_s_kept q_s_trace 0 s_status s_lane s_many s_item s_isle (upd (upd (upd (upd s_fresh_e30 (0 : Int32).toNatClampNeg 1) (1 : Int32).toNatClampNeg r_6) (2 : Int32).toNatClampNeg r_8) (3 : Int32).toNatClampNeg r_10) s_then s_was s_acts s_tape s_taped s_cursor_11 s_start_11 s_token_11 s_value_11 s_fault_11 s_faultAt_11 s_latest s_isKept s_kept s_trace s_traced r_12 _ (s_cursor_13, s_start_13, s_token_13, s_value_13, s_fault_13, s_faultAt_13) hc_13) (cwV 1 hts gX9_isle_X9_must rfl rfl rfl ⟨rfl, ddX9_must⟩ ⟨Nat.le_of_ble_eq_true rfl, Nat.le_of_ble_eq_true rfl⟩) hK hP hD hS hA [0, 1, 2, 3, 4, 5, 6, 7, 8, 9, 10, 11] [] rfl rfl rfl rfl (by decide) [0, 1, 2, 3, 4, 5, 6, 7, 8, 9, 10, 11] rfl rfl rfl rfl rfl rfl rfl hl.1 (Nat.le_of_ble_eq_true rfl) ⟨Nat.zero_le _, Nat.zero_le _⟩ dX9_isle_116 (fun H locs hP hD hS => ?_)
  refine lv_iconst (v := 0) hx hb dX9_isle_119 (by decide) ?_
  refine lv_istore_n (lv' := [(1, .int 0), (0, .ref q_s)]) hx hb dX9_isle_120 rfl hl (by decide) rfl (fun ls hl => ?_)
  have KL121 : ∀ (k121_190 : (Nat → Int32) → Int32 → Int32 → Int32 → Int32 → Int32 → Int32 → Option (Int32 × Int32 × (Nat → Int32) × (Nat → Int32) × Int32 × Int32 × Int32 × Int32 × Int32 × Int32 × Int32 × Int32 × Int32)) , (∀ (s_fresh_e190 : (Nat → Int32)) (s_cursor_e190 : Int32) (s_start_e190 : Int32) (s_token_e190 : Int32) (s_value_e190 : Int32) (s_fault_e190 : Int32) (s_faultAt_e190 : Int32) (H : Heap) (locs : List Loc) (ls : Array Slot), va_P (dC, dI) vwCl ((W_M cI cZ q_s q_s_lane q_s_many q_s_item q_s_isle q_s_fresh q_s_then q_s_was q_s_tape q_s_isKept q_s_kept q_s_trace 0 s_status s_lane s_many s_item s_isle s_fresh_e190 s_then s_was s_acts s_tape s_taped s_cursor_e190 s_start_e190 s_token_e190 s_value_e190 s_fault_e190 s_faultAt_e190 s_latest s_isKept s_kept s_trace s_traced)) H → va_D A ((W_M cI cZ q_s q_s_lane q_s_many q_s_item q_s_isle q_s_fresh q_s_then q_s_was q_s_tape q_s_isKept q_s_kept q_s_trace 0 s_status s_lane s_many s_item s_isle s_fresh_e190 s_then s_was s_acts s_tape s_taped s_cursor_e190 s_start_e190 s_token_e190 s_value_e190 s_fault_e190 s_faultAt_e190 s_latest s_isKept s_kept s_trace s_traced)) → va_S A s.heap H locs → lv_has ls 2 [(0, .ref q_s)] → k121_190 s_fresh_e190 s_cursor_e190 s_start_e190 s_token_e190 s_value_e190 s_fault_e190 s_faultAt_e190 = some res → W p l e (headSpec wsX9_isle rmX9_isle).room s m ([.ref q_s] : List Value).toArray below meth c H locs 0 0 QQ (F0 m 190 ls [])) → ∀ (n : Nat) (v1_h121 : Int32) (s_fresh_h121 : (Nat → Int32)) (s_cursor_h121 : Int32) (s_start_h121 : Int32) (s_token_h121 : Int32) (s_value_h121 : Int32) (s_fault_h121 : Int32) (s_faultAt_h121 : Int32) (H : Heap) (locs : List Loc) (ls : Array Slot), va_P (dC, dI) vwCl ((W_M cI cZ q_s q_s_lane q_s_many q_s_item q_s_isle q_s_fresh q_s_then q_s_was q_s_tape q_s_isKept q_s_kept q_s_trace 0 s_status s_lane s_many s_item s_isle s_fresh_h121 s_then s_was s_acts s_tape s_taped s_cursor_h121 s_start_h121 s_token_h121 s_value_h121 s_fault_h121 s_faultAt_h121 s_latest s_isKept s_kept s_trace s_traced)) H → va_D A ((W_M cI cZ q_s q_s_lane q_s_many q_s_item q_s_isle q_s_fresh q_s_then q_s_was q_s_tape q_s_isKept q_s_kept q_s_trace 0 s_status s_lane s_many s_item s_isle s_fresh_h121 s_then s_was s_acts s_tape s_taped s_cursor_h121 s_start_h121 s_token_h121 s_value_h121 s_fault_h121 s_faultAt_h121 s_latest s_isKept s_kept s_trace s_traced)) → va_S A s.heap H locs → lv_has ls 2 [(0, .ref q_s), (1, .int v1_h121)] → fX9_isle_L121 s_tape s_taped k121_190 n v1_h121 s_fresh_h121 s_cursor_h121 s_start_h121 s_token_h121 s_value_h121 s_fault_h121 s_faultAt_h121 = some res → W p l e (headSpec wsX9_isle rmX9_isle).room s m ([.ref q_s] : List Value).toArray below meth c H locs 0 0 QQ (F0 m 121 ls []) := by
    intro k121_190 Kk121_190 n
    induction n with
    | zero => intro v1_h121 s_fresh_h121 s_cursor_h121 s_start_h121 s_token_h121 s_value_h121 s_fault_h121 s_faultAt_h121 H locs ls hP hD hS hl h; rw [fX9_isle_L121.eq_1] at h; cases h
    | succ n ih =>
      intro v1_h121 s_fresh_h121 s_cursor_h121 s_start_h121 s_token_h121 s_value_h121 s_fault_h121 s_faultAt_h121 H locs ls hP hD hS hl h
      rw [fX9_isle_L121.eq_2] at h
      refine lv_iload_n hx hb dX9_isle_121 rfl (lv_at hl 1 rfl) ?_
      refine lv_bipush (v := 15) hx hb dX9_isle_122 (by decide) ?_
      refine lv_icmp_ge (tgt := 190) hx hb dX9_isle_124 (by decide) (fun c_14 => ?_) (fun c_14 => ?_)
      · have h := (if_pos c_14).symm.trans h
        exact Kk121_190 s_fresh_h121 s_cursor_h121 s_start_h121 s_token_h121 s_value_h121 s_fault_h121 s_faultAt_h121 _ _ _ hP hD hS (lv_sub hl [0] rfl) h
      · have h := (if_neg c_14).symm.trans h
        refine lv_aload_n hx hb dX9_isle_127 rfl (lv_at hl 0 rfl) ?_
        refine va_get (D := (dC, dI)) (ci := 7) (v := .int s_fault_h121) (C := RX9) (T := TX9) (N := 23) hx hb hts w_1 hown hK hP 0 rfl rfl 16 (by decide) w_3 (fun _ h9 => h9) rfl dX9_isle_128 ?_
        refine lv_if_ne (tgt := 190) hx hb dX9_isle_131 (by decide) (fun c_15 => ?_) (fun c_15 => ?_)
        · have h := (if_neg c_15).symm.trans h
          exact Kk121_190 s_fresh_h121 s_cursor_h121 s_start_h121 s_token_h121 s_value_h121 s_fault_h121 s_faultAt_h121 _ _ _ hP hD hS (lv_sub hl [0] rfl) h
        · have h := (if_pos c_15).symm.trans h
          refine lv_aload_n hx hb dX9_isle_134 rfl (lv_at hl 0 rfl) ?_
          refine va_get (D := (dC, dI)) (ci := 7) (v := .ref q_s_fresh) (C := RX9) (T := TX9) (N := 23) hx hb hts w_1 hown hK hP 0 rfl rfl 6 (by decide) w_2 (fun _ h9 => h9) rfl dX9_isle_135 ?_
          refine lv_bipush (v := 6) hx hb dX9_isle_138 (by decide) ?_
          refine lv_iload_n hx hb dX9_isle_140 rfl (lv_at hl 1 rfl) ?_
          refine lv_iadd hx hb dX9_isle_141 ?_
          refine lv_aload_n hx hb dX9_isle_142 rfl (lv_at hl 0 rfl) ?_
          refine va_get (D := (dC, dI)) (ci := 7) (v := .int s_value_h121) (C := RX9) (T := TX9) (N := 23) hx hb hts w_1 hown hK hP 0 rfl rfl 15 (by decide) w_4 (fun _ h9 => h9) rfl dX9_isle_143 ?_
          refine lv_bipush (v := 97) hx hb dX9_isle_146 (by decide) ?_
          refine lv_isub hx hb dX9_isle_148 ?_
          obtain ⟨b_16, h⟩ := chk_of h
          refine va_iast hx hb hK hP hD hS 5 0 rfl rfl (i := (6 + v1_h121)) (x := (s_value_h121 - 97)) b_16 dX9_isle_149 (fun H locs hP hD hS => ?_)
          have hP : va_P (dC, dI) vwCl ((W_M cI cZ q_s q_s_lane q_s_many q_s_item q_s_isle q_s_fresh q_s_then q_s_was q_s_tape q_s_isKept q_s_kept q_s_trace 0 s_status s_lane s_many s_item s_isle (upd s_fresh_h121 (6 + v1_h121).toNatClampNeg (s_value_h121 - 97)) s_then s_was s_acts s_tape s_taped s_cursor_h121 s_start_h121 s_token_h121 s_value_h121 s_fault_h121 s_faultAt_h121 s_latest s_isKept s_kept s_trace s_traced)) H := hP
          have hD : va_D A ((W_M cI cZ q_s q_s_lane q_s_many q_s_item q_s_isle q_s_fresh q_s_then q_s_was q_s_tape q_s_isKept q_s_kept q_s_trace 0 s_status s_lane s_many s_item s_isle (upd s_fresh_h121 (6 + v1_h121).toNatClampNeg (s_value_h121 - 97)) s_then s_was s_acts s_tape s_taped s_cursor_h121 s_start_h121 s_token_h121 s_value_h121 s_fault_h121 s_faultAt_h121 s_latest s_isKept s_kept s_trace s_traced)) := hD
          refine lv_aload_n hx hb dX9_isle_150 rfl (lv_at hl 0 rfl) ?_
          refine lv_aload_n hx hb dX9_isle_151 rfl (lv_at hl 0 rfl) ?_
          refine va_get (D := (dC, dI)) (ci := 7) (v := .int s_token_h121) (C := RX9) (T := TX9) (N := 23) hx hb hts w_1 hown hK hP 0 rfl rfl 14 (by decide) w_5 (fun _ h9 => h9) rfl dX9_isle_152 ?_
          refine lv_iconst (v := 2) hx hb dX9_isle_155 (by decide) ?_
          refine lv_icmp_ne (tgt := 180) hx hb dX9_isle_156 (by decide) (fun c_17 => ?_) (fun c_17 => ?_)
          · have h := (if_neg c_17).symm.trans h
            refine lv_iconst (v := 0) hx hb dX9_isle_180 (by decide) ?_
            obtain ⟨s_cursor_18, s_start_18, s_token_18, s_value_18, s_fault_18, s_faultAt_18, hc_18, h⟩ := bd6_of h
            refine cl_mVv (As := [.int 0]) (rest := []) (ws' := (W_M cI cZ q_s q_s_lane q_s_many q_s_item q_s_isle q_s_fresh q_s_then q_s_was q_s_tape q_s_isKept q_s_kept q_s_trace 0 s_status s_lane s_many s_item s_isle (upd s_fresh_h121 (6 + v1_h121).toNatClampNeg (s_value_h121 - 97)) s_then s_was s_acts s_tape s_taped s_cursor_18 s_start_18 s_token_18 s_value_18 s_fault_18 s_faultAt_18 s_latest s_isKept s_kept s_trace s_traced)) (wr := []) ⟨hx, hb, hml, hown, hts⟩ (m_X9_must l dC dI cI cZ q_s q_s_lane q_s_many q_s_item q_s_isle q_s_fresh q_s_then q_s_was q_s_tape q_s_isKept q_s_kept q_s_trace 0 s_status s_lane s_many s_item s_isle (upd s_fresh_h121 (6 + v1_h121).toNatClampNeg (s_value_h121 - 97)) s_then s_was s_acts s_tape s_taped s_cursor_h121 s_start_h121 s_token_h121 s_value_h121 s_fault_h121 s_faultAt_h121 s_latest s_isKept s_kept s_trace s_traced 0 _ (s_cursor_18, s_start_18, s_token_18, s_value_18, s_fault_18, s_faultAt_18) hc_18) (cwV 1 hts gX9_isle_X9_must rfl rfl rfl ⟨rfl, ddX9_must⟩ ⟨Nat.le_of_ble_eq_true rfl, Nat.le_of_ble_eq_true rfl⟩) hK hP hD hS hA [0, 1, 2, 3, 4, 5, 6, 7, 8, 9, 10, 11] [] rfl rfl rfl rfl (by decide) [0, 1, 2, 3, 4, 5, 6, 7, 8, 9, 10, 11] rfl rfl rfl rfl rfl rfl rfl hl.1 (Nat.le_of_ble_eq_true rfl) ⟨Nat.zero_le _, Nat.zero_le _⟩ dX9_isle_181 (fun H locs hP hD hS => ?_)
            refine lv_iinc (v := (v1_h121 + 1)) (lv' := [(1, .int (v1_h121 + 1)), (0, .ref q_s)]) hx hb dX9_isle_184 hl (k := 1) rfl rfl (by decide) rfl (fun ls hl => ?_)
            refine lv_goto (tgt := 121) hx hb dX9_isle_187 (by decide) ?_
            exact ih (v1_h121 + 1) (upd s_fresh_h121 (6 + v1_h121).toNatClampNeg (s_value_h121 - 97)) s_cursor_18 s_start_18 s_token_18 s_value_18 s_fault_18 s_faultAt_18 _ _ _ hP hD hS (lv_sub hl [1, 0] rfl) h
          · have h := (if_pos c_17).symm.trans h
            refine lv_aload_n hx hb dX9_isle_159 rfl (lv_at hl 0 rfl) ?_
            refine va_get (D := (dC, dI)) (ci := 7) (v := .int s_value_h121) (C := RX9) (T := TX9) (N := 23) hx hb hts w_1 hown hK hP 0 rfl rfl 15 (by decide) w_4 (fun _ h9 => h9) rfl dX9_isle_160 ?_
            refine lv_i2l hx hb dX9_isle_163 rfl ?_
            refine lv_ldc2 hx hb hown w_6 dX9_isle_164 ?_
            refine lv_ldc2 hx hb hown w_7 dX9_isle_167 ?_
            obtain ⟨r_19, hc_19, h⟩ := bd1_of h
            refine cl_pS (As := [.long s_value_h121.toInt64, .long 97, .long 106]) (rest := [.ref q_s]) ⟨hx, hb, hml, hown, hts⟩ (m_X9_in l s_value_h121.toInt64 97 106 (r_19) hc_19) (va_cwS 3 hts gX9_isle_X9_in rfl rfl rfl ddX9_in ⟨Nat.le_of_ble_eq_true rfl, Nat.le_of_ble_eq_true rfl⟩) rfl rfl hl.1 (Nat.le_of_ble_eq_true rfl) ⟨Nat.zero_le _, Nat.zero_le _⟩ dX9_isle_170 ?_
            refine lv_if_eq (tgt := 180) hx hb dX9_isle_173 (by decide) (fun c_20 => ?_) (fun c_20 => ?_)
            · have h := (if_pos c_20).symm.trans h
              refine lv_iconst (v := 0) hx hb dX9_isle_180 (by decide) ?_
              obtain ⟨s_cursor_21, s_start_21, s_token_21, s_value_21, s_fault_21, s_faultAt_21, hc_21, h⟩ := bd6_of h
              refine cl_mVv (As := [.int 0]) (rest := []) (ws' := (W_M cI cZ q_s q_s_lane q_s_many q_s_item q_s_isle q_s_fresh q_s_then q_s_was q_s_tape q_s_isKept q_s_kept q_s_trace 0 s_status s_lane s_many s_item s_isle (upd s_fresh_h121 (6 + v1_h121).toNatClampNeg (s_value_h121 - 97)) s_then s_was s_acts s_tape s_taped s_cursor_21 s_start_21 s_token_21 s_value_21 s_fault_21 s_faultAt_21 s_latest s_isKept s_kept s_trace s_traced)) (wr := []) ⟨hx, hb, hml, hown, hts⟩ (m_X9_must l dC dI cI cZ q_s q_s_lane q_s_many q_s_item q_s_isle q_s_fresh q_s_then q_s_was q_s_tape q_s_isKept q_s_kept q_s_trace 0 s_status s_lane s_many s_item s_isle (upd s_fresh_h121 (6 + v1_h121).toNatClampNeg (s_value_h121 - 97)) s_then s_was s_acts s_tape s_taped s_cursor_h121 s_start_h121 s_token_h121 s_value_h121 s_fault_h121 s_faultAt_h121 s_latest s_isKept s_kept s_trace s_traced 0 _ (s_cursor_21, s_start_21, s_token_21, s_value_21, s_fault_21, s_faultAt_21) hc_21) (cwV 1 hts gX9_isle_X9_must rfl rfl rfl ⟨rfl, ddX9_must⟩ ⟨Nat.le_of_ble_eq_true rfl, Nat.le_of_ble_eq_true rfl⟩) hK hP hD hS hA [0, 1, 2, 3, 4, 5, 6, 7, 8, 9, 10, 11] [] rfl rfl rfl rfl (by decide) [0, 1, 2, 3, 4, 5, 6, 7, 8, 9, 10, 11] rfl rfl rfl rfl rfl rfl rfl hl.1 (Nat.le_of_ble_eq_true rfl) ⟨Nat.zero_le _, Nat.zero_le _⟩ dX9_isle_181 (fun H locs hP hD hS => ?_)
              refine lv_iinc (v := (v1_h121 + 1)) (lv' := [(1, .int (v1_h121 + 1)), (0, .ref q_s)]) hx hb dX9_isle_184 hl (k := 1) rfl rfl (by decide) rfl (fun ls hl => ?_)
              refine lv_goto (tgt := 121) hx hb dX9_isle_187 (by decide) ?_
              exact ih (v1_h121 + 1) (upd s_fresh_h121 (6 + v1_h121).toNatClampNeg (s_value_h121 - 97)) s_cursor_21 s_start_21 s_token_21 s_value_21 s_fault_21 s_faultAt_21 _ _ _ hP hD hS (lv_sub hl [1, 0] rfl) h
            · have h := (if_neg c_20).symm.trans h
              refine lv_iconst (v := 1) hx hb dX9_isle_176 (by decide) ?_
              refine lv_goto (tgt := 181) hx hb dX9_isle_177 (by decide) ?_
              obtain ⟨s_cursor_22, s_start_22, s_token_22, s_value_22, s_fault_22, s_faultAt_22, hc_22, h⟩ := bd6_of h
              refine cl_mVv (As := [.int 1]) (rest := []) (ws' := (W_M cI cZ q_s q_s_lane q_s_many q_s_item q_s_isle q_s_fresh q_s_then q_s_was q_s_tape q_s_isKept q_s_kept q_s_trace 0 s_status s_lane s_many s_item s_isle (upd s_fresh_h121 (6 + v1_h121).toNatClampNeg (s_value_h121 - 97)) s_then s_was s_acts s_tape s_taped s_cursor_22 s_start_22 s_token_22 s_value_22 s_fault_22 s_faultAt_22 s_latest s_isKept s_kept s_trace s_traced)) (wr := []) ⟨hx, hb, hml, hown, hts⟩ (m_X9_must l dC dI cI cZ q_s q_s_lane q_s_many q_s_item q_s_isle q_s_fresh q_s_then q_s_was q_s_tape q_s_isKept q_s_kept q_s_trace 0 s_status s_lane s_many s_item s_isle (upd s_fresh_h121 (6 + v1_h121).toNatClampNeg (s_value_h121 - 97)) s_then s_was s_acts s_tape s_taped s_cursor_h121 s_start_h121 s_token_h121 s_value_h121 s_fault_h121 s_faultAt_h121 s_latest s_isKept s_kept s_trace s_traced 1 _ (s_cursor_22, s_start_22, s_token_22, s_value_22, s_fault_22, s_faultAt_22) hc_22) (cwV 1 hts gX9_isle_X9_must rfl rfl rfl ⟨rfl, ddX9_must⟩ ⟨Nat.le_of_ble_eq_true rfl, Nat.le_of_ble_eq_true rfl⟩) hK hP hD hS hA [0, 1, 2, 3, 4, 5, 6, 7, 8, 9, 10, 11] [] rfl rfl rfl rfl (by decide) [0, 1, 2, 3, 4, 5, 6, 7, 8, 9, 10, 11] rfl rfl rfl rfl rfl rfl rfl hl.1 (Nat.le_of_ble_eq_true rfl) ⟨Nat.zero_le _, Nat.zero_le _⟩ dX9_isle_181 (fun H locs hP hD hS => ?_)
              refine lv_iinc (v := (v1_h121 + 1)) (lv' := [(1, .int (v1_h121 + 1)), (0, .ref q_s)]) hx hb dX9_isle_184 hl (k := 1) rfl rfl (by decide) rfl (fun ls hl => ?_)
              refine lv_goto (tgt := 121) hx hb dX9_isle_187 (by decide) ?_
              exact ih (v1_h121 + 1) (upd s_fresh_h121 (6 + v1_h121).toNatClampNeg (s_value_h121 - 97)) s_cursor_22 s_start_22 s_token_22 s_value_22 s_fault_22 s_faultAt_22 _ _ _ hP hD hS (lv_sub hl [1, 0] rfl) h
  refine KL121 _ (fun s_fresh_e190 s_cursor_e190 s_start_e190 s_token_e190 s_value_e190 s_fault_e190 s_faultAt_e190 H locs ls hP hD hS hl h => ?_) FU 0 (upd (upd (upd (upd s_fresh_e30 (0 : Int32).toNatClampNeg 1) (1 : Int32).toNatClampNeg r_6) (2 : Int32).toNatClampNeg r_8) (3 : Int32).toNatClampNeg r_10) s_cursor_13 s_start_13 s_token_13 s_value_13 s_fault_13 s_faultAt_13 _ _ _ hP hD hS (lv_sub hl [1, 0] rfl) h
  refine lv_aload_n hx hb dX9_isle_190 rfl (lv_at hl 0 rfl) ?_
  refine lv_bipush (v := 59) hx hb dX9_isle_191 (by decide) ?_
  obtain ⟨s_cursor_23, s_start_23, s_token_23, s_value_23, s_fault_23, s_faultAt_23, hc_23, h⟩ := bd6_of h
  refine cl_mVv (As := [.int 59]) (rest := []) (ws' := (W_M cI cZ q_s q_s_lane q_s_many q_s_item q_s_isle q_s_fresh q_s_then q_s_was q_s_tape q_s_isKept q_s_kept q_s_trace 0 s_status s_lane s_many s_item s_isle s_fresh_e190 s_then s_was s_acts s_tape s_taped s_cursor_23 s_start_23 s_token_23 s_value_23 s_fault_23 s_faultAt_23 s_latest s_isKept s_kept s_trace s_traced)) (wr := []) ⟨hx, hb, hml, hown, hts⟩ (m_X9_mustSign l dC dI cI cZ q_s q_s_lane q_s_many q_s_item q_s_isle q_s_fresh q_s_then q_s_was q_s_tape q_s_isKept q_s_kept q_s_trace 0 s_status s_lane s_many s_item s_isle s_fresh_e190 s_then s_was s_acts s_tape s_taped s_cursor_e190 s_start_e190 s_token_e190 s_value_e190 s_fault_e190 s_faultAt_e190 s_latest s_isKept s_kept s_trace s_traced 59 _ (s_cursor_23, s_start_23, s_token_23, s_value_23, s_fault_23, s_faultAt_23) hc_23) (cwV 1 hts gX9_isle_X9_mustSign rfl rfl rfl ⟨rfl, ddX9_mustSign⟩ ⟨Nat.le_of_ble_eq_true rfl, Nat.le_of_ble_eq_true rfl⟩) hK hP hD hS hA [0, 1, 2, 3, 4, 5, 6, 7, 8, 9, 10, 11] [] rfl rfl rfl rfl (by decide) [0, 1, 2, 3, 4, 5, 6, 7, 8, 9, 10, 11] rfl rfl rfl rfl rfl rfl rfl hl.1 (Nat.le_of_ble_eq_true rfl) ⟨Nat.zero_le _, Nat.zero_le _⟩ dX9_isle_193 (fun H locs hP hD hS => ?_)
  refine lv_aload_n hx hb dX9_isle_196 rfl (lv_at hl 0 rfl) ?_
  obtain ⟨r_24, hc_24, h⟩ := bd1_of h
  refine cl_rV (As := []) (rest := []) ⟨hx, hb, hml, hown, hts⟩ (m_X9_isSort l dC dI cI cZ q_s q_s_lane q_s_many q_s_item q_s_isle q_s_fresh q_s_then q_s_was q_s_tape q_s_isKept q_s_kept q_s_trace 0 s_status s_lane s_many s_item s_isle s_fresh_e190 s_then s_was s_acts s_tape s_taped s_cursor_23 s_start_23 s_token_23 s_value_23 s_fault_23 s_faultAt_23 s_latest s_isKept s_kept s_trace s_traced (r_24) hc_24) (cwV 0 hts gX9_isle_X9_isSort rfl rfl rfl ⟨rfl, ddX9_isSort⟩ ⟨Nat.le_of_ble_eq_true rfl, Nat.le_of_ble_eq_true rfl⟩) hK hP [0, 1, 2, 3, 4, 5, 6, 7, 8, 9, 10, 11] rfl rfl rfl rfl rfl hl.1 (Nat.le_of_ble_eq_true rfl) ⟨Nat.zero_le _, Nat.zero_le _⟩ dX9_isle_197 ?_
  have KJ208 : ∀ (s_fault_j208 : Int32) (s_faultAt_j208 : Int32) (H : Heap) (locs : List Loc) (ls : Array Slot), va_P (dC, dI) vwCl ((W_M cI cZ q_s q_s_lane q_s_many q_s_item q_s_isle q_s_fresh q_s_then q_s_was q_s_tape q_s_isKept q_s_kept q_s_trace 0 s_status s_lane s_many s_item s_isle s_fresh_e190 s_then s_was s_acts s_tape s_taped s_cursor_23 s_start_23 s_token_23 s_value_23 s_fault_j208 s_faultAt_j208 s_latest s_isKept s_kept s_trace s_traced)) H → va_D A ((W_M cI cZ q_s q_s_lane q_s_many q_s_item q_s_isle q_s_fresh q_s_then q_s_was q_s_tape q_s_isKept q_s_kept q_s_trace 0 s_status s_lane s_many s_item s_isle s_fresh_e190 s_then s_was s_acts s_tape s_taped s_cursor_23 s_start_23 s_token_23 s_value_23 s_fault_j208 s_faultAt_j208 s_latest s_isKept s_kept s_trace s_traced)) → va_S A s.heap H locs → lv_has ls 2 [(0, .ref q_s)] → fX9_isle_J208 s_isle s_acts s_tape s_taped s_latest s_fresh_e190 s_cursor_23 s_start_23 s_token_23 s_value_23 s_fault_j208 s_faultAt_j208 = some res → W p l e (headSpec wsX9_isle rmX9_isle).room s m ([.ref q_s] : List Value).toArray below meth c H locs 0 0 QQ (F0 m 208 ls []) := by
    intro s_fault_j208 s_faultAt_j208 H locs ls hP hD hS hl h
    unfold fX9_isle_J208 at h
    have KL208 : ∀ (k208_222 : (Nat → Int32) → Int32 → Int32 → Int32 → Int32 → Int32 → Int32 → Option (Int32 × Int32 × (Nat → Int32) × (Nat → Int32) × Int32 × Int32 × Int32 × Int32 × Int32 × Int32 × Int32 × Int32 × Int32)) , (∀ (s_fresh_e222 : (Nat → Int32)) (s_cursor_e222 : Int32) (s_start_e222 : Int32) (s_token_e222 : Int32) (s_value_e222 : Int32) (s_fault_e222 : Int32) (s_faultAt_e222 : Int32) (H : Heap) (locs : List Loc) (ls : Array Slot), va_P (dC, dI) vwCl ((W_M cI cZ q_s q_s_lane q_s_many q_s_item q_s_isle q_s_fresh q_s_then q_s_was q_s_tape q_s_isKept q_s_kept q_s_trace 0 s_status s_lane s_many s_item s_isle s_fresh_e222 s_then s_was s_acts s_tape s_taped s_cursor_e222 s_start_e222 s_token_e222 s_value_e222 s_fault_e222 s_faultAt_e222 s_latest s_isKept s_kept s_trace s_traced)) H → va_D A ((W_M cI cZ q_s q_s_lane q_s_many q_s_item q_s_isle q_s_fresh q_s_then q_s_was q_s_tape q_s_isKept q_s_kept q_s_trace 0 s_status s_lane s_many s_item s_isle s_fresh_e222 s_then s_was s_acts s_tape s_taped s_cursor_e222 s_start_e222 s_token_e222 s_value_e222 s_fault_e222 s_faultAt_e222 s_latest s_isKept s_kept s_trace s_traced)) → va_S A s.heap H locs → lv_has ls 2 [(0, .ref q_s)] → k208_222 s_fresh_e222 s_cursor_e222 s_start_e222 s_token_e222 s_value_e222 s_fault_e222 s_faultAt_e222 = some res → W p l e (headSpec wsX9_isle rmX9_isle).room s m ([.ref q_s] : List Value).toArray below meth c H locs 0 0 QQ (F0 m 222 ls [])) → ∀ (n : Nat) (s_fresh_h208 : (Nat → Int32)) (s_cursor_h208 : Int32) (s_start_h208 : Int32) (s_token_h208 : Int32) (s_value_h208 : Int32) (s_fault_h208 : Int32) (s_faultAt_h208 : Int32) (H : Heap) (locs : List Loc) (ls : Array Slot), va_P (dC, dI) vwCl ((W_M cI cZ q_s q_s_lane q_s_many q_s_item q_s_isle q_s_fresh q_s_then q_s_was q_s_tape q_s_isKept q_s_kept q_s_trace 0 s_status s_lane s_many s_item s_isle s_fresh_h208 s_then s_was s_acts s_tape s_taped s_cursor_h208 s_start_h208 s_token_h208 s_value_h208 s_fault_h208 s_faultAt_h208 s_latest s_isKept s_kept s_trace s_traced)) H → va_D A ((W_M cI cZ q_s q_s_lane q_s_many q_s_item q_s_isle q_s_fresh q_s_then q_s_was q_s_tape q_s_isKept q_s_kept q_s_trace 0 s_status s_lane s_many s_item s_isle s_fresh_h208 s_then s_was s_acts s_tape s_taped s_cursor_h208 s_start_h208 s_token_h208 s_value_h208 s_fault_h208 s_faultAt_h208 s_latest s_isKept s_kept s_trace s_traced)) → va_S A s.heap H locs → lv_has ls 2 [(0, .ref q_s)] → fX9_isle_L208 s_tape s_taped k208_222 n s_fresh_h208 s_cursor_h208 s_start_h208 s_token_h208 s_value_h208 s_fault_h208 s_faultAt_h208 = some res → W p l e (headSpec wsX9_isle rmX9_isle).room s m ([.ref q_s] : List Value).toArray below meth c H locs 0 0 QQ (F0 m 208 ls []) := by
      intro k208_222 Kk208_222 n
      induction n with
      | zero => intro s_fresh_h208 s_cursor_h208 s_start_h208 s_token_h208 s_value_h208 s_fault_h208 s_faultAt_h208 H locs ls hP hD hS hl h; rw [fX9_isle_L208.eq_1] at h; cases h
      | succ n ih =>
        intro s_fresh_h208 s_cursor_h208 s_start_h208 s_token_h208 s_value_h208 s_fault_h208 s_faultAt_h208 H locs ls hP hD hS hl h
        rw [fX9_isle_L208.eq_2] at h
        refine lv_aload_n hx hb dX9_isle_208 rfl (lv_at hl 0 rfl) ?_
        obtain ⟨r_25, hc_25, h⟩ := bd1_of h
        refine cl_rV (As := []) (rest := []) ⟨hx, hb, hml, hown, hts⟩ (m_X9_isSort l dC dI cI cZ q_s q_s_lane q_s_many q_s_item q_s_isle q_s_fresh q_s_then q_s_was q_s_tape q_s_isKept q_s_kept q_s_trace 0 s_status s_lane s_many s_item s_isle s_fresh_h208 s_then s_was s_acts s_tape s_taped s_cursor_h208 s_start_h208 s_token_h208 s_value_h208 s_fault_h208 s_faultAt_h208 s_latest s_isKept s_kept s_trace s_traced (r_25) hc_25) (cwV 0 hts gX9_isle_X9_isSort rfl rfl rfl ⟨rfl, ddX9_isSort⟩ ⟨Nat.le_of_ble_eq_true rfl, Nat.le_of_ble_eq_true rfl⟩) hK hP [0, 1, 2, 3, 4, 5, 6, 7, 8, 9, 10, 11] rfl rfl rfl rfl rfl hl.1 (Nat.le_of_ble_eq_true rfl) ⟨Nat.zero_le _, Nat.zero_le _⟩ dX9_isle_209 ?_
        refine lv_if_eq (tgt := 222) hx hb dX9_isle_212 (by decide) (fun c_26 => ?_) (fun c_26 => ?_)
        · have h := (if_pos c_26).symm.trans h
          exact Kk208_222 s_fresh_h208 s_cursor_h208 s_start_h208 s_token_h208 s_value_h208 s_fault_h208 s_faultAt_h208 _ _ _ hP hD hS (lv_sub hl [0] rfl) h
        · have h := (if_neg c_26).symm.trans h
          refine lv_aload_n hx hb dX9_isle_215 rfl (lv_at hl 0 rfl) ?_
          obtain ⟨s_fresh_27, s_cursor_27, s_start_27, s_token_27, s_value_27, s_fault_27, s_faultAt_27, hc_27, h⟩ := bd7_of h
          refine cl_mVv (As := []) (rest := []) (ws' := (W_M cI cZ q_s q_s_lane q_s_many q_s_item q_s_isle q_s_fresh q_s_then q_s_was q_s_tape q_s_isKept q_s_kept q_s_trace 0 s_status s_lane s_many s_item s_isle s_fresh_27 s_then s_was s_acts s_tape s_taped s_cursor_27 s_start_27 s_token_27 s_value_27 s_fault_27 s_faultAt_27 s_latest s_isKept s_kept s_trace s_traced)) (wr := []) ⟨hx, hb, hml, hown, hts⟩ (m_X9_readBidder l dC dI cI cZ q_s q_s_lane q_s_many q_s_item q_s_isle q_s_fresh q_s_then q_s_was q_s_tape q_s_isKept q_s_kept q_s_trace 0 s_status s_lane s_many s_item s_isle s_fresh_h208 s_then s_was s_acts s_tape s_taped s_cursor_h208 s_start_h208 s_token_h208 s_value_h208 s_fault_h208 s_faultAt_h208 s_latest s_isKept s_kept s_trace s_traced _ (s_fresh_27, s_cursor_27, s_start_27, s_token_27, s_value_27, s_fault_27, s_faultAt_27) hc_27) (cwV 0 hts gX9_isle_X9_readBidder rfl rfl rfl ⟨rfl, ddX9_readBidder⟩ ⟨Nat.le_of_ble_eq_true rfl, Nat.le_of_ble_eq_true rfl⟩) hK hP hD hS hA [0, 1, 2, 3, 4, 5, 6, 7, 8, 9, 10, 11] [] rfl rfl rfl rfl (by decide) [0, 1, 2, 3, 4, 5, 6, 7, 8, 9, 10, 11] rfl rfl rfl rfl rfl rfl rfl hl.1 (Nat.le_of_ble_eq_true rfl) ⟨Nat.zero_le _, Nat.zero_le _⟩ dX9_isle_216 (fun H locs hP hD hS => ?_)
          refine lv_goto (tgt := 208) hx hb dX9_isle_219 (by decide) ?_
          exact ih s_fresh_27 s_cursor_27 s_start_27 s_token_27 s_value_27 s_fault_27 s_faultAt_27 _ _ _ hP hD hS (lv_sub hl [0] rfl) h
    refine KL208 _ (fun s_fresh_e222 s_cursor_e222 s_start_e222 s_token_e222 s_value_e222 s_fault_e222 s_faultAt_e222 H locs ls hP hD hS hl h => ?_) FU s_fresh_e190 s_cursor_23 s_start_23 s_token_23 s_value_23 s_fault_j208 s_faultAt_j208 _ _ _ hP hD hS (lv_sub hl [0] rfl) h
    refine lv_aload_n hx hb dX9_isle_222 rfl (lv_at hl 0 rfl) ?_
    obtain ⟨r_28, s_taped_28, s_fault_28, s_faultAt_28, s_latest_28, hc_28, h⟩ := bd5_of h
    refine cl_mVi (As := []) (rest := []) (ws' := (W_M cI cZ q_s q_s_lane q_s_many q_s_item q_s_isle q_s_fresh q_s_then q_s_was q_s_tape q_s_isKept q_s_kept q_s_trace 0 s_status s_lane s_many s_item s_isle s_fresh_e222 s_then s_was s_acts s_tape s_taped_28 s_cursor_e222 s_start_e222 s_token_e222 s_value_e222 s_fault_28 s_faultAt_28 s_latest_28 s_isKept s_kept s_trace s_traced)) (wr := []) ⟨hx, hb, hml, hown, hts⟩ (m_X9_failed l dC dI cI cZ q_s q_s_lane q_s_many q_s_item q_s_isle q_s_fresh q_s_then q_s_was q_s_tape q_s_isKept q_s_kept q_s_trace 0 s_status s_lane s_many s_item s_isle s_fresh_e222 s_then s_was s_acts s_tape s_taped s_cursor_e222 s_start_e222 s_token_e222 s_value_e222 s_fault_e222 s_faultAt_e222 s_latest s_isKept s_kept s_trace s_traced _ (r_28, s_taped_28, s_fault_28, s_faultAt_28, s_latest_28) hc_28) (cwV 0 hts gX9_isle_X9_failed rfl rfl rfl ⟨rfl, ddX9_failed⟩ ⟨Nat.le_of_ble_eq_true rfl, Nat.le_of_ble_eq_true rfl⟩) hK hP hD hS hA [0, 1, 2, 3, 4, 5, 6, 7, 8, 9, 10, 11] [] rfl rfl rfl rfl (by decide) [0, 1, 2, 3, 4, 5, 6, 7, 8, 9, 10, 11] rfl rfl rfl rfl rfl rfl rfl hl.1 (Nat.le_of_ble_eq_true rfl) ⟨Nat.zero_le _, Nat.zero_le _⟩ dX9_isle_223 (fun H locs hP hD hS => ?_)
    refine lv_if_eq (tgt := 237) hx hb dX9_isle_226 (by decide) (fun c_29 => ?_) (fun c_29 => ?_)
    · have h := (if_pos c_29).symm.trans h
      refine lv_aload_n hx hb dX9_isle_237 rfl (lv_at hl 0 rfl) ?_
      refine lv_iconst (v := 0) hx hb dX9_isle_238 (by decide) ?_
      refine va_put (D := (dC, dI)) (ci := 7) (v := .int 0) (ty := .int) (C := RX9) (T := TX9) (N := 23) hx hb hts w_1 tyX9 tyX9_ok nmX9 hown hK hP hD hS 0 rfl rfl 9 (by decide) w_8 (fun _ h9 => h9) rfl (by decide +kernel) rfl rfl (Nat.le_of_ble_eq_true rfl) dX9_isle_239 (fun H locs hP hD hS => ?_)
      have hP : va_P (dC, dI) vwCl ((W_M cI cZ q_s q_s_lane q_s_many q_s_item q_s_isle q_s_fresh q_s_then q_s_was q_s_tape q_s_isKept q_s_kept q_s_trace 0 s_status s_lane s_many s_item s_isle s_fresh_e222 s_then s_was 0 s_tape s_taped_28 s_cursor_e222 s_start_e222 s_token_e222 s_value_e222 s_fault_28 s_faultAt_28 s_latest_28 s_isKept s_kept s_trace s_traced)) H := hP
      have hD : va_D A ((W_M cI cZ q_s q_s_lane q_s_many q_s_item q_s_isle q_s_fresh q_s_then q_s_was q_s_tape q_s_isKept q_s_kept q_s_trace 0 s_status s_lane s_many s_item s_isle s_fresh_e222 s_then s_was 0 s_tape s_taped_28 s_cursor_e222 s_start_e222 s_token_e222 s_value_e222 s_fault_28 s_faultAt_28 s_latest_28 s_isKept s_kept s_trace s_traced)) := hD
      refine lv_iconst (v := 0) hx hb dX9_isle_242 (by decide) ?_
      refine lv_istore_n (lv' := [(1, .int 0), (0, .ref q_s)]) hx hb dX9_isle_243 rfl hl (by decide) rfl (fun ls hl => ?_)
      have KL244 : ∀ (k244_268 : (Nat → Int32) → Option (Int32 × Int32 × (Nat → Int32) × (Nat → Int32) × Int32 × Int32 × Int32 × Int32 × Int32 × Int32 × Int32 × Int32 × Int32)) , (∀ (s_isle_e268 : (Nat → Int32)) (H : Heap) (locs : List Loc) (ls : Array Slot), va_P (dC, dI) vwCl ((W_M cI cZ q_s q_s_lane q_s_many q_s_item q_s_isle q_s_fresh q_s_then q_s_was q_s_tape q_s_isKept q_s_kept q_s_trace 0 s_status s_lane s_many s_item s_isle_e268 s_fresh_e222 s_then s_was 0 s_tape s_taped_28 s_cursor_e222 s_start_e222 s_token_e222 s_value_e222 s_fault_28 s_faultAt_28 s_latest_28 s_isKept s_kept s_trace s_traced)) H → va_D A ((W_M cI cZ q_s q_s_lane q_s_many q_s_item q_s_isle q_s_fresh q_s_then q_s_was q_s_tape q_s_isKept q_s_kept q_s_trace 0 s_status s_lane s_many s_item s_isle_e268 s_fresh_e222 s_then s_was 0 s_tape s_taped_28 s_cursor_e222 s_start_e222 s_token_e222 s_value_e222 s_fault_28 s_faultAt_28 s_latest_28 s_isKept s_kept s_trace s_traced)) → va_S A s.heap H locs → lv_has ls 2 [(0, .ref q_s)] → k244_268 s_isle_e268 = some res → W p l e (headSpec wsX9_isle rmX9_isle).room s m ([.ref q_s] : List Value).toArray below meth c H locs 0 0 QQ (F0 m 268 ls [])) → ∀ (n : Nat) (v1_h244 : Int32) (s_isle_h244 : (Nat → Int32)) (H : Heap) (locs : List Loc) (ls : Array Slot), va_P (dC, dI) vwCl ((W_M cI cZ q_s q_s_lane q_s_many q_s_item q_s_isle q_s_fresh q_s_then q_s_was q_s_tape q_s_isKept q_s_kept q_s_trace 0 s_status s_lane s_many s_item s_isle_h244 s_fresh_e222 s_then s_was 0 s_tape s_taped_28 s_cursor_e222 s_start_e222 s_token_e222 s_value_e222 s_fault_28 s_faultAt_28 s_latest_28 s_isKept s_kept s_trace s_traced)) H → va_D A ((W_M cI cZ q_s q_s_lane q_s_many q_s_item q_s_isle q_s_fresh q_s_then q_s_was q_s_tape q_s_isKept q_s_kept q_s_trace 0 s_status s_lane s_many s_item s_isle_h244 s_fresh_e222 s_then s_was 0 s_tape s_taped_28 s_cursor_e222 s_start_e222 s_token_e222 s_value_e222 s_fault_28 s_faultAt_28 s_latest_28 s_isKept s_kept s_trace s_traced)) → va_S A s.heap H locs → lv_has ls 2 [(0, .ref q_s), (1, .int v1_h244)] → fX9_isle_L244 s_fresh_e222 k244_268 n v1_h244 s_isle_h244 = some res → W p l e (headSpec wsX9_isle rmX9_isle).room s m ([.ref q_s] : List Value).toArray below meth c H locs 0 0 QQ (F0 m 244 ls []) := by
        intro k244_268 Kk244_268 n
        induction n with
        | zero => intro v1_h244 s_isle_h244 H locs ls hP hD hS hl h; rw [fX9_isle_L244.eq_1] at h; cases h
        | succ n ih =>
          intro v1_h244 s_isle_h244 H locs ls hP hD hS hl h
          rw [fX9_isle_L244.eq_2] at h
          refine lv_iload_n hx hb dX9_isle_244 rfl (lv_at hl 1 rfl) ?_
          refine lv_bipush (v := 51) hx hb dX9_isle_245 (by decide) ?_
          refine lv_icmp_ge (tgt := 268) hx hb dX9_isle_247 (by decide) (fun c_30 => ?_) (fun c_30 => ?_)
          · have h := (if_pos c_30).symm.trans h
            exact Kk244_268 s_isle_h244 _ _ _ hP hD hS (lv_sub hl [0] rfl) h
          · have h := (if_neg c_30).symm.trans h
            refine lv_aload_n hx hb dX9_isle_250 rfl (lv_at hl 0 rfl) ?_
            refine va_get (D := (dC, dI)) (ci := 7) (v := .ref q_s_isle) (C := RX9) (T := TX9) (N := 23) hx hb hts w_1 hown hK hP 0 rfl rfl 5 (by decide) w_9 (fun _ h9 => h9) rfl dX9_isle_251 ?_
            refine lv_iload_n hx hb dX9_isle_254 rfl (lv_at hl 1 rfl) ?_
            refine lv_aload_n hx hb dX9_isle_255 rfl (lv_at hl 0 rfl) ?_
            refine va_get (D := (dC, dI)) (ci := 7) (v := .ref q_s_fresh) (C := RX9) (T := TX9) (N := 23) hx hb hts w_1 hown hK hP 0 rfl rfl 6 (by decide) w_2 (fun _ h9 => h9) rfl dX9_isle_256 ?_
            refine lv_iload_n hx hb dX9_isle_259 rfl (lv_at hl 1 rfl) ?_
            obtain ⟨b_31, h⟩ := chk_of h
            refine va_iald hx hb hK hP 5 0 rfl rfl (i := v1_h244) b_31 dX9_isle_260 ?_
            obtain ⟨b_32, h⟩ := chk_of h
            refine va_iast hx hb hK hP hD hS 4 0 rfl rfl (i := v1_h244) (x := (s_fresh_e222 v1_h244.toNatClampNeg)) b_32 dX9_isle_261 (fun H locs hP hD hS => ?_)
            have hP : va_P (dC, dI) vwCl ((W_M cI cZ q_s q_s_lane q_s_many q_s_item q_s_isle q_s_fresh q_s_then q_s_was q_s_tape q_s_isKept q_s_kept q_s_trace 0 s_status s_lane s_many s_item (upd s_isle_h244 v1_h244.toNatClampNeg (s_fresh_e222 v1_h244.toNatClampNeg)) s_fresh_e222 s_then s_was 0 s_tape s_taped_28 s_cursor_e222 s_start_e222 s_token_e222 s_value_e222 s_fault_28 s_faultAt_28 s_latest_28 s_isKept s_kept s_trace s_traced)) H := hP
            have hD : va_D A ((W_M cI cZ q_s q_s_lane q_s_many q_s_item q_s_isle q_s_fresh q_s_then q_s_was q_s_tape q_s_isKept q_s_kept q_s_trace 0 s_status s_lane s_many s_item (upd s_isle_h244 v1_h244.toNatClampNeg (s_fresh_e222 v1_h244.toNatClampNeg)) s_fresh_e222 s_then s_was 0 s_tape s_taped_28 s_cursor_e222 s_start_e222 s_token_e222 s_value_e222 s_fault_28 s_faultAt_28 s_latest_28 s_isKept s_kept s_trace s_traced)) := hD
            refine lv_iinc (v := (v1_h244 + 1)) (lv' := [(1, .int (v1_h244 + 1)), (0, .ref q_s)]) hx hb dX9_isle_262 hl (k := 1) rfl rfl (by decide) rfl (fun ls hl => ?_)
            refine lv_goto (tgt := 244) hx hb dX9_isle_265 (by decide) ?_
            exact ih (v1_h244 + 1) (upd s_isle_h244 v1_h244.toNatClampNeg (s_fresh_e222 v1_h244.toNatClampNeg)) _ _ _ hP hD hS (lv_sub hl [1, 0] rfl) h
      refine KL244 _ (fun s_isle_e268 H locs ls hP hD hS hl h => ?_) FU 0 s_isle _ _ _ hP hD hS (lv_sub hl [1, 0] rfl) h
      refine lv_aload_n hx hb dX9_isle_268 rfl (lv_at hl 0 rfl) ?_
      refine va_get (D := (dC, dI)) (ci := 7) (v := .ref q_s_isle) (C := RX9) (T := TX9) (N := 23) hx hb hts w_1 hown hK hP 0 rfl rfl 5 (by decide) w_9 (fun _ h9 => h9) rfl dX9_isle_269 ?_
      refine lv_iconst (v := 4) hx hb dX9_isle_272 (by decide) ?_
      refine va_iald hx hb hK hP 4 0 rfl rfl (i := 4) (show ¬ ((4 : Int32) < 0 ∨ 51 ≤ (4 : Int32).toNatClampNeg) by decide +kernel) dX9_isle_273 ?_
      have h := Option.some.inj h
      subst h
      rw [hQQ]
      subst hAe
      exact W.iret (v := (s_isle_e268 (4 : Int32).toNatClampNeg)) hx hb hr (fun t ht hW => ⟨⟨_, (), rfl, rfl, by rw [ht]; exact hP, va_K.moved hW.alike hK, hD⟩, hS.F ht⟩) hS.2.2 dX9_isle_274
    · have h := (if_neg c_29).symm.trans h
      refine lv_ldc hx hb hown w_10 dX9_isle_229 ?_
      refine lv_aload_n hx hb dX9_isle_231 rfl (lv_at hl 0 rfl) ?_
      refine va_get (D := (dC, dI)) (ci := 7) (v := .int s_faultAt_28) (C := RX9) (T := TX9) (N := 23) hx hb hts w_1 hown hK hP 0 rfl rfl 17 (by decide) w_11 (fun _ h9 => h9) rfl dX9_isle_232 ?_
      refine lv_isub hx hb dX9_isle_235 ?_
      have h := Option.some.inj h
      subst h
      rw [hQQ]
      subst hAe
      exact W.iret (v := ((-1000100) - s_faultAt_28)) hx hb hr (fun t ht hW => ⟨⟨_, (), rfl, rfl, by rw [ht]; exact hP, va_K.moved hW.alike hK, hD⟩, hS.F ht⟩) hS.2.2 dX9_isle_236
  refine lv_if_ne (tgt := 208) hx hb dX9_isle_200 (by decide) (fun c_33 => ?_) (fun c_33 => ?_)
  · have h := (if_neg c_33).symm.trans h
    exact KJ208 s_fault_23 s_faultAt_23 _ _ _ hP hD hS (lv_sub hl [0] rfl) h
  · have h := (if_pos c_33).symm.trans h
    refine lv_aload_n hx hb dX9_isle_203 rfl (lv_at hl 0 rfl) ?_
    refine lv_iconst (v := 1) hx hb dX9_isle_204 (by decide) ?_
    obtain ⟨s_fault_34, s_faultAt_34, hc_34, h⟩ := bd2_of h
    refine cl_mVv (As := [.int 1]) (rest := []) (ws' := (W_M cI cZ q_s q_s_lane q_s_many q_s_item q_s_isle q_s_fresh q_s_then q_s_was q_s_tape q_s_isKept q_s_kept q_s_trace 0 s_status s_lane s_many s_item s_isle s_fresh_e190 s_then s_was s_acts s_tape s_taped s_cursor_23 s_start_23 s_token_23 s_value_23 s_fault_34 s_faultAt_34 s_latest s_isKept s_kept s_trace s_traced)) (wr := []) ⟨hx, hb, hml, hown, hts⟩ (m_X9_bad l dC dI cI cZ q_s q_s_lane q_s_many q_s_item q_s_isle q_s_fresh q_s_then q_s_was q_s_tape q_s_isKept q_s_kept q_s_trace 0 s_status s_lane s_many s_item s_isle s_fresh_e190 s_then s_was s_acts s_tape s_taped s_cursor_23 s_start_23 s_token_23 s_value_23 s_fault_23 s_faultAt_23 s_latest s_isKept s_kept s_trace s_traced 1 _ (s_fault_34, s_faultAt_34) hc_34) (cwV 1 hts gX9_isle_X9_bad rfl rfl rfl ⟨rfl, ddX9_bad⟩ ⟨Nat.le_of_ble_eq_true rfl, Nat.le_of_ble_eq_true rfl⟩) hK hP hD hS hA [0, 1, 2, 3, 4, 5, 6, 7, 8, 9, 10, 11] [] rfl rfl rfl rfl (by decide) [0, 1, 2, 3, 4, 5, 6, 7, 8, 9, 10, 11] rfl rfl rfl rfl rfl rfl rfl hl.1 (Nat.le_of_ble_eq_true rfl) ⟨Nat.zero_le _, Nat.zero_le _⟩ dX9_isle_205 (fun H locs hP hD hS => ?_)
    exact KJ208 s_fault_34 s_faultAt_34 _ _ _ hP hD hS (lv_sub hl [0] rfl) h
def fX9_isThere (s_isle : (Nat → Int32)) : Option (Int32) :=
  (if (s_isle (0 : Int32).toNatClampNeg) = 1 then some (1) else some (0))
abbrev rmX9_isThere : Room := { frames := 0, cells := 0, slots := 0, locals := 0 }
theorem ddX9_isThere : yX9_isThere.cls ≠ "java/lang/invoke/MethodHandle" ∧ yX9_isThere.cls ≠ "java/lang/invoke/VarHandle" ∧ (parseMethodDescriptor yX9_isThere.desc).map (fun d => d.parameters.length) = some 0 := by decide +kernel
set_option maxHeartbeats 4000000 in
set_option maxRecDepth 100000 in
theorem m_X9_isThere (l : Launch) (dC : Nat → ClassId) (dI : Nat → Nat → Nat) (cI cZ : ClassId) (q_s q_s_lane q_s_many q_s_item q_s_isle q_s_fresh q_s_then q_s_was q_s_tape q_s_isKept q_s_kept q_s_trace : Nat) (s_thrown : Int32) (s_status : Int32) (s_lane : (Nat → Int32)) (s_many : (Nat → Int32)) (s_item : (Nat → Int32)) (s_isle : (Nat → Int32)) (s_fresh : (Nat → Int32)) (s_then : (Nat → Int32)) (s_was : (Nat → Int32)) (s_acts : Int32) (s_tape : (Nat → Int32)) (s_taped : Int32) (s_cursor : Int32) (s_start : Int32) (s_token : Int32) (s_value : Int32) (s_fault : Int32) (s_faultAt : Int32) (s_latest : Int32) (s_isKept : (Nat → Int32)) (s_kept : (Nat → Int32)) (s_trace : (Nat → Int32)) (s_traced : Int32) (res : Int32) (hf : fX9_isThere s_isle = some res) : Met l yX9_isThere wsX9_isThere rmX9_isThere (rdPc (dC, dI) (tyZ cI cZ) ((W_M cI cZ q_s q_s_lane q_s_many q_s_item q_s_isle q_s_fresh q_s_then q_s_was q_s_tape q_s_isKept q_s_kept q_s_trace s_thrown s_status s_lane s_many s_item s_isle s_fresh s_then s_was s_acts s_tape s_taped s_cursor s_start s_token s_value s_fault s_faultAt s_latest s_isKept s_kept s_trace s_traced)) [.ref q_s]) (rdQ res) 0 0 (fun _ => False) := by
  refine Met.ofW (cc := cX9_isThere) (maxL := 1) (ret := (some .boolean)) (by decide) rfl ?_
  intro p e s m args below meth c s₁ B hml hv
  obtain ⟨rfl, hP, hK⟩ := hv
  have hx := B.exec
  have hb := B.bytes
  have hr := B.returns
  have hts := atoms_spec (ws := wsX9_isThere) B.pre
  have hown : s.vm.findClass RX9 = some m.cls := findClass_of_methodNamed B.named
  have hlocks := B.notSynchronized
  have hl := lv_entry ([.ref q_s]) (n := 1) (Nat.le_of_ble_eq_true rfl)
  rw [lg_entry_eq]
  generalize (lg_sl ([.ref q_s]) ++ List.replicate (1 - (lg_sl ([.ref q_s])).length) Slot.unset).toArray = ls at hl ⊢
  have hl : lv_has ls 1 [(0, .ref q_s)] := hl
  obtain ⟨QQ, hQQ⟩ : ∃ Q, Q = MQ below (rdQ res) ([.ref q_s] : List Value).toArray s 0 0 (fun _ => False) := ⟨_, rfl⟩
  rw [← hQQ]
  have w_0 := hts (Cond.fieldLink RX9 19 "TideInchesModel" "isle" "[I") (List.mem_of_getElem? (i := 1) rfl)
  have w_1 := (fun w hw => List.mem_cons_of_mem _ (List.mem_append_right _ hw) : ∀ w ∈ wsX90, w ∈ wsX9_isThere)
  have h := hf
  unfold fX9_isThere at h
  refine lv_aload_n hx hb dX9_isThere_0 rfl (lv_at hl 0 rfl) ?_
  refine va_get (D := (dC, dI)) (ci := 7) (v := .ref q_s_isle) (C := RX9) (T := TX9) (N := 23) hx hb hts w_1 hown hK hP 0 rfl rfl 5 (by decide) w_0 (fun _ h9 => h9) rfl dX9_isThere_1 ?_
  refine lv_iconst (v := 0) hx hb dX9_isThere_4 (by decide) ?_
  refine va_iald hx hb hK hP 4 0 rfl rfl (i := 0) (show ¬ ((0 : Int32) < 0 ∨ 51 ≤ (0 : Int32).toNatClampNeg) by decide +kernel) dX9_isThere_5 ?_
  refine lv_iconst (v := 1) hx hb dX9_isThere_6 (by decide) ?_
  refine lv_icmp_ne (tgt := 14) hx hb dX9_isThere_7 (by decide) (fun c_1 => ?_) (fun c_1 => ?_)
  · have h := (if_neg c_1).symm.trans h
    refine lv_iconst (v := 0) hx hb dX9_isThere_14 (by decide) ?_
    rw [hQQ]
    exact W.zret (v := 0) (ty := .boolean) hx hb hr rfl (fun t ht hW => ⟨_, rfl, Option.some.inj h, ht⟩) (fun q hq => by cases hq) dX9_isThere_15
  · have h := (if_pos c_1).symm.trans h
    refine lv_iconst (v := 1) hx hb dX9_isThere_10 (by decide) ?_
    refine lv_goto (tgt := 15) hx hb dX9_isThere_11 (by decide) ?_
    rw [hQQ]
    exact W.zret (v := 1) (ty := .boolean) hx hb hr rfl (fun t ht hW => ⟨_, rfl, Option.some.inj h, ht⟩) (fun q hq => by cases hq) dX9_isThere_15
def fX9_isBidder (s_isle : (Nat → Int32)) (v1 : Int32) : Option (Int32) :=
  bd1 (fX9_in v1.toInt64 0 (((s_isle (4 : Int32).toNatClampNeg) - 1).toInt64)) (fun r_1 => chk (r_1 = 0 ∨ r_1 = 1) (some (r_1)))
abbrev rmX9_isBidder : Room := { frames := 1, cells := 0, slots := 0, locals := 25 }
theorem ddX9_isBidder : yX9_isBidder.cls ≠ "java/lang/invoke/MethodHandle" ∧ yX9_isBidder.cls ≠ "java/lang/invoke/VarHandle" ∧ (parseMethodDescriptor yX9_isBidder.desc).map (fun d => d.parameters.length) = some 1 := by decide +kernel
set_option maxHeartbeats 4000000 in
set_option maxRecDepth 100000 in
theorem m_X9_isBidder (l : Launch) (dC : Nat → ClassId) (dI : Nat → Nat → Nat) (cI cZ : ClassId) (q_s q_s_lane q_s_many q_s_item q_s_isle q_s_fresh q_s_then q_s_was q_s_tape q_s_isKept q_s_kept q_s_trace : Nat) (s_thrown : Int32) (s_status : Int32) (s_lane : (Nat → Int32)) (s_many : (Nat → Int32)) (s_item : (Nat → Int32)) (s_isle : (Nat → Int32)) (s_fresh : (Nat → Int32)) (s_then : (Nat → Int32)) (s_was : (Nat → Int32)) (s_acts : Int32) (s_tape : (Nat → Int32)) (s_taped : Int32) (s_cursor : Int32) (s_start : Int32) (s_token : Int32) (s_value : Int32) (s_fault : Int32) (s_faultAt : Int32) (s_latest : Int32) (s_isKept : (Nat → Int32)) (s_kept : (Nat → Int32)) (s_trace : (Nat → Int32)) (s_traced : Int32) (v1 : Int32) (res : Int32) (hf : fX9_isBidder s_isle v1 = some res) : Met l yX9_isBidder wsX9_isBidder rmX9_isBidder (rdPc (dC, dI) (tyZ cI cZ) ((W_M cI cZ q_s q_s_lane q_s_many q_s_item q_s_isle q_s_fresh q_s_then q_s_was q_s_tape q_s_isKept q_s_kept q_s_trace s_thrown s_status s_lane s_many s_item s_isle s_fresh s_then s_was s_acts s_tape s_taped s_cursor s_start s_token s_value s_fault s_faultAt s_latest s_isKept s_kept s_trace s_traced)) [.ref q_s, .int v1]) (rdQ res) 0 0 (fun _ => False) := by
  refine Met.ofW (cc := cX9_isBidder) (maxL := 2) (ret := (some .boolean)) (by decide) rfl ?_
  intro p e s m args below meth c s₁ B hml hv
  obtain ⟨rfl, hP, hK⟩ := hv
  have hx := B.exec
  have hb := B.bytes
  have hr := B.returns
  have hts := atoms_spec (ws := wsX9_isBidder) B.pre
  have hown : s.vm.findClass RX9 = some m.cls := findClass_of_methodNamed B.named
  have hlocks := B.notSynchronized
  have hl := lv_entry ([.ref q_s, .int v1]) (n := 2) (Nat.le_of_ble_eq_true rfl)
  rw [lg_entry_eq]
  generalize (lg_sl ([.ref q_s, .int v1]) ++ List.replicate (2 - (lg_sl ([.ref q_s, .int v1])).length) Slot.unset).toArray = ls at hl ⊢
  have hl : lv_has ls 2 [(0, .ref q_s), (1, .int v1)] := hl
  obtain ⟨QQ, hQQ⟩ : ∃ Q, Q = MQ below (rdQ res) ([.ref q_s, .int v1] : List Value).toArray s 0 0 (fun _ => False) := ⟨_, rfl⟩
  rw [← hQQ]
  have w_0 := hts (Cond.fieldLink RX9 19 "TideInchesModel" "isle" "[I") (List.mem_of_getElem? (i := 1) rfl)
  have w_1 := (fun w hw => List.mem_cons_of_mem _ (List.mem_append_right _ hw) : ∀ w ∈ wsX90, w ∈ wsX9_isBidder)
  have h := hf
  unfold fX9_isBidder at h
  refine lv_iload_n hx hb dX9_isBidder_0 rfl (lv_at hl 1 rfl) ?_
  refine lv_i2l hx hb dX9_isBidder_1 rfl ?_
  refine lv_lconst (v := 0) hx hb dX9_isBidder_2 (by decide) ?_
  refine lv_aload_n hx hb dX9_isBidder_3 rfl (lv_at hl 0 rfl) ?_
  refine va_get (D := (dC, dI)) (ci := 7) (v := .ref q_s_isle) (C := RX9) (T := TX9) (N := 23) hx hb hts w_1 hown hK hP 0 rfl rfl 5 (by decide) w_0 (fun _ h9 => h9) rfl dX9_isBidder_4 ?_
  refine lv_iconst (v := 4) hx hb dX9_isBidder_7 (by decide) ?_
  refine va_iald hx hb hK hP 4 0 rfl rfl (i := 4) (show ¬ ((4 : Int32) < 0 ∨ 51 ≤ (4 : Int32).toNatClampNeg) by decide +kernel) dX9_isBidder_8 ?_
  refine lv_iconst (v := 1) hx hb dX9_isBidder_9 (by decide) ?_
  refine lv_isub hx hb dX9_isBidder_10 ?_
  refine lv_i2l hx hb dX9_isBidder_11 rfl ?_
  obtain ⟨r_1, hc_1, h⟩ := bd1_of h
  refine cl_pS (As := [.long v1.toInt64, .long 0, .long (((s_isle (4 : Int32).toNatClampNeg) - 1).toInt64)]) (rest := []) ⟨hx, hb, hml, hown, hts⟩ (m_X9_in l v1.toInt64 0 (((s_isle (4 : Int32).toNatClampNeg) - 1).toInt64) (r_1) hc_1) (va_cwS 3 hts gX9_isBidder_X9_in rfl rfl rfl ddX9_in ⟨Nat.le_of_ble_eq_true rfl, Nat.le_of_ble_eq_true rfl⟩) rfl rfl hl.1 (Nat.le_of_ble_eq_true rfl) ⟨Nat.zero_le _, Nat.zero_le _⟩ dX9_isBidder_12 ?_
  obtain ⟨b_2, h⟩ := chk_of h
  rw [hQQ]
  exact W.zret (v := r_1) (ty := .boolean) hx hb hr (zb_nar b_2) (fun t ht hW => ⟨_, rfl, Option.some.inj h, ht⟩) (fun q hq => by cases hq) dX9_isBidder_15
def fX9_isCell (v0 : Int32) : Option (Int32) :=
  bd1 (fX9_in v0.toInt64 0 14) (fun r_1 => chk (r_1 = 0 ∨ r_1 = 1) (some (r_1)))
abbrev rmX9_isCell : Room := { frames := 1, cells := 0, slots := 0, locals := 25 }
theorem ddX9_isCell : yX9_isCell.cls ≠ "java/lang/invoke/MethodHandle" ∧ yX9_isCell.cls ≠ "java/lang/invoke/VarHandle" ∧ (parseMethodDescriptor yX9_isCell.desc).map (fun d => d.parameters.length) = some 1 := by decide +kernel
set_option maxHeartbeats 4000000 in
set_option maxRecDepth 100000 in
theorem m_X9_isCell (l : Launch) (v0 : Int32) (res : Int32) (hf : fX9_isCell v0 = some res) : Met l yX9_isCell wsX9_isCell rmX9_isCell (psPc [.int v0]) (rdQ res) 0 0 (fun _ => False) := by
  refine Met.ofW (cc := cX9_isCell) (maxL := 1) (ret := (some .boolean)) (by decide) rfl ?_
  intro p e s m args below meth c s₁ B hml hv
  obtain rfl := hv
  have hx := B.exec
  have hb := B.bytes
  have hr := B.returns
  have hts := atoms_spec (ws := wsX9_isCell) B.pre
  have hown : s.vm.findClass RX9 = some m.cls := findClass_of_methodNamed B.named
  have hlocks := B.notSynchronized
  have hl := lv_entry ([.int v0]) (n := 1) (Nat.le_of_ble_eq_true rfl)
  rw [lg_entry_eq]
  generalize (lg_sl ([.int v0]) ++ List.replicate (1 - (lg_sl ([.int v0])).length) Slot.unset).toArray = ls at hl ⊢
  have hl : lv_has ls 1 [(0, .int v0)] := hl
  obtain ⟨QQ, hQQ⟩ : ∃ Q, Q = MQ below (rdQ res) ([.int v0] : List Value).toArray s 0 0 (fun _ => False) := ⟨_, rfl⟩
  rw [← hQQ]
  have w_0 := hts (Cond.constantLong RX9 148 (14)) (List.mem_of_getElem? (i := 1) rfl)
  have h := hf
  unfold fX9_isCell at h
  refine lv_iload_n hx hb dX9_isCell_0 rfl (lv_at hl 0 rfl) ?_
  refine lv_i2l hx hb dX9_isCell_1 rfl ?_
  refine lv_lconst (v := 0) hx hb dX9_isCell_2 (by decide) ?_
  refine lv_ldc2 hx hb hown w_0 dX9_isCell_3 ?_
  obtain ⟨r_1, hc_1, h⟩ := bd1_of h
  refine cl_pS (As := [.long v0.toInt64, .long 0, .long 14]) (rest := []) ⟨hx, hb, hml, hown, hts⟩ (m_X9_in l v0.toInt64 0 14 (r_1) hc_1) (va_cwS 3 hts gX9_isCell_X9_in rfl rfl rfl ddX9_in ⟨Nat.le_of_ble_eq_true rfl, Nat.le_of_ble_eq_true rfl⟩) rfl rfl hl.1 (Nat.le_of_ble_eq_true rfl) ⟨Nat.zero_le _, Nat.zero_le _⟩ dX9_isCell_6 ?_
  obtain ⟨b_2, h⟩ := chk_of h
  rw [hQQ]
  exact W.zret (v := r_1) (ty := .boolean) hx hb hr (zb_nar b_2) (fun t ht hW => ⟨_, rfl, Option.some.inj h, ht⟩) (fun q hq => by cases hq) dX9_isCell_9
def fX9_of (r : (Nat → Int32)) (v1 : Int32) (v2 : Int32) : Option (Int32) :=
  chk (¬ (((36 + (3 * v1)) + v2) < 0 ∨ 51 ≤ ((36 + (3 * v1)) + v2).toNatClampNeg)) (some ((r ((36 + (3 * v1)) + v2).toNatClampNeg)))
abbrev rmX9_of : Room := { frames := 0, cells := 0, slots := 0, locals := 0 }
theorem ddX9_of : yX9_of.cls ≠ "java/lang/invoke/MethodHandle" ∧ yX9_of.cls ≠ "java/lang/invoke/VarHandle" ∧ (parseMethodDescriptor yX9_of.desc).map (fun d => d.parameters.length) = some 3 := by decide +kernel
set_option maxHeartbeats 4000000 in
set_option maxRecDepth 100000 in
theorem m_X9_of (l : Launch) (dC : Nat → ClassId) (dI : Nat → Nat → Nat) (cI cZ : ClassId) (q_r : Nat) (r : (Nat → Int32)) (v1 : Int32) (v2 : Int32) (res : Int32) (hf : fX9_of r v1 v2 = some res) : Met l yX9_of wsX9_of rmX9_of (rdPc (dC, dI) (tyZ cI cZ) ([(q_r, .inl (cI, 51, .inl r))]) [.ref q_r, .int v1, .int v2]) (rdQ res) 0 0 (fun _ => False) := by
  refine Met.ofW (cc := cX9_of) (maxL := 3) (ret := (some .int)) (by decide) rfl ?_
  intro p e s m args below meth c s₁ B hml hv
  obtain ⟨rfl, hP, hK⟩ := hv
  have hx := B.exec
  have hb := B.bytes
  have hr := B.returns
  have hts := atoms_spec (ws := wsX9_of) B.pre
  have hown : s.vm.findClass RX9 = some m.cls := findClass_of_methodNamed B.named
  have hlocks := B.notSynchronized
  have hl := lv_entry ([.ref q_r, .int v1, .int v2]) (n := 3) (Nat.le_of_ble_eq_true rfl)
  rw [lg_entry_eq]
  generalize (lg_sl ([.ref q_r, .int v1, .int v2]) ++ List.replicate (3 - (lg_sl ([.ref q_r, .int v1, .int v2])).length) Slot.unset).toArray = ls at hl ⊢
  have hl : lv_has ls 3 [(0, .ref q_r), (1, .int v1), (2, .int v2)] := hl
  obtain ⟨QQ, hQQ⟩ : ∃ Q, Q = MQ below (rdQ res) ([.ref q_r, .int v1, .int v2] : List Value).toArray s 0 0 (fun _ => False) := ⟨_, rfl⟩
  rw [← hQQ]
  have h := hf
  unfold fX9_of at h
  refine lv_aload_n hx hb dX9_of_0 rfl (lv_at hl 0 rfl) ?_
  refine lv_bipush (v := 36) hx hb dX9_of_1 (by decide) ?_
  refine lv_iconst (v := 3) hx hb dX9_of_3 (by decide) ?_
  refine lv_iload_n hx hb dX9_of_4 rfl (lv_at hl 1 rfl) ?_
  refine lv_imul hx hb dX9_of_5 ?_
  refine lv_iadd hx hb dX9_of_6 ?_
  refine lv_iload_n hx hb dX9_of_7 rfl (lv_at hl 2 rfl) ?_
  refine lv_iadd hx hb dX9_of_8 ?_
  obtain ⟨b_1, h⟩ := chk_of h
  refine va_iald hx hb hK hP 0 0 rfl rfl (i := ((36 + (3 * v1)) + v2)) b_1 dX9_of_9 ?_
  rw [hQQ]
  exact W.iret (v := (r ((36 + (3 * v1)) + v2).toNatClampNeg)) hx hb hr (fun t ht hW => ⟨_, rfl, Option.some.inj h, ht⟩) (fun q hq => by cases hq) dX9_of_10
def fX9_levelBy_J19 (r : (Nat → Int32)) (w0_j19 : Int32) : Option (Int32) :=
  some (((r (1 : Int32).toNatClampNeg) + ((((r (2 : Int32).toNatClampNeg) - (r (1 : Int32).toNatClampNeg)) * w0_j19) / 6)))
def fX9_levelBy (r : (Nat → Int32)) (v1 : Int32) : Option (Int32) :=
  (if (v1 - v1 / 12 * 12) ≤ 6 then (fX9_levelBy_J19 r (v1 - v1 / 12 * 12)) else (fX9_levelBy_J19 r (12 - (v1 - v1 / 12 * 12))))
abbrev rmX9_levelBy : Room := { frames := 0, cells := 0, slots := 0, locals := 0 }
theorem ddX9_levelBy : yX9_levelBy.cls ≠ "java/lang/invoke/MethodHandle" ∧ yX9_levelBy.cls ≠ "java/lang/invoke/VarHandle" ∧ (parseMethodDescriptor yX9_levelBy.desc).map (fun d => d.parameters.length) = some 2 := by decide +kernel
set_option maxHeartbeats 4000000 in
set_option maxRecDepth 100000 in
theorem m_X9_levelBy (l : Launch) (dC : Nat → ClassId) (dI : Nat → Nat → Nat) (cI cZ : ClassId) (q_r : Nat) (r : (Nat → Int32)) (v1 : Int32) (res : Int32) (hf : fX9_levelBy r v1 = some res) : Met l yX9_levelBy wsX9_levelBy rmX9_levelBy (rdPc (dC, dI) (tyZ cI cZ) ([(q_r, .inl (cI, 51, .inl r))]) [.ref q_r, .int v1]) (rdQ res) 0 0 (fun _ => False) := by
  refine Met.ofW (cc := cX9_levelBy) (maxL := 3) (ret := (some .int)) (by decide) rfl ?_
  intro p e s m args below meth c s₁ B hml hv
  obtain ⟨rfl, hP, hK⟩ := hv
  have hx := B.exec
  have hb := B.bytes
  have hr := B.returns
  have hts := atoms_spec (ws := wsX9_levelBy) B.pre
  have hown : s.vm.findClass RX9 = some m.cls := findClass_of_methodNamed B.named
  have hlocks := B.notSynchronized
  have hl := lv_entry ([.ref q_r, .int v1]) (n := 3) (Nat.le_of_ble_eq_true rfl)
  rw [lg_entry_eq]
  generalize (lg_sl ([.ref q_r, .int v1]) ++ List.replicate (3 - (lg_sl ([.ref q_r, .int v1])).length) Slot.unset).toArray = ls at hl ⊢
  have hl : lv_has ls 3 [(0, .ref q_r), (1, .int v1)] := hl
  obtain ⟨QQ, hQQ⟩ : ∃ Q, Q = MQ below (rdQ res) ([.ref q_r, .int v1] : List Value).toArray s 0 0 (fun _ => False) := ⟨_, rfl⟩
  rw [← hQQ]
  have h := hf
  unfold fX9_levelBy at h
  refine lv_iload_n hx hb dX9_levelBy_0 rfl (lv_at hl 1 rfl) ?_
  refine lv_bipush (v := 12) hx hb dX9_levelBy_1 (by decide) ?_
  refine lv_irem hx hb dX9_levelBy_3 (by decide) ?_
  refine lv_istore_n (lv' := [(2, .int (v1 - v1 / 12 * 12)), (0, .ref q_r), (1, .int v1)]) hx hb dX9_levelBy_4 rfl hl (by decide) rfl (fun ls hl => ?_)
  refine lv_iload_n hx hb dX9_levelBy_5 rfl (lv_at hl 0 rfl) ?_
  refine lv_bipush (v := 6) hx hb dX9_levelBy_6 (by decide) ?_
  have KJ19 : ∀ (w0_j19 : Int32) (ls : Array Slot), lv_has ls 3 [(0, .ref q_r)] → fX9_levelBy_J19 r w0_j19 = some res → W p l e (headSpec wsX9_levelBy rmX9_levelBy).room s m ([.ref q_r, .int v1] : List Value).toArray below meth c s.heap [] 0 0 QQ (F0 m 19 ls [.int w0_j19]) := by
    intro w0_j19 ls hl h
    unfold fX9_levelBy_J19 at h
    refine lv_istore_n (lv' := [(2, .int w0_j19), (0, .ref q_r)]) hx hb dX9_levelBy_19 rfl hl (by decide) rfl (fun ls hl => ?_)
    refine lv_aload_n hx hb dX9_levelBy_20 rfl (lv_at hl 1 rfl) ?_
    refine lv_iconst (v := 1) hx hb dX9_levelBy_21 (by decide) ?_
    refine va_iald hx hb hK hP 0 0 rfl rfl (i := 1) (show ¬ ((1 : Int32) < 0 ∨ 51 ≤ (1 : Int32).toNatClampNeg) by decide +kernel) dX9_levelBy_22 ?_
    refine lv_aload_n hx hb dX9_levelBy_23 rfl (lv_at hl 1 rfl) ?_
    refine lv_iconst (v := 2) hx hb dX9_levelBy_24 (by decide) ?_
    refine va_iald hx hb hK hP 0 0 rfl rfl (i := 2) (show ¬ ((2 : Int32) < 0 ∨ 51 ≤ (2 : Int32).toNatClampNeg) by decide +kernel) dX9_levelBy_25 ?_
    refine lv_aload_n hx hb dX9_levelBy_26 rfl (lv_at hl 1 rfl) ?_
    refine lv_iconst (v := 1) hx hb dX9_levelBy_27 (by decide) ?_
    refine va_iald hx hb hK hP 0 0 rfl rfl (i := 1) (show ¬ ((1 : Int32) < 0 ∨ 51 ≤ (1 : Int32).toNatClampNeg) by decide +kernel) dX9_levelBy_28 ?_
    refine lv_isub hx hb dX9_levelBy_29 ?_
    refine lv_iload_n hx hb dX9_levelBy_30 rfl (lv_at hl 0 rfl) ?_
    refine lv_imul hx hb dX9_levelBy_31 ?_
    refine lv_bipush (v := 6) hx hb dX9_levelBy_32 (by decide) ?_
    refine lv_idiv hx hb dX9_levelBy_34 (by decide) ?_
    refine lv_iadd hx hb dX9_levelBy_35 ?_
    rw [hQQ]
    exact W.iret (v := ((r (1 : Int32).toNatClampNeg) + ((((r (2 : Int32).toNatClampNeg) - (r (1 : Int32).toNatClampNeg)) * w0_j19) / 6))) hx hb hr (fun t ht hW => ⟨_, rfl, Option.some.inj h, ht⟩) (fun q hq => by cases hq) dX9_levelBy_36
  refine lv_icmp_le (tgt := 18) hx hb dX9_levelBy_8 (by decide) (fun c_1 => ?_) (fun c_1 => ?_)
  · have h := (if_pos c_1).symm.trans h
    refine lv_iload_n hx hb dX9_levelBy_18 rfl (lv_at hl 0 rfl) ?_
    exact KJ19 (v1 - v1 / 12 * 12) _ (lv_sub hl [1] rfl) h
  · have h := (if_neg c_1).symm.trans h
    refine lv_bipush (v := 12) hx hb dX9_levelBy_11 (by decide) ?_
    refine lv_iload_n hx hb dX9_levelBy_13 rfl (lv_at hl 0 rfl) ?_
    refine lv_isub hx hb dX9_levelBy_14 ?_
    refine lv_goto (tgt := 19) hx hb dX9_levelBy_15 (by decide) ?_
    exact KJ19 (12 - (v1 - v1 / 12 * 12)) _ (lv_sub hl [1] rfl) h
