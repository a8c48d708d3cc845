abbrev tyZ (cI cZ : ClassId) : List (ClassId × FieldType) := [(cI, .int), (cZ, .boolean)]
abbrev imax (x y : Int32) : Int32 := if x < y then y else x
abbrev imin (x y : Int32) : Int32 := if y < x then y else x
abbrev W_Acts (cI cZ : ClassId) (q_s q_s_saved : Nat) (s_saved : (Nat → Int32)) (s_next : Int32) (s_kept : Int32) : va_W := [(q_s, .inr (0, [.ref q_s_saved, .int s_next, .int s_kept])), (q_s_saved, .inl (cI, 864, .inl s_saved))]
abbrev W_Asks (cI cZ : ClassId) (q_s q_s_bodies : Nat) (s_bodies : (Nat → Int32)) (s_traced : Int32) (s_number : Int32) (s_kind : Int32) (s_purse : Int32) (s_home : Int32) : va_W := [(q_s, .inr (1, [.ref q_s_bodies, .int s_traced, .int s_number, .int s_kind, .int s_purse, .int s_home])), (q_s_bodies, .inl (cI, 16, .inl s_bodies))]
abbrev W_Basket (cI cZ : ClassId) (q_s q_s_most q_s_which : Nat) (s_most : (Nat → Int32)) (s_which : (Nat → Int32)) (s_best : Int32) : va_W := [(q_s, .inr (2, [.ref q_s_most, .ref q_s_which, .int s_best])), (q_s_most, .inl (cI, 100, .inl s_most)), (q_s_which, .inl (cI, 100, .inl s_which))]
abbrev W_Isle (cI cZ : ClassId) (q_s q_s_heights q_s_holders q_s_kinds q_s_purses q_s_homes : Nat) (s_told : Int32) (s_low : Int32) (s_high : Int32) (s_price : Int32) (s_hour : Int32) (s_bidders : Int32) (s_heights : (Nat → Int32)) (s_holders : (Nat → Int32)) (s_kinds : (Nat → Int32)) (s_purses : (Nat → Int32)) (s_homes : (Nat → Int32)) : va_W := [(q_s, .inr (3, [.int s_told, .int s_low, .int s_high, .int s_price, .int s_hour, .int s_bidders, .ref q_s_heights, .ref q_s_holders, .ref q_s_kinds, .ref q_s_purses, .ref q_s_homes])), (q_s_heights, .inl (cI, 15, .inl s_heights)), (q_s_holders, .inl (cI, 15, .inl s_holders)), (q_s_kinds, .inl (cI, 5, .inl s_kinds)), (q_s_purses, .inl (cI, 5, .inl s_purses)), (q_s_homes, .inl (cI, 5, .inl s_homes))]
abbrev W_Rows (cI cZ : ClassId) (q_s q_s_lanes q_s_lengths q_s_items : Nat) (s_lanes : (Nat → Int32)) (s_lengths : (Nat → Int32)) (s_items : (Nat → Int32)) : va_W := [(q_s, .inr (4, [.ref q_s_lanes, .ref q_s_lengths, .ref q_s_items])), (q_s_lanes, .inl (cI, 8, .inl s_lanes)), (q_s_lengths, .inl (cI, 8, .inl s_lengths)), (q_s_items, .inl (cI, 320, .inl s_items))]
abbrev W_Tape (cI cZ : ClassId) (q_s q_s_bytes : Nat) (s_bytes : (Nat → Int32)) (s_length : Int32) (s_at : Int32) (s_number : Int32) (s_faultNumber : Int32) : va_W := [(q_s, .inr (5, [.ref q_s_bytes, .int s_length, .int s_at, .int s_number, .int s_faultNumber])), (q_s_bytes, .inl (cI, 100, .inl s_bytes))]
abbrev W_X (cI cZ : ClassId) (q_s q_rows q_tape q_land q_spare q_firstImage q_secondImage q_acts q_basket q_asks : Nat) (s_finding : Int32) : va_W := [(q_s, .inr (6, [.ref q_rows, .ref q_tape, .ref q_land, .ref q_spare, .ref q_firstImage, .ref q_secondImage, .ref q_acts, .ref q_basket, .ref q_asks, .int s_finding]))]
abbrev W_M (cI cZ : ClassId) (q_s q_s_lane q_s_many q_s_item q_s_isle q_s_fresh q_s_then q_s_was q_s_tape q_s_isKept q_s_kept q_s_trace : Nat) (s_thrown : Int32) (s_status : Int32) (s_lane : (Nat → Int32)) (s_many : (Nat → Int32)) (s_item : (Nat → Int32)) (s_isle : (Nat → Int32)) (s_fresh : (Nat → Int32)) (s_then : (Nat → Int32)) (s_was : (Nat → Int32)) (s_acts : Int32) (s_tape : (Nat → Int32)) (s_taped : Int32) (s_cursor : Int32) (s_start : Int32) (s_token : Int32) (s_value : Int32) (s_fault : Int32) (s_faultAt : Int32) (s_latest : Int32) (s_isKept : (Nat → Int32)) (s_kept : (Nat → Int32)) (s_trace : (Nat → Int32)) (s_traced : Int32) : va_W := [(q_s, .inr (7, [.int s_thrown, .int s_status, .ref q_s_lane, .ref q_s_many, .ref q_s_item, .ref q_s_isle, .ref q_s_fresh, .ref q_s_then, .ref q_s_was, .int s_acts, .ref q_s_tape, .int s_taped, .int s_cursor, .int s_start, .int s_token, .int s_value, .int s_fault, .int s_faultAt, .int s_latest, .ref q_s_isKept, .ref q_s_kept, .ref q_s_trace, .int s_traced])), (q_s_lane, .inl (cI, 8, .inl s_lane)), (q_s_many, .inl (cI, 8, .inl s_many)), (q_s_item, .inl (cI, 320, .inl s_item)), (q_s_isle, .inl (cI, 51, .inl s_isle)), (q_s_fresh, .inl (cI, 51, .inl s_fresh)), (q_s_then, .inl (cI, 51, .inl s_then)), (q_s_was, .inl (cI, 1224, .inl s_was)), (q_s_tape, .inl (cI, 100, .inl s_tape)), (q_s_isKept, .inl (cZ, 2, .inl s_isKept)), (q_s_kept, .inl (cI, 102, .inl s_kept)), (q_s_trace, .inl (cI, 16, .inl s_trace))]
def fX4_told (v0 : Int32) : Option (Int32) :=
  (if v0 = 97 then some (2) else (if v0 = 98 then some (1) else (if v0 = 103 then some (4) else (if v0 = 108 then some (5) else (if v0 = 122 then some (3) else some ((-1)))))))
abbrev rmX4_told : Room := { frames := 0, cells := 0, slots := 0, locals := 0 }
theorem ddX4_told : yX4_told.cls ≠ "java/lang/invoke/MethodHandle" ∧ yX4_told.cls ≠ "java/lang/invoke/VarHandle" ∧ (parseMethodDescriptor yX4_told.desc).map (fun d => d.parameters.length) = some 1 := by decide +kernel
set_option maxHeartbeats 4000000 in
set_option maxRecDepth 100000 in
theorem m_X4_told (l : Launch) (v0 : Int32) (res : Int32) (hf : fX4_told v0 = some res) : Met l yX4_told wsX4_told rmX4_told (psPc [.int v0]) (rdQ res) 0 0 (fun _ => False) := by
  refine Met.ofW (cc := cX4_told) (maxL := 1) (ret := (some .int)) (by decide) rfl ?_
  intro p e s m args below meth c s₁ B hml hv
  obtain rfl := hv
  have hx := B.exec
  have hb := B.bytes
  have hr := B.returns
  have hts := atoms_spec (ws := wsX4_told) B.pre
  have hown : s.vm.findClass RX4 = some m.cls := findClass_of_methodNamed B.named
  have hlocks := B.notSynchronized
  have hl := lv_entry ([.int v0]) (n := 1) (Nat.le_of_ble_eq_true rfl)
  rw [lg_entry_eq]
  generalize (lg_sl ([.int v0]) ++ List.replicate (1 - (lg_sl ([.int v0])).length) Slot.unset).toArray = ls at hl ⊢
  have hl : lv_has ls 1 [(0, .int v0)] := hl
  obtain ⟨QQ, hQQ⟩ : ∃ Q, Q = MQ below (rdQ res) ([.int v0] : List Value).toArray s 0 0 (fun _ => False) := ⟨_, rfl⟩
  rw [← hQQ]
  have h := hf
  unfold fX4_told at h
  refine lv_iload_n hx hb dX4_told_0 rfl (lv_at hl 0 rfl) ?_
  by_cases c_1 : v0 = 97
  · have h := (if_pos c_1).symm.trans h
    refine lv_lookup (tgt := 54) hx hb dX4_told_1 rfl (by rw [c_1] <;> rfl) (by decide) ?_
    refine lv_iconst (v := 2) hx hb dX4_told_54 (by decide) ?_
    rw [hQQ]
    exact W.iret (v := 2) hx hb hr (fun t ht hW => ⟨_, rfl, Option.some.inj h, ht⟩) (fun q hq => by cases hq) dX4_told_55
  have h := (if_neg c_1).symm.trans h
  by_cases c_2 : v0 = 98
  · have h := (if_pos c_2).symm.trans h
    refine lv_lookup (tgt := 52) hx hb dX4_told_1 rfl (by rw [c_2] <;> rfl) (by decide) ?_
    refine lv_iconst (v := 1) hx hb dX4_told_52 (by decide) ?_
    rw [hQQ]
    exact W.iret (v := 1) hx hb hr (fun t ht hW => ⟨_, rfl, Option.some.inj h, ht⟩) (fun q hq => by cases hq) dX4_told_53
  have h := (if_neg c_2).symm.trans h
  by_cases c_3 : v0 = 103
  · have h := (if_pos c_3).symm.trans h
    refine lv_lookup (tgt := 58) hx hb dX4_told_1 rfl (by rw [c_3] <;> rfl) (by decide) ?_
    refine lv_iconst (v := 4) hx hb dX4_told_58 (by decide) ?_
    rw [hQQ]
    exact W.iret (v := 4) hx hb hr (fun t ht hW => ⟨_, rfl, Option.some.inj h, ht⟩) (fun q hq => by cases hq) dX4_told_59
  have h := (if_neg c_3).symm.trans h
  by_cases c_4 : v0 = 108
  · have h := (if_pos c_4).symm.trans h
    refine lv_lookup (tgt := 60) hx hb dX4_told_1 rfl (by rw [c_4] <;> rfl) (by decide) ?_
    refine lv_iconst (v := 5) hx hb dX4_told_60 (by decide) ?_
    rw [hQQ]
    exact W.iret (v := 5) hx hb hr (fun t ht hW => ⟨_, rfl, Option.some.inj h, ht⟩) (fun q hq => by cases hq) dX4_told_61
  have h := (if_neg c_4).symm.trans h
  by_cases c_5 : v0 = 122
  · have h := (if_pos c_5).symm.trans h
    refine lv_lookup (tgt := 56) hx hb dX4_told_1 rfl (by rw [c_5] <;> rfl) (by decide) ?_
    refine lv_iconst (v := 3) hx hb dX4_told_56 (by decide) ?_
    rw [hQQ]
    exact W.iret (v := 3) hx hb hr (fun t ht hW => ⟨_, rfl, Option.some.inj h, ht⟩) (fun q hq => by cases hq) dX4_told_57
  have h := (if_neg c_5).symm.trans h
  have n_1 : (v0).toInt ≠ 97 := ne_tn c_1 rfl
  have n_2 : (v0).toInt ≠ 98 := ne_tn c_2 rfl
  have n_3 : (v0).toInt ≠ 103 := ne_tn c_3 rfl
  have n_4 : (v0).toInt ≠ 108 := ne_tn c_4 rfl
  have n_5 : (v0).toInt ≠ 122 := ne_tn c_5 rfl
  refine lv_lookup (tgt := 62) (off := 61) hx hb dX4_told_1 rfl (by simp only [Op.lookupswitch.offset]; simp [Ne.symm n_1, Ne.symm n_2, Ne.symm n_3, Ne.symm n_4, Ne.symm n_5]) (by decide) ?_
  refine lv_iconst (v := (-1)) hx hb dX4_told_62 (by decide) ?_
  rw [hQQ]
  exact W.iret (v := (-1)) hx hb hr (fun t ht hW => ⟨_, rfl, Option.some.inj h, ht⟩) (fun q hq => by cases hq) dX4_told_63
def fX4_nextAbove (v0 : Int32) : Option (Int32) :=
  (if v0 = 1 then some (0) else (if v0 = 2 then some (1) else (if v0 = 3 then some (1) else (if v0 = 4 then some (0) else (if v0 = 5 then some (4) else some ((-1)))))))
abbrev rmX4_nextAbove : Room := { frames := 0, cells := 0, slots := 0, locals := 0 }
theorem ddX4_nextAbove : yX4_nextAbove.cls ≠ "java/lang/invoke/MethodHandle" ∧ yX4_nextAbove.cls ≠ "java/lang/invoke/VarHandle" ∧ (parseMethodDescriptor yX4_nextAbove.desc).map (fun d => d.parameters.length) = some 1 := by decide +kernel
set_option maxHeartbeats 4000000 in
set_option maxRecDepth 100000 in
theorem m_X4_nextAbove (l : Launch) (v0 : Int32) (res : Int32) (hf : fX4_nextAbove v0 = some res) : Met l yX4_nextAbove wsX4_nextAbove rmX4_nextAbove (psPc [.int v0]) (rdQ res) 0 0 (fun _ => False) := by
  refine Met.ofW (cc := cX4_nextAbove) (maxL := 1) (ret := (some .int)) (by decide) rfl ?_
  intro p e s m args below meth c s₁ B hml hv
  obtain rfl := hv
  have hx := B.exec
  have hb := B.bytes
  have hr := B.returns
  have hts := atoms_spec (ws := wsX4_nextAbove) B.pre
  have hown : s.vm.findClass RX4 = some m.cls := findClass_of_methodNamed B.named
  have hlocks := B.notSynchronized
  have hl := lv_entry ([.int v0]) (n := 1) (Nat.le_of_ble_eq_true rfl)
  rw [lg_entry_eq]
  generalize (lg_sl ([.int v0]) ++ List.replicate (1 - (lg_sl ([.int v0])).length) Slot.unset).toArray = ls at hl ⊢
  have hl : lv_has ls 1 [(0, .int v0)] := hl
  obtain ⟨QQ, hQQ⟩ : ∃ Q, Q = MQ below (rdQ res) ([.int v0] : List Value).toArray s 0 0 (fun _ => False) := ⟨_, rfl⟩
  rw [← hQQ]
  have h := hf
  unfold fX4_nextAbove at h
  refine lv_iload_n hx hb dX4_nextAbove_0 rfl (lv_at hl 0 rfl) ?_
  by_cases c_1 : v0 = 1
  · have h := (if_pos c_1).symm.trans h
    refine lv_tableIn (tgt := 36) hx hb dX4_nextAbove_1 (by rw [c_1]; decide) (by rw [c_1]; decide) (by rw [c_1]; rfl) (by decide) ?_
    refine lv_iconst (v := 0) hx hb dX4_nextAbove_36 (by decide) ?_
    rw [hQQ]
    exact W.iret (v := 0) hx hb hr (fun t ht hW => ⟨_, rfl, Option.some.inj h, ht⟩) (fun q hq => by cases hq) dX4_nextAbove_37
  have h := (if_neg c_1).symm.trans h
  by_cases c_2 : v0 = 2
  · have h := (if_pos c_2).symm.trans h
    refine lv_tableIn (tgt := 38) hx hb dX4_nextAbove_1 (by rw [c_2]; decide) (by rw [c_2]; decide) (by rw [c_2]; rfl) (by decide) ?_
    refine lv_iconst (v := 1) hx hb dX4_nextAbove_38 (by decide) ?_
    rw [hQQ]
    exact W.iret (v := 1) hx hb hr (fun t ht hW => ⟨_, rfl, Option.some.inj h, ht⟩) (fun q hq => by cases hq) dX4_nextAbove_39
  have h := (if_neg c_2).symm.trans h
  by_cases c_3 : v0 = 3
  · have h := (if_pos c_3).symm.trans h
    refine lv_tableIn (tgt := 40) hx hb dX4_nextAbove_1 (by rw [c_3]; decide) (by rw [c_3]; decide) (by rw [c_3]; rfl) (by decide) ?_
    refine lv_iconst (v := 1) hx hb dX4_nextAbove_40 (by decide) ?_
    rw [hQQ]
    exact W.iret (v := 1) hx hb hr (fun t ht hW => ⟨_, rfl, Option.some.inj h, ht⟩) (fun q hq => by cases hq) dX4_nextAbove_41
  have h := (if_neg c_3).symm.trans h
  by_cases c_4 : v0 = 4
  · have h := (if_pos c_4).symm.trans h
    refine lv_tableIn (tgt := 42) hx hb dX4_nextAbove_1 (by rw [c_4]; decide) (by rw [c_4]; decide) (by rw [c_4]; rfl) (by decide) ?_
    refine lv_iconst (v := 0) hx hb dX4_nextAbove_42 (by decide) ?_
    rw [hQQ]
    exact W.iret (v := 0) hx hb hr (fun t ht hW => ⟨_, rfl, Option.some.inj h, ht⟩) (fun q hq => by cases hq) dX4_nextAbove_43
  have h := (if_neg c_4).symm.trans h
  by_cases c_5 : v0 = 5
  · have h := (if_pos c_5).symm.trans h
    refine lv_tableIn (tgt := 44) hx hb dX4_nextAbove_1 (by rw [c_5]; decide) (by rw [c_5]; decide) (by rw [c_5]; rfl) (by decide) ?_
    refine lv_iconst (v := 4) hx hb dX4_nextAbove_44 (by decide) ?_
    rw [hQQ]
    exact W.iret (v := 4) hx hb hr (fun t ht hW => ⟨_, rfl, Option.some.inj h, ht⟩) (fun q hq => by cases hq) dX4_nextAbove_45
  have h := (if_neg c_5).symm.trans h
  have n_1 : (v0).toInt ≠ 1 := ne_tn c_1 rfl
  have n_2 : (v0).toInt ≠ 2 := ne_tn c_2 rfl
  have n_3 : (v0).toInt ≠ 3 := ne_tn c_3 rfl
  have n_4 : (v0).toInt ≠ 4 := ne_tn c_4 rfl
  have n_5 : (v0).toInt ≠ 5 := ne_tn c_5 rfl
  refine lv_tableOut (tgt := 46) hx hb dX4_nextAbove_1 (by omega) (by decide) ?_
  refine lv_iconst (v := (-1)) hx hb dX4_nextAbove_46 (by decide) ?_
  rw [hQQ]
  exact W.iret (v := (-1)) hx hb hr (fun t ht hW => ⟨_, rfl, Option.some.inj h, ht⟩) (fun q hq => by cases hq) dX4_nextAbove_47
def fX4_isA_L4 (v1 : Int32) : Nat → Int32 → Int32 → Option (Int32)
  | 0, _, _ => none
  | n + 1, v2_h4, v3_h4 => (if 5 < v3_h4 then some (0) else (if v2_h4 = (-1) then some (0) else (if v2_h4 = v1 then some (1) else bd1 (fX4_nextAbove v2_h4) (fun r_4 => ((fX4_isA_L4 v1 n) r_4 (v3_h4 + 1))))))
def fX4_isA (v0 : Int32) (v1 : Int32) : Option (Int32) :=
  (fX4_isA_L4 v1 FU v0 0)
abbrev rmX4_isA : Room := { frames := 1, cells := 0, slots := 0, locals := 20 }
theorem ddX4_isA : yX4_isA.cls ≠ "java/lang/invoke/MethodHandle" ∧ yX4_isA.cls ≠ "java/lang/invoke/VarHandle" ∧ (parseMethodDescriptor yX4_isA.desc).map (fun d => d.parameters.length) = some 2 := by decide +kernel
set_option maxHeartbeats 4000000 in
set_option maxRecDepth 100000 in
theorem m_X4_isA (l : Launch) (v0 : Int32) (v1 : Int32) (res : Int32) (hf : fX4_isA v0 v1 = some res) : Met l yX4_isA wsX4_isA rmX4_isA (psPc [.int v0, .int v1]) (rdQ res) 0 0 (fun _ => False) := by
  refine Met.ofW (cc := cX4_isA) (maxL := 4) (ret := (some .boolean)) (by decide) rfl ?_
  intro p e s m args below meth c s₁ B hml hv
  obtain rfl := hv
  have hx := B.exec
  have hb := B.bytes
  have hr := B.returns
  have hts := atoms_spec (ws := wsX4_isA) B.pre
  have hown : s.vm.findClass RX4 = some m.cls := findClass_of_methodNamed B.named
  have hlocks := B.notSynchronized
  have hl := lv_entry ([.int v0, .int v1]) (n := 4) (Nat.le_of_ble_eq_true rfl)
  rw [lg_entry_eq]
  generalize (lg_sl ([.int v0, .int v1]) ++ List.replicate (4 - (lg_sl ([.int v0, .int v1])).length) Slot.unset).toArray = ls at hl ⊢
  have hl : lv_has ls 4 [(0, .int v0), (1, .int v1)] := hl
  obtain ⟨QQ, hQQ⟩ : ∃ Q, Q = MQ below (rdQ res) ([.int v0, .int v1] : List Value).toArray s 0 0 (fun _ => False) := ⟨_, rfl⟩
  rw [← hQQ]
  have h := hf
  unfold fX4_isA at h
  refine lv_iload_n hx hb dX4_isA_0 rfl (lv_at hl 0 rfl) ?_
  refine lv_istore_n (lv' := [(2, .int v0), (0, .int v0), (1, .int v1)]) hx hb dX4_isA_1 rfl hl (by decide) rfl (fun ls hl => ?_)
  refine lv_iconst (v := 0) hx hb dX4_isA_2 (by decide) ?_
  refine lv_istore_n (lv' := [(3, .int 0), (2, .int v0), (0, .int v0), (1, .int v1)]) hx hb dX4_isA_3 rfl hl (by decide) rfl (fun ls hl => ?_)
  have KL4 : ∀ (n : Nat) (v2_h4 : Int32) (v3_h4 : Int32) (ls : Array Slot), lv_has ls 4 [(1, .int v1), (2, .int v2_h4), (3, .int v3_h4)] → fX4_isA_L4 v1 n v2_h4 v3_h4 = some res → W p l e (headSpec wsX4_isA rmX4_isA).room s m ([.int v0, .int v1] : List Value).toArray below meth c s.heap [] 0 0 QQ (F0 m 4 ls []) := by
    intro  n
    induction n with
    | zero => intro v2_h4 v3_h4 ls hl h; rw [fX4_isA_L4.eq_1] at h; cases h
    | succ n ih =>
      intro v2_h4 v3_h4 ls hl h
      rw [fX4_isA_L4.eq_2] at h
      refine lv_iload_n hx hb dX4_isA_4 rfl (lv_at hl 2 rfl) ?_
      refine lv_iconst (v := 5) hx hb dX4_isA_5 (by decide) ?_
      refine lv_icmp_gt (tgt := 32) hx hb dX4_isA_6 (by decide) (fun c_1 => ?_) (fun c_1 => ?_)
      · have h := (if_pos c_1).symm.trans h
        refine lv_iconst (v := 0) hx hb dX4_isA_32 (by decide) ?_
        rw [hQQ]
        exact W.zret (v := 0) (ty := .boolean) hx hb hr rfl (fun t ht hW => ⟨_, rfl, Option.some.inj h, ht⟩) (fun q hq => by cases hq) dX4_isA_33
      · have h := (if_neg c_1).symm.trans h
        refine lv_iload_n hx hb dX4_isA_9 rfl (lv_at hl 1 rfl) ?_
        refine lv_iconst (v := (-1)) hx hb dX4_isA_10 (by decide) ?_
        refine lv_icmp_eq (tgt := 32) hx hb dX4_isA_11 (by decide) (fun c_2 => ?_) (fun c_2 => ?_)
        · have h := (if_pos c_2).symm.trans h
          refine lv_iconst (v := 0) hx hb dX4_isA_32 (by decide) ?_
          rw [hQQ]
          exact W.zret (v := 0) (ty := .boolean) hx hb hr rfl (fun t ht hW => ⟨_, rfl, Option.some.inj h, ht⟩) (fun q hq => by cases hq) dX4_isA_33
        · have h := (if_neg c_2).symm.trans h
          refine lv_iload_n hx hb dX4_isA_14 rfl (lv_at hl 1 rfl) ?_
          refine lv_iload_n hx hb dX4_isA_15 rfl (lv_at hl 0 rfl) ?_
          refine lv_icmp_ne (tgt := 21) hx hb dX4_isA_16 (by decide) (fun c_3 => ?_) (fun c_3 => ?_)
          · have h := (if_neg c_3).symm.trans h
            refine lv_iload_n hx hb dX4_isA_21 rfl (lv_at hl 1 rfl) ?_
            obtain ⟨r_4, hc_4, h⟩ := bd1_of h
            refine cl_pS (As := [.int v2_h4]) (rest := []) ⟨hx, hb, hml, hown, hts⟩ (m_X4_nextAbove l v2_h4 (r_4) hc_4) (va_cwS 1 hts gX4_isA_X4_nextAbove rfl rfl rfl ddX4_nextAbove ⟨Nat.le_of_ble_eq_true rfl, Nat.le_of_ble_eq_true rfl⟩) rfl rfl hl.1 (Nat.le_of_ble_eq_true rfl) ⟨Nat.zero_le _, Nat.zero_le _⟩ dX4_isA_22 ?_
            refine lv_istore_n (lv' := [(2, .int r_4), (1, .int v1), (3, .int v3_h4)]) hx hb dX4_isA_25 rfl hl (by decide) rfl (fun ls hl => ?_)
            refine lv_iinc (v := (v3_h4 + 1)) (lv' := [(3, .int (v3_h4 + 1)), (2, .int r_4), (1, .int v1)]) hx hb dX4_isA_26 hl (k := 2) rfl rfl (by decide) rfl (fun ls hl => ?_)
            refine lv_goto (tgt := 4) hx hb dX4_isA_29 (by decide) ?_
            exact ih r_4 (v3_h4 + 1) _ (lv_sub hl [2, 1, 0] rfl) h
          · have h := (if_pos c_3).symm.trans h
            refine lv_iconst (v := 1) hx hb dX4_isA_19 (by decide) ?_
            rw [hQQ]
            exact W.zret (v := 1) (ty := .boolean) hx hb hr rfl (fun t ht hW => ⟨_, rfl, Option.some.inj h, ht⟩) (fun q hq => by cases hq) dX4_isA_20
  exact KL4 FU v0 0 _ (lv_sub hl [3, 1, 0] rfl) h
def fX4_cost (v0 : Int32) (v1 : Int32) (v2 : Int32) : Option (Int32) :=
  (if v0 = 2 then some (((v1 * v2) / 2)) else (if v0 = 3 then some (((v1 * v2) + 1)) else (if v0 = 4 then some (v1) else (if v0 = 5 then some (0) else some ((v1 * v2))))))
abbrev rmX4_cost : Room := { frames := 0, cells := 0, slots := 0, locals := 0 }
theorem ddX4_cost : yX4_cost.cls ≠ "java/lang/invoke/MethodHandle" ∧ yX4_cost.cls ≠ "java/lang/invoke/VarHandle" ∧ (parseMethodDescriptor yX4_cost.desc).map (fun d => d.parameters.length) = some 3 := by decide +kernel
set_option maxHeartbeats 4000000 in
set_option maxRecDepth 100000 in
theorem m_X4_cost (l : Launch) (v0 : Int32) (v1 : Int32) (v2 : Int32) (res : Int32) (hf : fX4_cost v0 v1 v2 = some res) : Met l yX4_cost wsX4_cost rmX4_cost (psPc [.int v0, .int v1, .int v2]) (rdQ res) 0 0 (fun _ => False) := by
  refine Met.ofW (cc := cX4_cost) (maxL := 3) (ret := (some .int)) (by decide) rfl ?_
  intro p e s m args below meth c s₁ B hml hv
  obtain rfl := hv
  have hx := B.exec
  have hb := B.bytes
  have hr := B.returns
  have hts := atoms_spec (ws := wsX4_cost) B.pre
  have hown : s.vm.findClass RX4 = some m.cls := findClass_of_methodNamed B.named
  have hlocks := B.notSynchronized
  have hl := lv_entry ([.int v0, .int v1, .int v2]) (n := 3) (Nat.le_of_ble_eq_true rfl)
  rw [lg_entry_eq]
  generalize (lg_sl ([.int v0, .int v1, .int v2]) ++ List.replicate (3 - (lg_sl ([.int v0, .int v1, .int v2])).length) Slot.unset).toArray = ls at hl ⊢
  have hl : lv_has ls 3 [(0, .int v0), (1, .int v1), (2, .int v2)] := hl
  obtain ⟨QQ, hQQ⟩ : ∃ Q, Q = MQ below (rdQ res) ([.int v0, .int v1, .int v2] : List Value).toArray s 0 0 (fun _ => False) := ⟨_, rfl⟩
  rw [← hQQ]
  have h := hf
  unfold fX4_cost at h
  refine lv_iload_n hx hb dX4_cost_0 rfl (lv_at hl 0 rfl) ?_
  by_cases c_1 : v0 = 2
  · have h := (if_pos c_1).symm.trans h
    refine lv_tableIn (tgt := 32) hx hb dX4_cost_1 (by rw [c_1]; decide) (by rw [c_1]; decide) (by rw [c_1]; rfl) (by decide) ?_
    refine lv_iload_n hx hb dX4_cost_32 rfl (lv_at hl 1 rfl) ?_
    refine lv_iload_n hx hb dX4_cost_33 rfl (lv_at hl 2 rfl) ?_
    refine lv_imul hx hb dX4_cost_34 ?_
    refine lv_iconst (v := 2) hx hb dX4_cost_35 (by decide) ?_
    refine lv_idiv hx hb dX4_cost_36 (by decide) ?_
    rw [hQQ]
    exact W.iret (v := ((v1 * v2) / 2)) hx hb hr (fun t ht hW => ⟨_, rfl, Option.some.inj h, ht⟩) (fun q hq => by cases hq) dX4_cost_37
  have h := (if_neg c_1).symm.trans h
  by_cases c_2 : v0 = 3
  · have h := (if_pos c_2).symm.trans h
    refine lv_tableIn (tgt := 38) hx hb dX4_cost_1 (by rw [c_2]; decide) (by rw [c_2]; decide) (by rw [c_2]; rfl) (by decide) ?_
    refine lv_iload_n hx hb dX4_cost_38 rfl (lv_at hl 1 rfl) ?_
    refine lv_iload_n hx hb dX4_cost_39 rfl (lv_at hl 2 rfl) ?_
    refine lv_imul hx hb dX4_cost_40 ?_
    refine lv_iconst (v := 1) hx hb dX4_cost_41 (by decide) ?_
    refine lv_iadd hx hb dX4_cost_42 ?_
    rw [hQQ]
    exact W.iret (v := ((v1 * v2) + 1)) hx hb hr (fun t ht hW => ⟨_, rfl, Option.some.inj h, ht⟩) (fun q hq => by cases hq) dX4_cost_43
  have h := (if_neg c_2).symm.trans h
  by_cases c_3 : v0 = 4
  · have h := (if_pos c_3).symm.trans h
    refine lv_tableIn (tgt := 44) hx hb dX4_cost_1 (by rw [c_3]; decide) (by rw [c_3]; decide) (by rw [c_3]; rfl) (by decide) ?_
    refine lv_iload_n hx hb dX4_cost_44 rfl (lv_at hl 1 rfl) ?_
    rw [hQQ]
    exact W.iret (v := v1) hx hb hr (fun t ht hW => ⟨_, rfl, Option.some.inj h, ht⟩) (fun q hq => by cases hq) dX4_cost_45
  have h := (if_neg c_3).symm.trans h
  by_cases c_4 : v0 = 5
  · have h := (if_pos c_4).symm.trans h
    refine lv_tableIn (tgt := 46) hx hb dX4_cost_1 (by rw [c_4]; decide) (by rw [c_4]; decide) (by rw [c_4]; rfl) (by decide) ?_
    refine lv_iconst (v := 0) hx hb dX4_cost_46 (by decide) ?_
    rw [hQQ]
    exact W.iret (v := 0) hx hb hr (fun t ht hW => ⟨_, rfl, Option.some.inj h, ht⟩) (fun q hq => by cases hq) dX4_cost_47
  have h := (if_neg c_4).symm.trans h
  have n_1 : (v0).toInt ≠ 2 := ne_tn c_1 rfl
  have n_2 : (v0).toInt ≠ 3 := ne_tn c_2 rfl
  have n_3 : (v0).toInt ≠ 4 := ne_tn c_3 rfl
  have n_4 : (v0).toInt ≠ 5 := ne_tn c_4 rfl
  refine lv_tableOut (tgt := 48) hx hb dX4_cost_1 (by omega) (by decide) ?_
  refine lv_iload_n hx hb dX4_cost_48 rfl (lv_at hl 1 rfl) ?_
  refine lv_iload_n hx hb dX4_cost_49 rfl (lv_at hl 2 rfl) ?_
  refine lv_imul hx hb dX4_cost_50 ?_
  rw [hQQ]
  exact W.iret (v := (v1 * v2)) hx hb hr (fun t ht hW => ⟨_, rfl, Option.some.inj h, ht⟩) (fun q hq => by cases hq) dX4_cost_51
def fX4_takes (v0 : Int32) (v1 : Int32) : Option (Int32) :=
  (if v0 = 5 then (if v1 = 1 then some (0) else some (1)) else (if v1 = 0 then some (0) else some (1)))
abbrev rmX4_takes : Room := { frames := 0, cells := 0, slots := 0, locals := 0 }
theorem ddX4_takes : yX4_takes.cls ≠ "java/lang/invoke/MethodHandle" ∧ yX4_takes.cls ≠ "java/lang/invoke/VarHandle" ∧ (parseMethodDescriptor yX4_takes.desc).map (fun d => d.parameters.length) = some 2 := by decide +kernel
set_option maxHeartbeats 4000000 in
set_option maxRecDepth 100000 in
theorem m_X4_takes (l : Launch) (v0 : Int32) (v1 : Int32) (res : Int32) (hf : fX4_takes v0 v1 = some res) : Met l yX4_takes wsX4_takes rmX4_takes (psPc [.int v0, .int v1]) (rdQ res) 0 0 (fun _ => False) := by
  refine Met.ofW (cc := cX4_takes) (maxL := 2) (ret := (some .boolean)) (by decide) rfl ?_
  intro p e s m args below meth c s₁ B hml hv
  obtain rfl := hv
  have hx := B.exec
  have hb := B.bytes
  have hr := B.returns
  have hts := atoms_spec (ws := wsX4_takes) B.pre
  have hown : s.vm.findClass RX4 = some m.cls := findClass_of_methodNamed B.named
  have hlocks := B.notSynchronized
  have hl := lv_entry ([.int v0, .int v1]) (n := 2) (Nat.le_of_ble_eq_true rfl)
  rw [lg_entry_eq]
  generalize (lg_sl ([.int v0, .int v1]) ++ List.replicate (2 - (lg_sl ([.int v0, .int v1])).length) Slot.unset).toArray = ls at hl ⊢
  have hl : lv_has ls 2 [(0, .int v0), (1, .int v1)] := hl
  obtain ⟨QQ, hQQ⟩ : ∃ Q, Q = MQ below (rdQ res) ([.int v0, .int v1] : List Value).toArray s 0 0 (fun _ => False) := ⟨_, rfl⟩
  rw [← hQQ]
  have h := hf
  unfold fX4_takes at h
  refine lv_iload_n hx hb dX4_takes_0 rfl (lv_at hl 1 rfl) ?_
  refine lv_iload_n hx hb dX4_takes_1 rfl (lv_at hl 0 rfl) ?_
  refine lv_iconst (v := 5) hx hb dX4_takes_2 (by decide) ?_
  refine lv_icmp_ne (tgt := 10) hx hb dX4_takes_3 (by decide) (fun c_1 => ?_) (fun c_1 => ?_)
  · have h := (if_neg c_1).symm.trans h
    refine lv_iconst (v := 0) hx hb dX4_takes_10 (by decide) ?_
    refine lv_icmp_eq (tgt := 18) hx hb dX4_takes_11 (by decide) (fun c_2 => ?_) (fun c_2 => ?_)
    · have h := (if_pos c_2).symm.trans h
      refine lv_iconst (v := 0) hx hb dX4_takes_18 (by decide) ?_
      rw [hQQ]
      exact W.zret (v := 0) (ty := .boolean) hx hb hr rfl (fun t ht hW => ⟨_, rfl, Option.some.inj h, ht⟩) (fun q hq => by cases hq) dX4_takes_19
    · have h := (if_neg c_2).symm.trans h
      refine lv_iconst (v := 1) hx hb dX4_takes_14 (by decide) ?_
      refine lv_goto (tgt := 19) hx hb dX4_takes_15 (by decide) ?_
      rw [hQQ]
      exact W.zret (v := 1) (ty := .boolean) hx hb hr rfl (fun t ht hW => ⟨_, rfl, Option.some.inj h, ht⟩) (fun q hq => by cases hq) dX4_takes_19
  · have h := (if_pos c_1).symm.trans h
    refine lv_iconst (v := 1) hx hb dX4_takes_6 (by decide) ?_
    refine lv_goto (tgt := 11) hx hb dX4_takes_7 (by decide) ?_
    refine lv_icmp_eq (tgt := 18) hx hb dX4_takes_11 (by decide) (fun c_3 => ?_) (fun c_3 => ?_)
    · have h := (if_pos c_3).symm.trans h
      refine lv_iconst (v := 0) hx hb dX4_takes_18 (by decide) ?_
      rw [hQQ]
      exact W.zret (v := 0) (ty := .boolean) hx hb hr rfl (fun t ht hW => ⟨_, rfl, Option.some.inj h, ht⟩) (fun q hq => by cases hq) dX4_takes_19
    · have h := (if_neg c_3).symm.trans h
      refine lv_iconst (v := 1) hx hb dX4_takes_14 (by decide) ?_
      refine lv_goto (tgt := 19) hx hb dX4_takes_15 (by decide) ?_
      rw [hQQ]
      exact W.zret (v := 1) (ty := .boolean) hx hb hr rfl (fun t ht hW => ⟨_, rfl, Option.some.inj h, ht⟩) (fun q hq => by cases hq) dX4_takes_19
def fX4_loses (v0 : Int32) (v1 : Int32) (v2 : Int32) : Option (Int32) :=
  (if v0 = 3 then (if (v1 - v2) < 2 then some (0) else some (1)) else (if v0 = 5 then (if v2 ≤ v1 then some (0) else some (1)) else (if v1 < v2 then some (0) else some (1))))
abbrev rmX4_loses : Room := { frames := 0, cells := 0, slots := 0, locals := 0 }
theorem ddX4_loses : yX4_loses.cls ≠ "java/lang/invoke/MethodHandle" ∧ yX4_loses.cls ≠ "java/lang/invoke/VarHandle" ∧ (parseMethodDescriptor yX4_loses.desc).map (fun d => d.parameters.length) = some 3 := by decide +kernel
set_option maxHeartbeats 4000000 in
set_option maxRecDepth 100000 in
theorem m_X4_loses (l : Launch) (v0 : Int32) (v1 : Int32) (v2 : Int32) (res : Int32) (hf : fX4_loses v0 v1 v2 = some res) : Met l yX4_loses wsX4_loses rmX4_loses (psPc [.int v0, .int v1, .int v2]) (rdQ res) 0 0 (fun _ => False) := by
  refine Met.ofW (cc := cX4_loses) (maxL := 3) (ret := (some .boolean)) (by decide) rfl ?_
  intro p e s m args below meth c s₁ B hml hv
  obtain rfl := hv
  have hx := B.exec
  have hb := B.bytes
  have hr := B.returns
  have hts := atoms_spec (ws := wsX4_loses) B.pre
  have hown : s.vm.findClass RX4 = some m.cls := findClass_of_methodNamed B.named
  have hlocks := B.notSynchronized
  have hl := lv_entry ([.int v0, .int v1, .int v2]) (n := 3) (Nat.le_of_ble_eq_true rfl)
  rw [lg_entry_eq]
  generalize (lg_sl ([.int v0, .int v1, .int v2]) ++ List.replicate (3 - (lg_sl ([.int v0, .int v1, .int v2])).length) Slot.unset).toArray = ls at hl ⊢
  have hl : lv_has ls 3 [(0, .int v0), (1, .int v1), (2, .int v2)] := hl
  obtain ⟨QQ, hQQ⟩ : ∃ Q, Q = MQ below (rdQ res) ([.int v0, .int v1, .int v2] : List Value).toArray s 0 0 (fun _ => False) := ⟨_, rfl⟩
  rw [← hQQ]
  have h := hf
  unfold fX4_loses at h
  refine lv_iload_n hx hb dX4_loses_0 rfl (lv_at hl 0 rfl) ?_
  by_cases c_1 : v0 = 3
  · have h := (if_pos c_1).symm.trans h
    refine lv_lookup (tgt := 39) hx hb dX4_loses_1 rfl (by rw [c_1] <;> rfl) (by decide) ?_
    refine lv_iload_n hx hb dX4_loses_39 rfl (lv_at hl 1 rfl) ?_
    refine lv_iload_n hx hb dX4_loses_40 rfl (lv_at hl 2 rfl) ?_
    refine lv_isub hx hb dX4_loses_41 ?_
    refine lv_iconst (v := 2) hx hb dX4_loses_42 (by decide) ?_
    refine lv_icmp_lt (tgt := 50) hx hb dX4_loses_43 (by decide) (fun c_2 => ?_) (fun c_2 => ?_)
    · have h := (if_pos c_2).symm.trans h
      refine lv_iconst (v := 0) hx hb dX4_loses_50 (by decide) ?_
      rw [hQQ]
      exact W.zret (v := 0) (ty := .boolean) hx hb hr rfl (fun t ht hW => ⟨_, rfl, Option.some.inj h, ht⟩) (fun q hq => by cases hq) dX4_loses_51
    · have h := (if_neg c_2).symm.trans h
      refine lv_iconst (v := 1) hx hb dX4_loses_46 (by decide) ?_
      refine lv_goto (tgt := 51) hx hb dX4_loses_47 (by decide) ?_
      rw [hQQ]
      exact W.zret (v := 1) (ty := .boolean) hx hb hr rfl (fun t ht hW => ⟨_, rfl, Option.some.inj h, ht⟩) (fun q hq => by cases hq) dX4_loses_51
  have h := (if_neg c_1).symm.trans h
  by_cases c_3 : v0 = 5
  · have h := (if_pos c_3).symm.trans h
    refine lv_lookup (tgt := 28) hx hb dX4_loses_1 rfl (by rw [c_3] <;> rfl) (by decide) ?_
    refine lv_iload_n hx hb dX4_loses_28 rfl (lv_at hl 2 rfl) ?_
    refine lv_iload_n hx hb dX4_loses_29 rfl (lv_at hl 1 rfl) ?_
    refine lv_icmp_le (tgt := 37) hx hb dX4_loses_30 (by decide) (fun c_4 => ?_) (fun c_4 => ?_)
    · have h := (if_pos c_4).symm.trans h
      refine lv_iconst (v := 0) hx hb dX4_loses_37 (by decide) ?_
      rw [hQQ]
      exact W.zret (v := 0) (ty := .boolean) hx hb hr rfl (fun t ht hW => ⟨_, rfl, Option.some.inj h, ht⟩) (fun q hq => by cases hq) dX4_loses_38
    · have h := (if_neg c_4).symm.trans h
      refine lv_iconst (v := 1) hx hb dX4_loses_33 (by decide) ?_
      refine lv_goto (tgt := 38) hx hb dX4_loses_34 (by decide) ?_
      rw [hQQ]
      exact W.zret (v := 1) (ty := .boolean) hx hb hr rfl (fun t ht hW => ⟨_, rfl, Option.some.inj h, ht⟩) (fun q hq => by cases hq) dX4_loses_38
  have h := (if_neg c_3).symm.trans h
  have n_1 : (v0).toInt ≠ 3 := ne_tn c_1 rfl
  have n_3 : (v0).toInt ≠ 5 := ne_tn c_3 rfl
  refine lv_lookup (tgt := 52) (off := 51) hx hb dX4_loses_1 rfl (by simp only [Op.lookupswitch.offset]; simp [Ne.symm n_1, Ne.symm n_3]) (by decide) ?_
  refine lv_iload_n hx hb dX4_loses_52 rfl (lv_at hl 2 rfl) ?_
  refine lv_iload_n hx hb dX4_loses_53 rfl (lv_at hl 1 rfl) ?_
  refine lv_icmp_gt (tgt := 61) hx hb dX4_loses_54 (by decide) (fun c_5 => ?_) (fun c_5 => ?_)
  · have h := (if_pos c_5).symm.trans h
    refine lv_iconst (v := 0) hx hb dX4_loses_61 (by decide) ?_
    rw [hQQ]
    exact W.zret (v := 0) (ty := .boolean) hx hb hr rfl (fun t ht hW => ⟨_, rfl, Option.some.inj h, ht⟩) (fun q hq => by cases hq) dX4_loses_62
  · have h := (if_neg c_5).symm.trans h
    refine lv_iconst (v := 1) hx hb dX4_loses_57 (by decide) ?_
    refine lv_goto (tgt := 62) hx hb dX4_loses_58 (by decide) ?_
    rw [hQQ]
    exact W.zret (v := 1) (ty := .boolean) hx hb hr rfl (fun t ht hW => ⟨_, rfl, Option.some.inj h, ht⟩) (fun q hq => by cases hq) dX4_loses_62
def fX6_beside (v0 : Int32) : Option (Int32) :=
  some (((((((v0 &&& (-16913)) <<< (1 &&& 31)) ||| ((v0 &&& (-1058)) >>> (1 &&& 31))) ||| (v0 <<< (5 &&& 31))) ||| (v0 >>> (5 &&& 31))) &&& 32767))
abbrev rmX6_beside : Room := { frames := 0, cells := 0, slots := 0, locals := 0 }
theorem ddX6_beside : yX6_beside.cls ≠ "java/lang/invoke/MethodHandle" ∧ yX6_beside.cls ≠ "java/lang/invoke/VarHandle" ∧ (parseMethodDescriptor yX6_beside.desc).map (fun d => d.parameters.length) = some 1 := by decide +kernel
set_option maxHeartbeats 4000000 in
set_option maxRecDepth 100000 in
theorem m_X6_beside (l : Launch) (v0 : Int32) (res : Int32) (hf : fX6_beside v0 = some res) : Met l yX6_beside wsX6_beside rmX6_beside (psPc [.int v0]) (rdQ res) 0 0 (fun _ => False) := by
  refine Met.ofW (cc := cX6_beside) (maxL := 3) (ret := (some .int)) (by decide) rfl ?_
  intro p e s m args below meth c s₁ B hml hv
  obtain rfl := hv
  have hx := B.exec
  have hb := B.bytes
  have hr := B.returns
  have hts := atoms_spec (ws := wsX6_beside) B.pre
  have hown : s.vm.findClass RX6 = some m.cls := findClass_of_methodNamed B.named
  have hlocks := B.notSynchronized
  have hl := lv_entry ([.int v0]) (n := 3) (Nat.le_of_ble_eq_true rfl)
  rw [lg_entry_eq]
  generalize (lg_sl ([.int v0]) ++ List.replicate (3 - (lg_sl ([.int v0])).length) Slot.unset).toArray = ls at hl ⊢
  have hl : lv_has ls 3 [(0, .int v0)] := hl
  obtain ⟨QQ, hQQ⟩ : ∃ Q, Q = MQ below (rdQ res) ([.int v0] : List Value).toArray s 0 0 (fun _ => False) := ⟨_, rfl⟩
  rw [← hQQ]
  have h := hf
  unfold fX6_beside at h
  refine lv_iload_n hx hb dX6_beside_0 rfl (lv_at hl 0 rfl) ?_
  refine lv_sipush (v := (-16913)) hx hb dX6_beside_1 (by decide) ?_
  refine lv_iand hx hb dX6_beside_4 ?_
  refine lv_iconst (v := 1) hx hb dX6_beside_5 (by decide) ?_
  refine lv_ishl hx hb dX6_beside_6 ?_
  refine lv_istore_n (lv' := [(1, .int ((v0 &&& (-16913)) <<< (1 &&& 31))), (0, .int v0)]) hx hb dX6_beside_7 rfl hl (by decide) rfl (fun ls hl => ?_)
  refine lv_iload_n hx hb dX6_beside_8 rfl (lv_at hl 1 rfl) ?_
  refine lv_sipush (v := (-1058)) hx hb dX6_beside_9 (by decide) ?_
  refine lv_iand hx hb dX6_beside_12 ?_
  refine lv_iconst (v := 1) hx hb dX6_beside_13 (by decide) ?_
  refine lv_ishr hx hb dX6_beside_14 ?_
  refine lv_istore_n (lv' := [(2, .int ((v0 &&& (-1058)) >>> (1 &&& 31))), (1, .int ((v0 &&& (-16913)) <<< (1 &&& 31))), (0, .int v0)]) hx hb dX6_beside_15 rfl hl (by decide) rfl (fun ls hl => ?_)
  refine lv_iload_n hx hb dX6_beside_16 rfl (lv_at hl 1 rfl) ?_
  refine lv_iload_n hx hb dX6_beside_17 rfl (lv_at hl 0 rfl) ?_
  refine lv_ior hx hb dX6_beside_18 ?_
  refine lv_iload_n hx hb dX6_beside_19 rfl (lv_at hl 2 rfl) ?_
  refine lv_iconst (v := 5) hx hb dX6_beside_20 (by decide) ?_
  refine lv_ishl hx hb dX6_beside_21 ?_
  refine lv_ior hx hb dX6_beside_22 ?_
  refine lv_iload_n hx hb dX6_beside_23 rfl (lv_at hl 2 rfl) ?_
  refine lv_iconst (v := 5) hx hb dX6_beside_24 (by decide) ?_
  refine lv_ishr hx hb dX6_beside_25 ?_
  refine lv_ior hx hb dX6_beside_26 ?_
  refine lv_sipush (v := 32767) hx hb dX6_beside_27 (by decide) ?_
  refine lv_iand hx hb dX6_beside_30 ?_
  rw [hQQ]
  exact W.iret (v := ((((((v0 &&& (-16913)) <<< (1 &&& 31)) ||| ((v0 &&& (-1058)) >>> (1 &&& 31))) ||| (v0 <<< (5 &&& 31))) ||| (v0 >>> (5 &&& 31))) &&& 32767)) hx hb hr (fun t ht hW => ⟨_, rfl, Option.some.inj h, ht⟩) (fun q hq => by cases hq) dX6_beside_31
def fX6_partFrom_L4 (v1 : Int32) : Nat → Int32 → Int32 → Option (Int32)
  | 0, _, _ => none
  | n + 1, v2_h4, v3_h4 => (if 15 ≤ v3_h4 then some (v2_h4) else bd1 (fX6_beside v2_h4) (fun r_2 => (if (v2_h4 ||| (r_2 &&& v1)) = v2_h4 then some (v2_h4) else ((fX6_partFrom_L4 v1 n) (v2_h4 ||| (r_2 &&& v1)) (v3_h4 + 1)))))
def fX6_partFrom (v0 : Int32) (v1 : Int32) : Option (Int32) :=
  (fX6_partFrom_L4 v1 FU v0 0)
abbrev rmX6_partFrom : Room := { frames := 1, cells := 0, slots := 0, locals := 22 }
theorem ddX6_partFrom : yX6_partFrom.cls ≠ "java/lang/invoke/MethodHandle" ∧ yX6_partFrom.cls ≠ "java/lang/invoke/VarHandle" ∧ (parseMethodDescriptor yX6_partFrom.desc).map (fun d => d.parameters.length) = some 2 := by decide +kernel
set_option maxHeartbeats 4000000 in
set_option maxRecDepth 100000 in
theorem m_X6_partFrom (l : Launch) (v0 : Int32) (v1 : Int32) (res : Int32) (hf : fX6_partFrom v0 v1 = some res) : Met l yX6_partFrom wsX6_partFrom rmX6_partFrom (psPc [.int v0, .int v1]) (rdQ res) 0 0 (fun _ => False) := by
  refine Met.ofW (cc := cX6_partFrom) (maxL := 5) (ret := (some .int)) (by decide) rfl ?_
  intro p e s m args below meth c s₁ B hml hv
  obtain rfl := hv
  have hx := B.exec
  have hb := B.bytes
  have hr := B.returns
  have hts := atoms_spec (ws := wsX6_partFrom) B.pre
  have hown : s.vm.findClass RX6 = some m.cls := findClass_of_methodNamed B.named
  have hlocks := B.notSynchronized
  have hl := lv_entry ([.int v0, .int v1]) (n := 5) (Nat.le_of_ble_eq_true rfl)
  rw [lg_entry_eq]
  generalize (lg_sl ([.int v0, .int v1]) ++ List.replicate (5 - (lg_sl ([.int v0, .int v1])).length) Slot.unset).toArray = ls at hl ⊢
  have hl : lv_has ls 5 [(0, .int v0), (1, .int v1)] := hl
  obtain ⟨QQ, hQQ⟩ : ∃ Q, Q = MQ below (rdQ res) ([.int v0, .int v1] : List Value).toArray s 0 0 (fun _ => False) := ⟨_, rfl⟩
  rw [← hQQ]
  have h := hf
  unfold fX6_partFrom at h
  refine lv_iload_n hx hb dX6_partFrom_0 rfl (lv_at hl 0 rfl) ?_
  refine lv_istore_n (lv' := [(2, .int v0), (0, .int v0), (1, .int v1)]) hx hb dX6_partFrom_1 rfl hl (by decide) rfl (fun ls hl => ?_)
  refine lv_iconst (v := 0) hx hb dX6_partFrom_2 (by decide) ?_
  refine lv_istore_n (lv' := [(3, .int 0), (2, .int v0), (0, .int v0), (1, .int v1)]) hx hb dX6_partFrom_3 rfl hl (by decide) rfl (fun ls hl => ?_)
  have KL4 : ∀ (n : Nat) (v2_h4 : Int32) (v3_h4 : Int32) (ls : Array Slot), lv_has ls 5 [(1, .int v1), (2, .int v2_h4), (3, .int v3_h4)] → fX6_partFrom_L4 v1 n v2_h4 v3_h4 = some res → W p l e (headSpec wsX6_partFrom rmX6_partFrom).room s m ([.int v0, .int v1] : List Value).toArray below meth c s.heap [] 0 0 QQ (F0 m 4 ls []) := by
    intro  n
    induction n with
    | zero => intro v2_h4 v3_h4 ls hl h; rw [fX6_partFrom_L4.eq_1] at h; cases h
    | succ n ih =>
      intro v2_h4 v3_h4 ls hl h
      rw [fX6_partFrom_L4.eq_2] at h
      refine lv_iload_n hx hb dX6_partFrom_4 rfl (lv_at hl 2 rfl) ?_
      refine lv_bipush (v := 15) hx hb dX6_partFrom_5 (by decide) ?_
      refine lv_icmp_ge (tgt := 37) hx hb dX6_partFrom_7 (by decide) (fun c_1 => ?_) (fun c_1 => ?_)
      · have h := (if_pos c_1).symm.trans h
        refine lv_iload_n hx hb dX6_partFrom_37 rfl (lv_at hl 1 rfl) ?_
        rw [hQQ]
        exact W.iret (v := v2_h4) hx hb hr (fun t ht hW => ⟨_, rfl, Option.some.inj h, ht⟩) (fun q hq => by cases hq) dX6_partFrom_38
      · have h := (if_neg c_1).symm.trans h
        refine lv_iload_n hx hb dX6_partFrom_10 rfl (lv_at hl 1 rfl) ?_
        refine lv_iload_n hx hb dX6_partFrom_11 rfl (lv_at hl 1 rfl) ?_
        obtain ⟨r_2, hc_2, h⟩ := bd1_of h
        refine cl_pS (As := [.int v2_h4]) (rest := [.int v2_h4]) ⟨hx, hb, hml, hown, hts⟩ (m_X6_beside l v2_h4 (r_2) hc_2) (va_cwS 1 hts gX6_partFrom_X6_beside rfl rfl rfl ddX6_beside ⟨Nat.le_of_ble_eq_true rfl, Nat.le_of_ble_eq_true rfl⟩) rfl rfl hl.1 (Nat.le_of_ble_eq_true rfl) ⟨Nat.zero_le _, Nat.zero_le _⟩ dX6_partFrom_12 ?_
        refine lv_iload_n hx hb dX6_partFrom_15 rfl (lv_at hl 0 rfl) ?_
        refine lv_iand hx hb dX6_partFrom_16 ?_
        refine lv_ior hx hb dX6_partFrom_17 ?_
        refine lv_istore (lv' := [(4, .int (v2_h4 ||| (r_2 &&& v1))), (1, .int v1), (2, .int v2_h4), (3, .int v3_h4)]) hx hb dX6_partFrom_18 hl (by decide) rfl (fun ls hl => ?_)
        refine lv_iload hx hb dX6_partFrom_20 (lv_at hl 0 rfl) ?_
        refine lv_iload_n hx hb dX6_partFrom_22 rfl (lv_at hl 2 rfl) ?_
        refine lv_icmp_ne (tgt := 28) hx hb dX6_partFrom_23 (by decide) (fun c_3 => ?_) (fun c_3 => ?_)
        · have h := (if_neg c_3).symm.trans h
          refine lv_iload hx hb dX6_partFrom_28 (lv_at hl 0 rfl) ?_
          refine lv_istore_n (lv' := [(2, .int (v2_h4 ||| (r_2 &&& v1))), (4, .int (v2_h4 ||| (r_2 &&& v1))), (1, .int v1), (3, .int v3_h4)]) hx hb dX6_partFrom_30 rfl hl (by decide) rfl (fun ls hl => ?_)
          refine lv_iinc (v := (v3_h4 + 1)) (lv' := [(3, .int (v3_h4 + 1)), (2, .int (v2_h4 ||| (r_2 &&& v1))), (4, .int (v2_h4 ||| (r_2 &&& v1))), (1, .int v1)]) hx hb dX6_partFrom_31 hl (k := 3) rfl rfl (by decide) rfl (fun ls hl => ?_)
          refine lv_goto (tgt := 4) hx hb dX6_partFrom_34 (by decide) ?_
          exact ih (v2_h4 ||| (r_2 &&& v1)) (v3_h4 + 1) _ (lv_sub hl [3, 1, 0] rfl) h
        · have h := (if_pos c_3).symm.trans h
          refine lv_iload_n hx hb dX6_partFrom_26 rfl (lv_at hl 2 rfl) ?_
          rw [hQQ]
          exact W.iret (v := v2_h4) hx hb hr (fun t ht hW => ⟨_, rfl, Option.some.inj h, ht⟩) (fun q hq => by cases hq) dX6_partFrom_27
  exact KL4 FU v0 0 _ (lv_sub hl [3, 1, 0] rfl) h
def fX6_parts_L10 : Nat → Int32 → Int32 → Int32 → Option (Int32)
  | 0, _, _, _ => none
  | n + 1, v1_h10, v2_h10, v3_h10 => (if 15 ≤ v3_h10 then some (v2_h10) else (if v1_h10 = 0 then some (v2_h10) else bd1 (fX6_partFrom (v1_h10 &&& (-v1_h10)) v1_h10) (fun r_3 => ((fX6_parts_L10  n) (v1_h10 &&& (r_3 ^^^ (-1))) (v2_h10 + 1) (v3_h10 + 1)))))
def fX6_parts (v0 : Int32) : Option (Int32) :=
  (fX6_parts_L10 FU (v0 &&& 32767) 0 0)
abbrev rmX6_parts : Room := { frames := 2, cells := 0, slots := 0, locals := 46 }
theorem ddX6_parts : yX6_parts.cls ≠ "java/lang/invoke/MethodHandle" ∧ yX6_parts.cls ≠ "java/lang/invoke/VarHandle" ∧ (parseMethodDescriptor yX6_parts.desc).map (fun d => d.parameters.length) = some 1 := by decide +kernel
set_option maxHeartbeats 4000000 in
set_option maxRecDepth 100000 in
theorem m_X6_parts (l : Launch) (v0 : Int32) (res : Int32) (hf : fX6_parts v0 = some res) : Met l yX6_parts wsX6_parts rmX6_parts (psPc [.int v0]) (rdQ res) 0 0 (fun _ => False) := by
  refine Met.ofW (cc := cX6_parts) (maxL := 4) (ret := (some .int)) (by decide) rfl ?_
  intro p e s m args below meth c s₁ B hml hv
  obtain rfl := hv
  have hx := B.exec
  have hb := B.bytes
  have hr := B.returns
  have hts := atoms_spec (ws := wsX6_parts) B.pre
  have hown : s.vm.findClass RX6 = some m.cls := findClass_of_methodNamed B.named
  have hlocks := B.notSynchronized
  have hl := lv_entry ([.int v0]) (n := 4) (Nat.le_of_ble_eq_true rfl)
  rw [lg_entry_eq]
  generalize (lg_sl ([.int v0]) ++ List.replicate (4 - (lg_sl ([.int v0])).length) Slot.unset).toArray = ls at hl ⊢
  have hl : lv_has ls 4 [(0, .int v0)] := hl
  obtain ⟨QQ, hQQ⟩ : ∃ Q, Q = MQ below (rdQ res) ([.int v0] : List Value).toArray s 0 0 (fun _ => False) := ⟨_, rfl⟩
  rw [← hQQ]
  have h := hf
  unfold fX6_parts at h
  refine lv_iload_n hx hb dX6_parts_0 rfl (lv_at hl 0 rfl) ?_
  refine lv_sipush (v := 32767) hx hb dX6_parts_1 (by decide) ?_
  refine lv_iand hx hb dX6_parts_4 ?_
  refine lv_istore_n (lv' := [(1, .int (v0 &&& 32767)), (0, .int v0)]) hx hb dX6_parts_5 rfl hl (by decide) rfl (fun ls hl => ?_)
  refine lv_iconst (v := 0) hx hb dX6_parts_6 (by decide) ?_
  refine lv_istore_n (lv' := [(2, .int 0), (1, .int (v0 &&& 32767)), (0, .int v0)]) hx hb dX6_parts_7 rfl hl (by decide) rfl (fun ls hl => ?_)
  refine lv_iconst (v := 0) hx hb dX6_parts_8 (by decide) ?_
  refine lv_istore_n (lv' := [(3, .int 0), (2, .int 0), (1, .int (v0 &&& 32767)), (0, .int v0)]) hx hb dX6_parts_9 rfl hl (by decide) rfl (fun ls hl => ?_)
  have KL10 : ∀ (n : Nat) (v1_h10 : Int32) (v2_h10 : Int32) (v3_h10 : Int32) (ls : Array Slot), lv_has ls 4 [(1, .int v1_h10), (2, .int v2_h10), (3, .int v3_h10)] → fX6_parts_L10 n v1_h10 v2_h10 v3_h10 = some res → W p l e (headSpec wsX6_parts rmX6_parts).room s m ([.int v0] : List Value).toArray below meth c s.heap [] 0 0 QQ (F0 m 10 ls []) := by
    intro  n
    induction n with
    | zero => intro v1_h10 v2_h10 v3_h10 ls hl h; rw [fX6_parts_L10.eq_1] at h; cases h
    | succ n ih =>
      intro v1_h10 v2_h10 v3_h10 ls hl h
      rw [fX6_parts_L10.eq_2] at h
      refine lv_iload_n hx hb dX6_parts_10 rfl (lv_at hl 2 rfl) ?_
      refine lv_bipush (v := 15) hx hb dX6_parts_11 (by decide) ?_
      refine lv_icmp_ge (tgt := 42) hx hb dX6_parts_13 (by decide) (fun c_1 => ?_) (fun c_1 => ?_)
      · have h := (if_pos c_1).symm.trans h
        refine lv_iload_n hx hb dX6_parts_42 rfl (lv_at hl 1 rfl) ?_
        rw [hQQ]
        exact W.iret (v := v2_h10) hx hb hr (fun t ht hW => ⟨_, rfl, Option.some.inj h, ht⟩) (fun q hq => by cases hq) dX6_parts_43
      · have h := (if_neg c_1).symm.trans h
        refine lv_iload_n hx hb dX6_parts_16 rfl (lv_at hl 0 rfl) ?_
        refine lv_if_eq (tgt := 42) hx hb dX6_parts_17 (by decide) (fun c_2 => ?_) (fun c_2 => ?_)
        · have h := (if_pos c_2).symm.trans h
          refine lv_iload_n hx hb dX6_parts_42 rfl (lv_at hl 1 rfl) ?_
          rw [hQQ]
          exact W.iret (v := v2_h10) hx hb hr (fun t ht hW => ⟨_, rfl, Option.some.inj h, ht⟩) (fun q hq => by cases hq) dX6_parts_43
        · have h := (if_neg c_2).symm.trans h
          refine lv_iload_n hx hb dX6_parts_20 rfl (lv_at hl 0 rfl) ?_
          refine lv_iload_n hx hb dX6_parts_21 rfl (lv_at hl 0 rfl) ?_
          refine lv_iload_n hx hb dX6_parts_22 rfl (lv_at hl 0 rfl) ?_
          refine lv_ineg hx hb dX6_parts_23 ?_
          refine lv_iand hx hb dX6_parts_24 ?_
          refine lv_iload_n hx hb dX6_parts_25 rfl (lv_at hl 0 rfl) ?_
          obtain ⟨r_3, hc_3, h⟩ := bd1_of h
          refine cl_pS (As := [.int (v1_h10 &&& (-v1_h10)), .int v1_h10]) (rest := [.int v1_h10]) ⟨hx, hb, hml, hown, hts⟩ (m_X6_partFrom l (v1_h10 &&& (-v1_h10)) v1_h10 (r_3) hc_3) (va_cwS 2 hts gX6_parts_X6_partFrom rfl rfl rfl ddX6_partFrom ⟨Nat.le_of_ble_eq_true rfl, Nat.le_of_ble_eq_true rfl⟩) rfl rfl hl.1 (Nat.le_of_ble_eq_true rfl) ⟨Nat.zero_le _, Nat.zero_le _⟩ dX6_parts_26 ?_
          refine lv_iconst (v := (-1)) hx hb dX6_parts_29 (by decide) ?_
          refine lv_ixor hx hb dX6_parts_30 ?_
          refine lv_iand hx hb dX6_parts_31 ?_
          refine lv_istore_n (lv' := [(1, .int (v1_h10 &&& (r_3 ^^^ (-1)))), (2, .int v2_h10), (3, .int v3_h10)]) hx hb dX6_parts_32 rfl hl (by decide) rfl (fun ls hl => ?_)
          refine lv_iinc (v := (v2_h10 + 1)) (lv' := [(2, .int (v2_h10 + 1)), (1, .int (v1_h10 &&& (r_3 ^^^ (-1)))), (3, .int v3_h10)]) hx hb dX6_parts_33 hl (k := 1) rfl rfl (by decide) rfl (fun ls hl => ?_)
          refine lv_iinc (v := (v3_h10 + 1)) (lv' := [(3, .int (v3_h10 + 1)), (2, .int (v2_h10 + 1)), (1, .int (v1_h10 &&& (r_3 ^^^ (-1))))]) hx hb dX6_parts_36 hl (k := 2) rfl rfl (by decide) rfl (fun ls hl => ?_)
          refine lv_goto (tgt := 10) hx hb dX6_parts_39 (by decide) ?_
          exact ih (v1_h10 &&& (r_3 ^^^ (-1))) (v2_h10 + 1) (v3_h10 + 1) _ (lv_sub hl [2, 1, 0] rfl) h
  exact KL10 FU (v0 &&& 32767) 0 0 _ (lv_sub hl [2, 1, 0] rfl) h

def fX6_cutting_L9 (v0 : Int32) (r_1 : Int32) : Nat → Int32 → Int32 → Option (Int32)
  | 0, _, _ => none
  | n + 1, v2_h9, v3_h9 => (if 15 ≤ v3_h9 then some (v2_h9) else bd1 (fX6_parts (v0 &&& ((1 <<< (v3_h9 &&& 31)) ^^^ (-1)))) (fun r_3 => (if r_3 ≤ r_1 then ((fX6_cutting_L9 v0 r_1 n) v2_h9 (v3_h9 + 1)) else ((fX6_cutting_L9 v0 r_1 n) (v2_h9 ||| (1 <<< (v3_h9 &&& 31))) (v3_h9 + 1)))))
def fX6_cutting (v0 : Int32) : Option (Int32) :=
  bd1 (fX6_parts v0) (fun r_1 => (fX6_cutting_L9 v0 r_1 FU 0 0))
abbrev rmX6_cutting : Room := { frames := 3, cells := 0, slots := 0, locals := 69 }
theorem ddX6_cutting : yX6_cutting.cls ≠ "java/lang/invoke/MethodHandle" ∧ yX6_cutting.cls ≠ "java/lang/invoke/VarHandle" ∧ (parseMethodDescriptor yX6_cutting.desc).map (fun d => d.parameters.length) = some 1 := by decide +kernel
set_option maxHeartbeats 4000000 in
set_option maxRecDepth 100000 in
theorem m_X6_cutting (l : Launch) (v0 : Int32) (res : Int32) (hf : fX6_cutting v0 = some res) : Met l yX6_cutting wsX6_cutting rmX6_cutting (psPc [.int v0]) (rdQ res) 0 0 (fun _ => False) := by
  refine Met.ofW (cc := cX6_cutting) (maxL := 4) (ret := (some .int)) (by decide) rfl ?_
  intro p e s m args below meth c s₁ B hml hv
  obtain rfl := hv
  have hx := B.exec
  have hb := B.bytes
  have hr := B.returns
  have hts := atoms_spec (ws := wsX6_cutting) B.pre
  have hown : s.vm.findClass RX6 = some m.cls := findClass_of_methodNamed B.named
  have hlocks := B.notSynchronized
  have hl := lv_entry ([.int v0]) (n := 4) (Nat.le_of_ble_eq_true rfl)
  rw [lg_entry_eq]
  generalize (lg_sl ([.int v0]) ++ List.replicate (4 - (lg_sl ([.int v0])).length) Slot.unset).toArray = ls at hl ⊢
  have hl : lv_has ls 4 [(0, .int v0)] := hl
  obtain ⟨QQ, hQQ⟩ : ∃ Q, Q = MQ below (rdQ res) ([.int v0] : List Value).toArray s 0 0 (fun _ => False) := ⟨_, rfl⟩
  rw [← hQQ]
  have h := hf
  unfold fX6_cutting at h
  refine lv_iload_n hx hb dX6_cutting_0 rfl (lv_at hl 0 rfl) ?_
  obtain ⟨r_1, hc_1, h⟩ := bd1_of h
  refine cl_pS (As := [.int v0]) (rest := []) ⟨hx, hb, hml, hown, hts⟩ (m_X6_parts l v0 (r_1) hc_1) (va_cwS 1 hts gX6_cutting_X6_parts rfl rfl rfl ddX6_parts ⟨Nat.le_of_ble_eq_true rfl, Nat.le_of_ble_eq_true rfl⟩) rfl rfl hl.1 (Nat.le_of_ble_eq_true rfl) ⟨Nat.zero_le _, Nat.zero_le _⟩ dX6_cutting_1 ?_
  refine lv_istore_n (lv' := [(1, .int r_1), (0, .int v0)]) hx hb dX6_cutting_4 rfl hl (by decide) rfl (fun ls hl => ?_)
  refine lv_iconst (v := 0) hx hb dX6_cutting_5 (by decide) ?_
  refine lv_istore_n (lv' := [(2, .int 0), (1, .int r_1), (0, .int v0)]) hx hb dX6_cutting_6 rfl hl (by decide) rfl (fun ls hl => ?_)
  refine lv_iconst (v := 0) hx hb dX6_cutting_7 (by decide) ?_
  refine lv_istore_n (lv' := [(3, .int 0), (2, .int 0), (1, .int r_1), (0, .int v0)]) hx hb dX6_cutting_8 rfl hl (by decide) rfl (fun ls hl => ?_)
  have KL9 : ∀ (n : Nat) (v2_h9 : Int32) (v3_h9 : Int32) (ls : Array Slot), lv_has ls 4 [(0, .int v0), (1, .int r_1), (2, .int v2_h9), (3, .int v3_h9)] → fX6_cutting_L9 v0 r_1 n v2_h9 v3_h9 = some res → W p l e (headSpec wsX6_cutting rmX6_cutting).room s m ([.int v0] : List Value).toArray below meth c s.heap [] 0 0 QQ (F0 m 9 ls []) := by
    intro  n
    induction n with
    | zero => intro v2_h9 v3_h9 ls hl h; rw [fX6_cutting_L9.eq_1] at h; cases h
    | succ n ih =>
      intro v2_h9 v3_h9 ls hl h
      rw [fX6_cutting_L9.eq_2] at h
      refine lv_iload_n hx hb dX6_cutting_9 rfl (lv_at hl 3 rfl) ?_
      refine lv_bipush (v := 15) hx hb dX6_cutting_10 (by decide) ?_
      refine lv_icmp_ge (tgt := 41) hx hb dX6_cutting_12 (by decide) (fun c_2 => ?_) (fun c_2 => ?_)
      · have h := (if_pos c_2).symm.trans h
        refine lv_iload_n hx hb dX6_cutting_41 rfl (lv_at hl 2 rfl) ?_
        rw [hQQ]
        exact W.iret (v := v2_h9) hx hb hr (fun t ht hW => ⟨_, rfl, Option.some.inj h, ht⟩) (fun q hq => by cases hq) dX6_cutting_42
      · have h := (if_neg c_2).symm.trans h
        refine lv_iload_n hx hb dX6_cutting_15 rfl (lv_at hl 0 rfl) ?_
        refine lv_iconst (v := 1) hx hb dX6_cutting_16 (by decide) ?_
        refine lv_iload_n hx hb dX6_cutting_17 rfl (lv_at hl 3 rfl) ?_
        refine lv_ishl hx hb dX6_cutting_18 ?_
        refine lv_iconst (v := (-1)) hx hb dX6_cutting_19 (by decide) ?_
        refine lv_ixor hx hb dX6_cutting_20 ?_
        refine lv_iand hx hb dX6_cutting_21 ?_
        obtain ⟨r_3, hc_3, h⟩ := bd1_of h
        refine cl_pS (As := [.int (v0 &&& ((1 <<< (v3_h9 &&& 31)) ^^^ (-1)))]) (rest := []) ⟨hx, hb, hml, hown, hts⟩ (m_X6_parts l (v0 &&& ((1 <<< (v3_h9 &&& 31)) ^^^ (-1))) (r_3) hc_3) (va_cwS 1 hts gX6_cutting_X6_parts rfl rfl rfl ddX6_parts ⟨Nat.le_of_ble_eq_true rfl, Nat.le_of_ble_eq_true rfl⟩) rfl rfl hl.1 (Nat.le_of_ble_eq_true rfl) ⟨Nat.zero_le _, Nat.zero_le _⟩ dX6_cutting_22 ?_
        refine lv_iload_n hx hb dX6_cutting_25 rfl (lv_at hl 1 rfl) ?_
        refine lv_icmp_le (tgt := 35) hx hb dX6_cutting_26 (by decide) (fun c_4 => ?_) (fun c_4 => ?_)
        · have h := (if_pos c_4).symm.trans h
          refine lv_iinc (v := (v3_h9 + 1)) (lv' := [(3, .int (v3_h9 + 1)), (0, .int v0), (1, .int r_1), (2, .int v2_h9)]) hx hb dX6_cutting_35 hl (k := 3) rfl rfl (by decide) rfl (fun ls hl => ?_)
          refine lv_goto (tgt := 9) hx hb dX6_cutting_38 (by decide) ?_
          exact ih v2_h9 (v3_h9 + 1) _ (lv_sub hl [1, 2, 3, 0] rfl) h
        · have h := (if_neg c_4).symm.trans h
          refine lv_iload_n hx hb dX6_cutting_29 rfl (lv_at hl 2 rfl) ?_
          refine lv_iconst (v := 1) hx hb dX6_cutting_30 (by decide) ?_
          refine lv_iload_n hx hb dX6_cutting_31 rfl (lv_at hl 3 rfl) ?_
          refine lv_ishl hx hb dX6_cutting_32 ?_
          refine lv_ior hx hb dX6_cutting_33 ?_
          refine lv_istore_n (lv' := [(2, .int (v2_h9 ||| (1 <<< (v3_h9 &&& 31)))), (0, .int v0), (1, .int r_1), (3, .int v3_h9)]) hx hb dX6_cutting_34 rfl hl (by decide) rfl (fun ls hl => ?_)
          refine lv_iinc (v := (v3_h9 + 1)) (lv' := [(3, .int (v3_h9 + 1)), (2, .int (v2_h9 ||| (1 <<< (v3_h9 &&& 31)))), (0, .int v0), (1, .int r_1)]) hx hb dX6_cutting_35 hl (k := 3) rfl rfl (by decide) rfl (fun ls hl => ?_)
          refine lv_goto (tgt := 9) hx hb dX6_cutting_38 (by decide) ?_
          exact ih (v2_h9 ||| (1 <<< (v3_h9 &&& 31))) (v3_h9 + 1) _ (lv_sub hl [2, 3, 1, 0] rfl) h
  exact KL9 FU 0 0 _ (lv_sub hl [3, 2, 1, 0] rfl) h
def fJ6_bitCount_0f7a4 (v0 : Int32) : Option (Int32) :=
  some (((((((((v0 - (((v0.toUInt32 >>> ((1 : Int32).toUInt32 &&& Int32.toUInt32 31)).toInt32) &&& 1431655765)) &&& 858993459) + ((((v0 - (((v0.toUInt32 >>> ((1 : Int32).toUInt32 &&& Int32.toUInt32 31)).toInt32) &&& 1431655765)).toUInt32 >>> ((2 : Int32).toUInt32 &&& Int32.toUInt32 31)).toInt32) &&& 858993459)) + (((((v0 - (((v0.toUInt32 >>> ((1 : Int32).toUInt32 &&& Int32.toUInt32 31)).toInt32) &&& 1431655765)) &&& 858993459) + ((((v0 - (((v0.toUInt32 >>> ((1 : Int32).toUInt32 &&& Int32.toUInt32 31)).toInt32) &&& 1431655765)).toUInt32 >>> ((2 : Int32).toUInt32 &&& Int32.toUInt32 31)).toInt32) &&& 858993459)).toUInt32 >>> ((4 : Int32).toUInt32 &&& Int32.toUInt32 31)).toInt32)) &&& 252645135) + (((((((v0 - (((v0.toUInt32 >>> ((1 : Int32).toUInt32 &&& Int32.toUInt32 31)).toInt32) &&& 1431655765)) &&& 858993459) + ((((v0 - (((v0.toUInt32 >>> ((1 : Int32).toUInt32 &&& Int32.toUInt32 31)).toInt32) &&& 1431655765)).toUInt32 >>> ((2 : Int32).toUInt32 &&& Int32.toUInt32 31)).toInt32) &&& 858993459)) + (((((v0 - (((v0.toUInt32 >>> ((1 : Int32).toUInt32 &&& Int32.toUInt32 31)).toInt32) &&& 1431655765)) &&& 858993459) + ((((v0 - (((v0.toUInt32 >>> ((1 : Int32).toUInt32 &&& Int32.toUInt32 31)).toInt32) &&& 1431655765)).toUInt32 >>> ((2 : Int32).toUInt32 &&& Int32.toUInt32 31)).toInt32) &&& 858993459)).toUInt32 >>> ((4 : Int32).toUInt32 &&& Int32.toUInt32 31)).toInt32)) &&& 252645135).toUInt32 >>> ((8 : Int32).toUInt32 &&& Int32.toUInt32 31)).toInt32)) + ((((((((v0 - (((v0.toUInt32 >>> ((1 : Int32).toUInt32 &&& Int32.toUInt32 31)).toInt32) &&& 1431655765)) &&& 858993459) + ((((v0 - (((v0.toUInt32 >>> ((1 : Int32).toUInt32 &&& Int32.toUInt32 31)).toInt32) &&& 1431655765)).toUInt32 >>> ((2 : Int32).toUInt32 &&& Int32.toUInt32 31)).toInt32) &&& 858993459)) + (((((v0 - (((v0.toUInt32 >>> ((1 : Int32).toUInt32 &&& Int32.toUInt32 31)).toInt32) &&& 1431655765)) &&& 858993459) + ((((v0 - (((v0.toUInt32 >>> ((1 : Int32).toUInt32 &&& Int32.toUInt32 31)).toInt32) &&& 1431655765)).toUInt32 >>> ((2 : Int32).toUInt32 &&& Int32.toUInt32 31)).toInt32) &&& 858993459)).toUInt32 >>> ((4 : Int32).toUInt32 &&& Int32.toUInt32 31)).toInt32)) &&& 252645135) + (((((((v0 - (((v0.toUInt32 >>> ((1 : Int32).toUInt32 &&& Int32.toUInt32 31)).toInt32) &&& 1431655765)) &&& 858993459) + ((((v0 - (((v0.toUInt32 >>> ((1 : Int32).toUInt32 &&& Int32.toUInt32 31)).toInt32) &&& 1431655765)).toUInt32 >>> ((2 : Int32).toUInt32 &&& Int32.toUInt32 31)).toInt32) &&& 858993459)) + (((((v0 - (((v0.toUInt32 >>> ((1 : Int32).toUInt32 &&& Int32.toUInt32 31)).toInt32) &&& 1431655765)) &&& 858993459) + ((((v0 - (((v0.toUInt32 >>> ((1 : Int32).toUInt32 &&& Int32.toUInt32 31)).toInt32) &&& 1431655765)).toUInt32 >>> ((2 : Int32).toUInt32 &&& Int32.toUInt32 31)).toInt32) &&& 858993459)).toUInt32 >>> ((4 : Int32).toUInt32 &&& Int32.toUInt32 31)).toInt32)) &&& 252645135).toUInt32 >>> ((8 : Int32).toUInt32 &&& Int32.toUInt32 31)).toInt32)).toUInt32 >>> ((16 : Int32).toUInt32 &&& Int32.toUInt32 31)).toInt32)) &&& 63))
abbrev rmJ6_bitCount_0f7a4 : Room := { frames := 0, cells := 0, slots := 0, locals := 0 }
theorem ddJ6_bitCount_0f7a4 : yJ6_bitCount_0f7a4.cls ≠ "java/lang/invoke/MethodHandle" ∧ yJ6_bitCount_0f7a4.cls ≠ "java/lang/invoke/VarHandle" ∧ (parseMethodDescriptor yJ6_bitCount_0f7a4.desc).map (fun d => d.parameters.length) = some 1 := by decide +kernel
set_option maxHeartbeats 4000000 in
set_option maxRecDepth 100000 in
theorem m_J6_bitCount_0f7a4 (l : Launch) (v0 : Int32) (res : Int32) (hf : fJ6_bitCount_0f7a4 v0 = some res) : Met l yJ6_bitCount_0f7a4 wsJ6_bitCount_0f7a4 rmJ6_bitCount_0f7a4 (psPc [.int v0]) (rdQ res) 0 0 (fun _ => False) := by
  refine Met.ofW (cc := cJ6_bitCount_0f7a4) (maxL := 1) (ret := (some .int)) (by decide) rfl ?_
  intro p e s m args below meth c s₁ B hml hv
  obtain rfl := hv
  have hx := B.exec
  have hb := B.bytes
  have hr := B.returns
  have hts := atoms_spec (ws := wsJ6_bitCount_0f7a4) B.pre
  have hown : s.vm.findClass RJ6 = some m.cls := findClass_of_methodNamed B.named
  have hlocks := B.notSynchronized
  have hl := lv_entry ([.int v0]) (n := 1) (Nat.le_of_ble_eq_true rfl)
  rw [lg_entry_eq]
  generalize (lg_sl ([.int v0]) ++ List.replicate (1 - (lg_sl ([.int v0])).length) Slot.unset).toArray = ls at hl ⊢
  have hl : lv_has ls 1 [(0, .int v0)] := hl
  obtain ⟨QQ, hQQ⟩ : ∃ Q, Q = MQ below (rdQ res) ([.int v0] : List Value).toArray s 0 0 (fun _ => False) := ⟨_, rfl⟩
  rw [← hQQ]
  have w_0 := hts (Cond.constant RJ6 265 (1431655765)) (List.mem_of_getElem? (i := 1) rfl)
  have w_1 := hts (Cond.constant RJ6 266 (858993459)) (List.mem_of_getElem? (i := 2) rfl)
  have w_2 := hts (Cond.constant RJ6 267 (252645135)) (List.mem_of_getElem? (i := 3) rfl)
  have h := hf
  unfold fJ6_bitCount_0f7a4 at h
  refine lv_iload_n hx hb dJ6_bitCount_0f7a4_0 rfl (lv_at hl 0 rfl) ?_
  refine lv_iload_n hx hb dJ6_bitCount_0f7a4_1 rfl (lv_at hl 0 rfl) ?_
  refine lv_iconst (v := 1) hx hb dJ6_bitCount_0f7a4_2 (by decide) ?_
  refine lv_iushr hx hb dJ6_bitCount_0f7a4_3 rfl ?_
  refine lv_ldcw hx hb hown w_0 dJ6_bitCount_0f7a4_4 ?_
  refine lv_iand hx hb dJ6_bitCount_0f7a4_7 ?_
  refine lv_isub hx hb dJ6_bitCount_0f7a4_8 ?_
  refine lv_istore_n (lv' := [(0, .int (v0 - (((v0.toUInt32 >>> ((1 : Int32).toUInt32 &&& Int32.toUInt32 31)).toInt32) &&& 1431655765)))]) hx hb dJ6_bitCount_0f7a4_9 rfl hl (by decide) rfl (fun ls hl => ?_)
  refine lv_iload_n hx hb dJ6_bitCount_0f7a4_10 rfl (lv_at hl 0 rfl) ?_
  refine lv_ldcw hx hb hown w_1 dJ6_bitCount_0f7a4_11 ?_
  refine lv_iand hx hb dJ6_bitCount_0f7a4_14 ?_
  refine lv_iload_n hx hb dJ6_bitCount_0f7a4_15 rfl (lv_at hl 0 rfl) ?_
  refine lv_iconst (v := 2) hx hb dJ6_bitCount_0f7a4_16 (by decide) ?_
  refine lv_iushr hx hb dJ6_bitCount_0f7a4_17 rfl ?_
  refine lv_ldcw hx hb hown w_1 dJ6_bitCount_0f7a4_18 ?_
  refine lv_iand hx hb dJ6_bitCount_0f7a4_21 ?_
  refine lv_iadd hx hb dJ6_bitCount_0f7a4_22 ?_
  refine lv_istore_n (lv' := [(0, .int (((v0 - (((v0.toUInt32 >>> ((1 : Int32).toUInt32 &&& Int32.toUInt32 31)).toInt32) &&& 1431655765)) &&& 858993459) + ((((v0 - (((v0.toUInt32 >>> ((1 : Int32).toUInt32 &&& Int32.toUInt32 31)).toInt32) &&& 1431655765)).toUInt32 >>> ((2 : Int32).toUInt32 &&& Int32.toUInt32 31)).toInt32) &&& 858993459)))]) hx hb dJ6_bitCount_0f7a4_23 rfl hl (by decide) rfl (fun ls hl => ?_)
  refine lv_iload_n hx hb dJ6_bitCount_0f7a4_24 rfl (lv_at hl 0 rfl) ?_
  refine lv_iload_n hx hb dJ6_bitCount_0f7a4_25 rfl (lv_at hl 0 rfl) ?_
  refine lv_iconst (v := 4) hx hb dJ6_bitCount_0f7a4_26 (by decide) ?_
  refine lv_iushr hx hb dJ6_bitCount_0f7a4_27 rfl ?_
  refine lv_iadd hx hb dJ6_bitCount_0f7a4_28 ?_
  refine lv_ldcw hx hb hown w_2 dJ6_bitCount_0f7a4_29 ?_
  refine lv_iand hx hb dJ6_bitCount_0f7a4_32 ?_
  refine lv_istore_n (lv' := [(0, .int (((((v0 - (((v0.toUInt32 >>> ((1 : Int32).toUInt32 &&& Int32.toUInt32 31)).toInt32) &&& 1431655765)) &&& 858993459) + ((((v0 - (((v0.toUInt32 >>> ((1 : Int32).toUInt32 &&& Int32.toUInt32 31)).toInt32) &&& 1431655765)).toUInt32 >>> ((2 : Int32).toUInt32 &&& Int32.toUInt32 31)).toInt32) &&& 858993459)) + (((((v0 - (((v0.toUInt32 >>> ((1 : Int32).toUInt32 &&& Int32.toUInt32 31)).toInt32) &&& 1431655765)) &&& 858993459) + ((((v0 - (((v0.toUInt32 >>> ((1 : Int32).toUInt32 &&& Int32.toUInt32 31)).toInt32) &&& 1431655765)).toUInt32 >>> ((2 : Int32).toUInt32 &&& Int32.toUInt32 31)).toInt32) &&& 858993459)).toUInt32 >>> ((4 : Int32).toUInt32 &&& Int32.toUInt32 31)).toInt32)) &&& 252645135))]) hx hb dJ6_bitCount_0f7a4_33 rfl hl (by decide) rfl (fun ls hl => ?_)
  refine lv_iload_n hx hb dJ6_bitCount_0f7a4_34 rfl (lv_at hl 0 rfl) ?_
  refine lv_iload_n hx hb dJ6_bitCount_0f7a4_35 rfl (lv_at hl 0 rfl) ?_
  refine lv_bipush (v := 8) hx hb dJ6_bitCount_0f7a4_36 (by decide) ?_
  refine lv_iushr hx hb dJ6_bitCount_0f7a4_38 rfl ?_
  refine lv_iadd hx hb dJ6_bitCount_0f7a4_39 ?_
  refine lv_istore_n (lv' := [(0, .int ((((((v0 - (((v0.toUInt32 >>> ((1 : Int32).toUInt32 &&& Int32.toUInt32 31)).toInt32) &&& 1431655765)) &&& 858993459) + ((((v0 - (((v0.toUInt32 >>> ((1 : Int32).toUInt32 &&& Int32.toUInt32 31)).toInt32) &&& 1431655765)).toUInt32 >>> ((2 : Int32).toUInt32 &&& Int32.toUInt32 31)).toInt32) &&& 858993459)) + (((((v0 - (((v0.toUInt32 >>> ((1 : Int32).toUInt32 &&& Int32.toUInt32 31)).toInt32) &&& 1431655765)) &&& 858993459) + ((((v0 - (((v0.toUInt32 >>> ((1 : Int32).toUInt32 &&& Int32.toUInt32 31)).toInt32) &&& 1431655765)).toUInt32 >>> ((2 : Int32).toUInt32 &&& Int32.toUInt32 31)).toInt32) &&& 858993459)).toUInt32 >>> ((4 : Int32).toUInt32 &&& Int32.toUInt32 31)).toInt32)) &&& 252645135) + (((((((v0 - (((v0.toUInt32 >>> ((1 : Int32).toUInt32 &&& Int32.toUInt32 31)).toInt32) &&& 1431655765)) &&& 858993459) + ((((v0 - (((v0.toUInt32 >>> ((1 : Int32).toUInt32 &&& Int32.toUInt32 31)).toInt32) &&& 1431655765)).toUInt32 >>> ((2 : Int32).toUInt32 &&& Int32.toUInt32 31)).toInt32) &&& 858993459)) + (((((v0 - (((v0.toUInt32 >>> ((1 : Int32).toUInt32 &&& Int32.toUInt32 31)).toInt32) &&& 1431655765)) &&& 858993459) + ((((v0 - (((v0.toUInt32 >>> ((1 : Int32).toUInt32 &&& Int32.toUInt32 31)).toInt32) &&& 1431655765)).toUInt32 >>> ((2 : Int32).toUInt32 &&& Int32.toUInt32 31)).toInt32) &&& 858993459)).toUInt32 >>> ((4 : Int32).toUInt32 &&& Int32.toUInt32 31)).toInt32)) &&& 252645135).toUInt32 >>> ((8 : Int32).toUInt32 &&& Int32.toUInt32 31)).toInt32)))]) hx hb dJ6_bitCount_0f7a4_40 rfl hl (by decide) rfl (fun ls hl => ?_)
  refine lv_iload_n hx hb dJ6_bitCount_0f7a4_41 rfl (lv_at hl 0 rfl) ?_
  refine lv_iload_n hx hb dJ6_bitCount_0f7a4_42 rfl (lv_at hl 0 rfl) ?_
  refine lv_bipush (v := 16) hx hb dJ6_bitCount_0f7a4_43 (by decide) ?_
  refine lv_iushr hx hb dJ6_bitCount_0f7a4_45 rfl ?_
  refine lv_iadd hx hb dJ6_bitCount_0f7a4_46 ?_
  refine lv_istore_n (lv' := [(0, .int (((((((v0 - (((v0.toUInt32 >>> ((1 : Int32).toUInt32 &&& Int32.toUInt32 31)).toInt32) &&& 1431655765)) &&& 858993459) + ((((v0 - (((v0.toUInt32 >>> ((1 : Int32).toUInt32 &&& Int32.toUInt32 31)).toInt32) &&& 1431655765)).toUInt32 >>> ((2 : Int32).toUInt32 &&& Int32.toUInt32 31)).toInt32) &&& 858993459)) + (((((v0 - (((v0.toUInt32 >>> ((1 : Int32).toUInt32 &&& Int32.toUInt32 31)).toInt32) &&& 1431655765)) &&& 858993459) + ((((v0 - (((v0.toUInt32 >>> ((1 : Int32).toUInt32 &&& Int32.toUInt32 31)).toInt32) &&& 1431655765)).toUInt32 >>> ((2 : Int32).toUInt32 &&& Int32.toUInt32 31)).toInt32) &&& 858993459)).toUInt32 >>> ((4 : Int32).toUInt32 &&& Int32.toUInt32 31)).toInt32)) &&& 252645135) + (((((((v0 - (((v0.toUInt32 >>> ((1 : Int32).toUInt32 &&& Int32.toUInt32 31)).toInt32) &&& 1431655765)) &&& 858993459) + ((((v0 - (((v0.toUInt32 >>> ((1 : Int32).toUInt32 &&& Int32.toUInt32 31)).toInt32) &&& 1431655765)).toUInt32 >>> ((2 : Int32).toUInt32 &&& Int32.toUInt32 31)).toInt32) &&& 858993459)) + (((((v0 - (((v0.toUInt32 >>> ((1 : Int32).toUInt32 &&& Int32.toUInt32 31)).toInt32) &&& 1431655765)) &&& 858993459) + ((((v0 - (((v0.toUInt32 >>> ((1 : Int32).toUInt32 &&& Int32.toUInt32 31)).toInt32) &&& 1431655765)).toUInt32 >>> ((2 : Int32).toUInt32 &&& Int32.toUInt32 31)).toInt32) &&& 858993459)).toUInt32 >>> ((4 : Int32).toUInt32 &&& Int32.toUInt32 31)).toInt32)) &&& 252645135).toUInt32 >>> ((8 : Int32).toUInt32 &&& Int32.toUInt32 31)).toInt32)) + ((((((((v0 - (((v0.toUInt32 >>> ((1 : Int32).toUInt32 &&& Int32.toUInt32 31)).toInt32) &&& 1431655765)) &&& 858993459) + ((((v0 - (((v0.toUInt32 >>> ((1 : Int32).toUInt32 &&& Int32.toUInt32 31)).toInt32) &&& 1431655765)).toUInt32 >>> ((2 : Int32).toUInt32 &&& Int32.toUInt32 31)).toInt32) &&& 858993459)) + (((((v0 - (((v0.toUInt32 >>> ((1 : Int32).toUInt32 &&& Int32.toUInt32 31)).toInt32) &&& 1431655765)) &&& 858993459) + ((((v0 - (((v0.toUInt32 >>> ((1 : Int32).toUInt32 &&& Int32.toUInt32 31)).toInt32) &&& 1431655765)).toUInt32 >>> ((2 : Int32).toUInt32 &&& Int32.toUInt32 31)).toInt32) &&& 858993459)).toUInt32 >>> ((4 : Int32).toUInt32 &&& Int32.toUInt32 31)).toInt32)) &&& 252645135) + (((((((v0 - (((v0.toUInt32 >>> ((1 : Int32).toUInt32 &&& Int32.toUInt32 31)).toInt32) &&& 1431655765)) &&& 858993459) + ((((v0 - (((v0.toUInt32 >>> ((1 : Int32).toUInt32 &&& Int32.toUInt32 31)).toInt32) &&& 1431655765)).toUInt32 >>> ((2 : Int32).toUInt32 &&& Int32.toUInt32 31)).toInt32) &&& 858993459)) + (((((v0 - (((v0.toUInt32 >>> ((1 : Int32).toUInt32 &&& Int32.toUInt32 31)).toInt32) &&& 1431655765)) &&& 858993459) + ((((v0 - (((v0.toUInt32 >>> ((1 : Int32).toUInt32 &&& Int32.toUInt32 31)).toInt32) &&& 1431655765)).toUInt32 >>> ((2 : Int32).toUInt32 &&& Int32.toUInt32 31)).toInt32) &&& 858993459)).toUInt32 >>> ((4 : Int32).toUInt32 &&& Int32.toUInt32 31)).toInt32)) &&& 252645135).toUInt32 >>> ((8 : Int32).toUInt32 &&& Int32.toUInt32 31)).toInt32)).toUInt32 >>> ((16 : Int32).toUInt32 &&& Int32.toUInt32 31)).toInt32)))]) hx hb dJ6_bitCount_0f7a4_47 rfl hl (by decide) rfl (fun ls hl => ?_)
  refine lv_iload_n hx hb dJ6_bitCount_0f7a4_48 rfl (lv_at hl 0 rfl) ?_
  refine lv_bipush (v := 63) hx hb dJ6_bitCount_0f7a4_49 (by decide) ?_
  refine lv_iand hx hb dJ6_bitCount_0f7a4_51 ?_
  rw [hQQ]
  exact W.iret (v := ((((((((v0 - (((v0.toUInt32 >>> ((1 : Int32).toUInt32 &&& Int32.toUInt32 31)).toInt32) &&& 1431655765)) &&& 858993459) + ((((v0 - (((v0.toUInt32 >>> ((1 : Int32).toUInt32 &&& Int32.toUInt32 31)).toInt32) &&& 1431655765)).toUInt32 >>> ((2 : Int32).toUInt32 &&& Int32.toUInt32 31)).toInt32) &&& 858993459)) + (((((v0 - (((v0.toUInt32 >>> ((1 : Int32).toUInt32 &&& Int32.toUInt32 31)).toInt32) &&& 1431655765)) &&& 858993459) + ((((v0 - (((v0.toUInt32 >>> ((1 : Int32).toUInt32 &&& Int32.toUInt32 31)).toInt32) &&& 1431655765)).toUInt32 >>> ((2 : Int32).toUInt32 &&& Int32.toUInt32 31)).toInt32) &&& 858993459)).toUInt32 >>> ((4 : Int32).toUInt32 &&& Int32.toUInt32 31)).toInt32)) &&& 252645135) + (((((((v0 - (((v0.toUInt32 >>> ((1 : Int32).toUInt32 &&& Int32.toUInt32 31)).toInt32) &&& 1431655765)) &&& 858993459) + ((((v0 - (((v0.toUInt32 >>> ((1 : Int32).toUInt32 &&& Int32.toUInt32 31)).toInt32) &&& 1431655765)).toUInt32 >>> ((2 : Int32).toUInt32 &&& Int32.toUInt32 31)).toInt32) &&& 858993459)) + (((((v0 - (((v0.toUInt32 >>> ((1 : Int32).toUInt32 &&& Int32.toUInt32 31)).toInt32) &&& 1431655765)) &&& 858993459) + ((((v0 - (((v0.toUInt32 >>> ((1 : Int32).toUInt32 &&& Int32.toUInt32 31)).toInt32) &&& 1431655765)).toUInt32 >>> ((2 : Int32).toUInt32 &&& Int32.toUInt32 31)).toInt32) &&& 858993459)).toUInt32 >>> ((4 : Int32).toUInt32 &&& Int32.toUInt32 31)).toInt32)) &&& 252645135).toUInt32 >>> ((8 : Int32).toUInt32 &&& Int32.toUInt32 31)).toInt32)) + ((((((((v0 - (((v0.toUInt32 >>> ((1 : Int32).toUInt32 &&& Int32.toUInt32 31)).toInt32) &&& 1431655765)) &&& 858993459) + ((((v0 - (((v0.toUInt32 >>> ((1 : Int32).toUInt32 &&& Int32.toUInt32 31)).toInt32) &&& 1431655765)).toUInt32 >>> ((2 : Int32).toUInt32 &&& Int32.toUInt32 31)).toInt32) &&& 858993459)) + (((((v0 - (((v0.toUInt32 >>> ((1 : Int32).toUInt32 &&& Int32.toUInt32 31)).toInt32) &&& 1431655765)) &&& 858993459) + ((((v0 - (((v0.toUInt32 >>> ((1 : Int32).toUInt32 &&& Int32.toUInt32 31)).toInt32) &&& 1431655765)).toUInt32 >>> ((2 : Int32).toUInt32 &&& Int32.toUInt32 31)).toInt32) &&& 858993459)).toUInt32 >>> ((4 : Int32).toUInt32 &&& Int32.toUInt32 31)).toInt32)) &&& 252645135) + (((((((v0 - (((v0.toUInt32 >>> ((1 : Int32).toUInt32 &&& Int32.toUInt32 31)).toInt32) &&& 1431655765)) &&& 858993459) + ((((v0 - (((v0.toUInt32 >>> ((1 : Int32).toUInt32 &&& Int32.toUInt32 31)).toInt32) &&& 1431655765)).toUInt32 >>> ((2 : Int32).toUInt32 &&& Int32.toUInt32 31)).toInt32) &&& 858993459)) + (((((v0 - (((v0.toUInt32 >>> ((1 : Int32).toUInt32 &&& Int32.toUInt32 31)).toInt32) &&& 1431655765)) &&& 858993459) + ((((v0 - (((v0.toUInt32 >>> ((1 : Int32).toUInt32 &&& Int32.toUInt32 31)).toInt32) &&& 1431655765)).toUInt32 >>> ((2 : Int32).toUInt32 &&& Int32.toUInt32 31)).toInt32) &&& 858993459)).toUInt32 >>> ((4 : Int32).toUInt32 &&& Int32.toUInt32 31)).toInt32)) &&& 252645135).toUInt32 >>> ((8 : Int32).toUInt32 &&& Int32.toUInt32 31)).toInt32)).toUInt32 >>> ((16 : Int32).toUInt32 &&& Int32.toUInt32 31)).toInt32)) &&& 63)) hx hb hr (fun t ht hW => ⟨_, rfl, Option.some.inj h, ht⟩) (fun q hq => by cases hq) dJ6_bitCount_0f7a4_52
def fX6_ringRound_L11 (r_1 : Int32) (k11_44 : Int32 → Option (Int32)) : Nat → Int32 → Int32 → Option (Int32)
  | 0, _, _ => none
  | n + 1, v2_h11, v3_h11 => (if 15 ≤ v3_h11 then (k11_44 v2_h11) else bd1 (fX6_beside (1 <<< (v3_h11 &&& 31))) (fun r_3 => bd1 (fJ6_bitCount_0f7a4 (r_3 &&& r_1)) (fun r_4 => (if r_4 < 2 then ((fX6_ringRound_L11 r_1 k11_44 n) v2_h11 (v3_h11 + 1)) else ((fX6_ringRound_L11 r_1 k11_44 n) (v2_h11 ||| (1 <<< (v3_h11 &&& 31))) (v3_h11 + 1))))))
def fX6_ringRound (v0 : Int32) : Option (Int32) :=
  bd1 (fX6_beside (1 <<< (v0 &&& 31))) (fun r_1 => (fX6_ringRound_L11 r_1 (fun v2_e44 => some ((v2_e44 &&& ((1 <<< (v0 &&& 31)) ^^^ (-1))))) FU r_1 0))
abbrev rmX6_ringRound : Room := { frames := 1, cells := 0, slots := 0, locals := 22 }
theorem ddX6_ringRound : yX6_ringRound.cls ≠ "java/lang/invoke/MethodHandle" ∧ yX6_ringRound.cls ≠ "java/lang/invoke/VarHandle" ∧ (parseMethodDescriptor yX6_ringRound.desc).map (fun d => d.parameters.length) = some 1 := by decide +kernel
set_option maxHeartbeats 4000000 in
set_option maxRecDepth 100000 in
theorem m_X6_ringRound (l : Launch) (v0 : Int32) (res : Int32) (hf : fX6_ringRound v0 = some res) : Met l yX6_ringRound wsX6_ringRound rmX6_ringRound (psPc [.int v0]) (rdQ res) 0 0 (fun _ => False) := by
  refine Met.ofW (cc := cX6_ringRound) (maxL := 4) (ret := (some .int)) (by decide) rfl ?_
  intro p e s m args below meth c s₁ B hml hv
  obtain rfl := hv
  have hx := B.exec
  have hb := B.bytes
  have hr := B.returns
  have hts := atoms_spec (ws := wsX6_ringRound) B.pre
  have hown : s.vm.findClass RX6 = some m.cls := findClass_of_methodNamed B.named
  have hlocks := B.notSynchronized
  have hl := lv_entry ([.int v0]) (n := 4) (Nat.le_of_ble_eq_true rfl)
  rw [lg_entry_eq]
  generalize (lg_sl ([.int v0]) ++ List.replicate (4 - (lg_sl ([.int v0])).length) Slot.unset).toArray = ls at hl ⊢
  have hl : lv_has ls 4 [(0, .int v0)] := hl
  obtain ⟨QQ, hQQ⟩ : ∃ Q, Q = MQ below (rdQ res) ([.int v0] : List Value).toArray s 0 0 (fun _ => False) := ⟨_, rfl⟩
  rw [← hQQ]
  have h := hf
  unfold fX6_ringRound at h
  refine lv_iconst (v := 1) hx hb dX6_ringRound_0 (by decide) ?_
  refine lv_iload_n hx hb dX6_ringRound_1 rfl (lv_at hl 0 rfl) ?_
  refine lv_ishl hx hb dX6_ringRound_2 ?_
  obtain ⟨r_1, hc_1, h⟩ := bd1_of h
  refine cl_pS (As := [.int (1 <<< (v0 &&& 31))]) (rest := []) ⟨hx, hb, hml, hown, hts⟩ (m_X6_beside l (1 <<< (v0 &&& 31)) (r_1) hc_1) (va_cwS 1 hts gX6_ringRound_X6_beside rfl rfl rfl ddX6_beside ⟨Nat.le_of_ble_eq_true rfl, Nat.le_of_ble_eq_true rfl⟩) rfl rfl hl.1 (Nat.le_of_ble_eq_true rfl) ⟨Nat.zero_le _, Nat.zero_le _⟩ dX6_ringRound_3 ?_
  refine lv_istore_n (lv' := [(1, .int r_1), (0, .int v0)]) hx hb dX6_ringRound_6 rfl hl (by decide) rfl (fun ls hl => ?_)
  refine lv_iload_n hx hb dX6_ringRound_7 rfl (lv_at hl 0 rfl) ?_
  refine lv_istore_n (lv' := [(2, .int r_1), (1, .int r_1), (0, .int v0)]) hx hb dX6_ringRound_8 rfl hl (by decide) rfl (fun ls hl => ?_)
  refine lv_iconst (v := 0) hx hb dX6_ringRound_9 (by decide) ?_
  refine lv_istore_n (lv' := [(3, .int 0), (2, .int r_1), (1, .int r_1), (0, .int v0)]) hx hb dX6_ringRound_10 rfl hl (by decide) rfl (fun ls hl => ?_)
  have KL11 : ∀ (k11_44 : Int32 → Option (Int32)) , (∀ (v2_e44 : Int32) (ls : Array Slot), lv_has ls 4 [(0, .int v0), (2, .int v2_e44)] → k11_44 v2_e44 = some res → W p l e (headSpec wsX6_ringRound rmX6_ringRound).room s m ([.int v0] : List Value).toArray below meth c s.heap [] 0 0 QQ (F0 m 44 ls [])) → ∀ (n : Nat) (v2_h11 : Int32) (v3_h11 : Int32) (ls : Array Slot), lv_has ls 4 [(0, .int v0), (1, .int r_1), (2, .int v2_h11), (3, .int v3_h11)] → fX6_ringRound_L11 r_1 k11_44 n v2_h11 v3_h11 = some res → W p l e (headSpec wsX6_ringRound rmX6_ringRound).room s m ([.int v0] : List Value).toArray below meth c s.heap [] 0 0 QQ (F0 m 11 ls []) := by
    intro k11_44 Kk11_44 n
    induction n with
    | zero => intro v2_h11 v3_h11 ls hl h; rw [fX6_ringRound_L11.eq_1] at h; cases h
    | succ n ih =>
      intro v2_h11 v3_h11 ls hl h
      rw [fX6_ringRound_L11.eq_2] at h
      refine lv_iload_n hx hb dX6_ringRound_11 rfl (lv_at hl 3 rfl) ?_
      refine lv_bipush (v := 15) hx hb dX6_ringRound_12 (by decide) ?_
      refine lv_icmp_ge (tgt := 44) hx hb dX6_ringRound_14 (by decide) (fun c_2 => ?_) (fun c_2 => ?_)
      · have h := (if_pos c_2).symm.trans h
        exact Kk11_44 v2_h11 _ (lv_sub hl [0, 2] rfl) h
      · have h := (if_neg c_2).symm.trans h
        refine lv_iconst (v := 1) hx hb dX6_ringRound_17 (by decide) ?_
        refine lv_iload_n hx hb dX6_ringRound_18 rfl (lv_at hl 3 rfl) ?_
        refine lv_ishl hx hb dX6_ringRound_19 ?_
        obtain ⟨r_3, hc_3, h⟩ := bd1_of h
        refine cl_pS (As := [.int (1 <<< (v3_h11 &&& 31))]) (rest := []) ⟨hx, hb, hml, hown, hts⟩ (m_X6_beside l (1 <<< (v3_h11 &&& 31)) (r_3) hc_3) (va_cwS 1 hts gX6_ringRound_X6_beside rfl rfl rfl ddX6_beside ⟨Nat.le_of_ble_eq_true rfl, Nat.le_of_ble_eq_true rfl⟩) rfl rfl hl.1 (Nat.le_of_ble_eq_true rfl) ⟨Nat.zero_le _, Nat.zero_le _⟩ dX6_ringRound_20 ?_
        refine lv_iload_n hx hb dX6_ringRound_23 rfl (lv_at hl 1 rfl) ?_
        refine lv_iand hx hb dX6_ringRound_24 ?_
        obtain ⟨r_4, hc_4, h⟩ := bd1_of h
        refine cl_pS (As := [.int (r_3 &&& r_1)]) (rest := []) ⟨hx, hb, hml, hown, hts⟩ (m_J6_bitCount_0f7a4 l (r_3 &&& r_1) (r_4) hc_4) (va_cwS 1 hts gX6_ringRound_J6_bitCount_0f7a4 rfl rfl rfl ddJ6_bitCount_0f7a4 ⟨Nat.le_of_ble_eq_true rfl, Nat.le_of_ble_eq_true rfl⟩) rfl rfl hl.1 (Nat.le_of_ble_eq_true rfl) ⟨Nat.zero_le _, Nat.zero_le _⟩ dX6_ringRound_25 ?_
        refine lv_iconst (v := 2) hx hb dX6_ringRound_28 (by decide) ?_
        refine lv_icmp_lt (tgt := 38) hx hb dX6_ringRound_29 (by decide) (fun c_5 => ?_) (fun c_5 => ?_)
        · have h := (if_pos c_5).symm.trans h
          refine lv_iinc (v := (v3_h11 + 1)) (lv' := [(3, .int (v3_h11 + 1)), (0, .int v0), (1, .int r_1), (2, .int v2_h11)]) hx hb dX6_ringRound_38 hl (k := 3) rfl rfl (by decide) rfl (fun ls hl => ?_)
          refine lv_goto (tgt := 11) hx hb dX6_ringRound_41 (by decide) ?_
          exact ih v2_h11 (v3_h11 + 1) _ (lv_sub hl [1, 2, 3, 0] rfl) h
        · have h := (if_neg c_5).symm.trans h
          refine lv_iload_n hx hb dX6_ringRound_32 rfl (lv_at hl 2 rfl) ?_
          refine lv_iconst (v := 1) hx hb dX6_ringRound_33 (by decide) ?_
          refine lv_iload_n hx hb dX6_ringRound_34 rfl (lv_at hl 3 rfl) ?_
          refine lv_ishl hx hb dX6_ringRound_35 ?_
          refine lv_ior hx hb dX6_ringRound_36 ?_
          refine lv_istore_n (lv' := [(2, .int (v2_h11 ||| (1 <<< (v3_h11 &&& 31)))), (0, .int v0), (1, .int r_1), (3, .int v3_h11)]) hx hb dX6_ringRound_37 rfl hl (by decide) rfl (fun ls hl => ?_)
          refine lv_iinc (v := (v3_h11 + 1)) (lv' := [(3, .int (v3_h11 + 1)), (2, .int (v2_h11 ||| (1 <<< (v3_h11 &&& 31)))), (0, .int v0), (1, .int r_1)]) hx hb dX6_ringRound_38 hl (k := 3) rfl rfl (by decide) rfl (fun ls hl => ?_)
          refine lv_goto (tgt := 11) hx hb dX6_ringRound_41 (by decide) ?_
          exact ih (v2_h11 ||| (1 <<< (v3_h11 &&& 31))) (v3_h11 + 1) _ (lv_sub hl [2, 3, 1, 0] rfl) h
  refine KL11 _ (fun v2_e44 ls hl h => ?_) FU r_1 0 _ (lv_sub hl [3, 2, 1, 0] rfl) h
  refine lv_iload_n hx hb dX6_ringRound_44 rfl (lv_at hl 1 rfl) ?_
  refine lv_iconst (v := 1) hx hb dX6_ringRound_45 (by decide) ?_
  refine lv_iload_n hx hb dX6_ringRound_46 rfl (lv_at hl 0 rfl) ?_
  refine lv_ishl hx hb dX6_ringRound_47 ?_
  refine lv_iconst (v := (-1)) hx hb dX6_ringRound_48 (by decide) ?_
  refine lv_ixor hx hb dX6_ringRound_49 ?_
  refine lv_iand hx hb dX6_ringRound_50 ?_
  rw [hQQ]
  exact W.iret (v := (v2_e44 &&& ((1 <<< (v0 &&& 31)) ^^^ (-1)))) hx hb hr (fun t ht hW => ⟨_, rfl, Option.some.inj h, ht⟩) (fun q hq => by cases hq) dX6_ringRound_51
