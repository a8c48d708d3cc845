def fX5_isRow (v0 : Int32) : Option (Int32) :=
  (if v0 < 0 then some (0) else (if 8 ≤ v0 then some (0) else some (1)))
abbrev rmX5_isRow : Room := { frames := 0, cells := 0, slots := 0, locals := 0 }
theorem ddX5_isRow : yX5_isRow.cls ≠ "java/lang/invoke/MethodHandle" ∧ yX5_isRow.cls ≠ "java/lang/invoke/VarHandle" ∧ (parseMethodDescriptor yX5_isRow.desc).map (fun d => d.parameters.length) = some 1 := by decide +kernel
set_option maxHeartbeats 4000000 in
set_option maxRecDepth 100000 in
theorem m_X5_isRow (l : Launch) (v0 : Int32) (res : Int32) (hf : fX5_isRow v0 = some res) : Met l yX5_isRow wsX5_isRow rmX5_isRow (psPc [.int v0]) (rdQ res) 0 0 (fun _ => False) := by
  refine Met.ofW (cc := cX5_isRow) (maxL := 1) (ret := (some .boolean)) (by decide) rfl ?_
  intro p e s m args below meth c s₁ B hml hv
  obtain rfl := hv
  have hx := B.exec
  have hb := B.bytes
  have hr := B.returns
  have hts := atoms_spec (ws := wsX5_isRow) B.pre
  have hown : s.vm.findClass RX5 = some m.cls := findClass_of_methodNamed B.named
  have hlocks := B.notSynchronized
  have hl := lv_entry ([.int v0]) (n := 1) (Nat.le_of_ble_eq_true rfl)
  rw [lg_entry_eq]
  generalize (lg_sl ([.int v0]) ++ List.replicate (1 - (lg_sl ([.int v0])).length) Slot.unset).toArray = ls at hl ⊢
  have hl : lv_has ls 1 [(0, .int v0)] := hl
  obtain ⟨QQ, hQQ⟩ : ∃ Q, Q = MQ below (rdQ res) ([.int v0] : List Value).toArray s 0 0 (fun _ => False) := ⟨_, rfl⟩
  rw [← hQQ]
  have h := hf
  unfold fX5_isRow at h
  refine lv_iload_n hx hb dX5_isRow_0 rfl (lv_at hl 0 rfl) ?_
  refine lv_if_lt (tgt := 14) hx hb dX5_isRow_1 (by decide) (fun c_1 => ?_) (fun c_1 => ?_)
  · have h := (if_pos c_1).symm.trans h
    refine lv_iconst (v := 0) hx hb dX5_isRow_14 (by decide) ?_
    rw [hQQ]
    exact W.zret (v := 0) (ty := .boolean) hx hb hr rfl (fun t ht hW => ⟨_, rfl, Option.some.inj h, ht⟩) (fun q hq => by cases hq) dX5_isRow_15
  · have h := (if_neg c_1).symm.trans h
    refine lv_iload_n hx hb dX5_isRow_4 rfl (lv_at hl 0 rfl) ?_
    refine lv_bipush (v := 8) hx hb dX5_isRow_5 (by decide) ?_
    refine lv_icmp_ge (tgt := 14) hx hb dX5_isRow_7 (by decide) (fun c_2 => ?_) (fun c_2 => ?_)
    · have h := (if_pos c_2).symm.trans h
      refine lv_iconst (v := 0) hx hb dX5_isRow_14 (by decide) ?_
      rw [hQQ]
      exact W.zret (v := 0) (ty := .boolean) hx hb hr rfl (fun t ht hW => ⟨_, rfl, Option.some.inj h, ht⟩) (fun q hq => by cases hq) dX5_isRow_15
    · have h := (if_neg c_2).symm.trans h
      refine lv_iconst (v := 1) hx hb dX5_isRow_10 (by decide) ?_
      refine lv_goto (tgt := 15) hx hb dX5_isRow_11 (by decide) ?_
      rw [hQQ]
      exact W.zret (v := 1) (ty := .boolean) hx hb hr rfl (fun t ht hW => ⟨_, rfl, Option.some.inj h, ht⟩) (fun q hq => by cases hq) dX5_isRow_15
def fX5_isMissing (s_lanes : (Nat → Int32)) (v1 : Int32) : Option (Int32) :=
  chk (¬ (v1 < 0 ∨ 8 ≤ v1.toNatClampNeg)) ((if (s_lanes v1.toNatClampNeg) = (-1) then some (1) else some (0)))
abbrev rmX5_isMissing : Room := { frames := 0, cells := 0, slots := 0, locals := 0 }
theorem ddX5_isMissing : yX5_isMissing.cls ≠ "java/lang/invoke/MethodHandle" ∧ yX5_isMissing.cls ≠ "java/lang/invoke/VarHandle" ∧ (parseMethodDescriptor yX5_isMissing.desc).map (fun d => d.parameters.length) = some 1 := by decide +kernel
set_option maxHeartbeats 4000000 in
set_option maxRecDepth 100000 in
theorem m_X5_isMissing (l : Launch) (dC : Nat → ClassId) (dI : Nat → Nat → Nat) (cI cZ : ClassId) (q_s q_s_lanes q_s_lengths q_s_items : Nat) (s_lanes : (Nat → Int32)) (s_lengths : (Nat → Int32)) (s_items : (Nat → Int32)) (v1 : Int32) (res : Int32) (hf : fX5_isMissing s_lanes v1 = some res) : Met l yX5_isMissing wsX5_isMissing rmX5_isMissing (rdPc (dC, dI) (tyZ cI cZ) ((W_Rows cI cZ q_s q_s_lanes q_s_lengths q_s_items s_lanes s_lengths s_items)) [.ref q_s, .int v1]) (rdQ res) 0 0 (fun _ => False) := by
  refine Met.ofW (cc := cX5_isMissing) (maxL := 2) (ret := (some .boolean)) (by decide) rfl ?_
  intro p e s m args below meth c s₁ B hml hv
  obtain ⟨rfl, hP, hK⟩ := hv
  have hx := B.exec
  have hb := B.bytes
  have hr := B.returns
  have hts := atoms_spec (ws := wsX5_isMissing) B.pre
  have hown : s.vm.findClass RX5 = some m.cls := findClass_of_methodNamed B.named
  have hlocks := B.notSynchronized
  have hl := lv_entry ([.ref q_s, .int v1]) (n := 2) (Nat.le_of_ble_eq_true rfl)
  rw [lg_entry_eq]
  generalize (lg_sl ([.ref q_s, .int v1]) ++ List.replicate (2 - (lg_sl ([.ref q_s, .int v1])).length) Slot.unset).toArray = ls at hl ⊢
  have hl : lv_has ls 2 [(0, .ref q_s), (1, .int v1)] := hl
  obtain ⟨QQ, hQQ⟩ : ∃ Q, Q = MQ below (rdQ res) ([.ref q_s, .int v1] : List Value).toArray s 0 0 (fun _ => False) := ⟨_, rfl⟩
  rw [← hQQ]
  have w_0 := hts (Cond.fieldLink RX5 9 "TideInches$Rows" "lanes" "[I") (List.mem_of_getElem? (i := 1) rfl)
  have w_1 := (fun w hw => List.mem_cons_of_mem _ (List.mem_append_right _ hw) : ∀ w ∈ wsX50, w ∈ wsX5_isMissing)
  have h := hf
  unfold fX5_isMissing at h
  refine lv_aload_n hx hb dX5_isMissing_0 rfl (lv_at hl 0 rfl) ?_
  refine va_get (D := (dC, dI)) (ci := 4) (v := .ref q_s_lanes) (C := RX5) (T := TX5) (N := 3) hx hb hts w_1 hown hK hP 0 rfl rfl 0 (by decide) w_0 (fun _ h9 => h9) rfl dX5_isMissing_1 ?_
  refine lv_iload_n hx hb dX5_isMissing_4 rfl (lv_at hl 1 rfl) ?_
  obtain ⟨b_1, h⟩ := chk_of h
  refine va_iald hx hb hK hP 1 0 rfl rfl (i := v1) b_1 dX5_isMissing_5 ?_
  refine lv_iconst (v := (-1)) hx hb dX5_isMissing_6 (by decide) ?_
  refine lv_icmp_ne (tgt := 14) hx hb dX5_isMissing_7 (by decide) (fun c_2 => ?_) (fun c_2 => ?_)
  · have h := (if_neg c_2).symm.trans h
    refine lv_iconst (v := 0) hx hb dX5_isMissing_14 (by decide) ?_
    rw [hQQ]
    exact W.zret (v := 0) (ty := .boolean) hx hb hr rfl (fun t ht hW => ⟨_, rfl, Option.some.inj h, ht⟩) (fun q hq => by cases hq) dX5_isMissing_15
  · have h := (if_pos c_2).symm.trans h
    refine lv_iconst (v := 1) hx hb dX5_isMissing_10 (by decide) ?_
    refine lv_goto (tgt := 15) hx hb dX5_isMissing_11 (by decide) ?_
    rw [hQQ]
    exact W.zret (v := 1) (ty := .boolean) hx hb hr rfl (fun t ht hW => ⟨_, rfl, Option.some.inj h, ht⟩) (fun q hq => by cases hq) dX5_isMissing_15
def fX5_lane (s_lanes : (Nat → Int32)) (v1 : Int32) : Option (Int32) :=
  chk (¬ (v1 < 0 ∨ 8 ≤ v1.toNatClampNeg)) (some ((s_lanes v1.toNatClampNeg)))
abbrev rmX5_lane : Room := { frames := 0, cells := 0, slots := 0, locals := 0 }
theorem ddX5_lane : yX5_lane.cls ≠ "java/lang/invoke/MethodHandle" ∧ yX5_lane.cls ≠ "java/lang/invoke/VarHandle" ∧ (parseMethodDescriptor yX5_lane.desc).map (fun d => d.parameters.length) = some 1 := by decide +kernel
set_option maxHeartbeats 4000000 in
set_option maxRecDepth 100000 in
theorem m_X5_lane (l : Launch) (dC : Nat → ClassId) (dI : Nat → Nat → Nat) (cI cZ : ClassId) (q_s q_s_lanes q_s_lengths q_s_items : Nat) (s_lanes : (Nat → Int32)) (s_lengths : (Nat → Int32)) (s_items : (Nat → Int32)) (v1 : Int32) (res : Int32) (hf : fX5_lane s_lanes v1 = some res) : Met l yX5_lane wsX5_lane rmX5_lane (rdPc (dC, dI) (tyZ cI cZ) ((W_Rows cI cZ q_s q_s_lanes q_s_lengths q_s_items s_lanes s_lengths s_items)) [.ref q_s, .int v1]) (rdQ res) 0 0 (fun _ => False) := by
  refine Met.ofW (cc := cX5_lane) (maxL := 2) (ret := (some .int)) (by decide) rfl ?_
  intro p e s m args below meth c s₁ B hml hv
  obtain ⟨rfl, hP, hK⟩ := hv
  have hx := B.exec
  have hb := B.bytes
  have hr := B.returns
  have hts := atoms_spec (ws := wsX5_lane) B.pre
  have hown : s.vm.findClass RX5 = some m.cls := findClass_of_methodNamed B.named
  have hlocks := B.notSynchronized
  have hl := lv_entry ([.ref q_s, .int v1]) (n := 2) (Nat.le_of_ble_eq_true rfl)
  rw [lg_entry_eq]
  generalize (lg_sl ([.ref q_s, .int v1]) ++ List.replicate (2 - (lg_sl ([.ref q_s, .int v1])).length) Slot.unset).toArray = ls at hl ⊢
  have hl : lv_has ls 2 [(0, .ref q_s), (1, .int v1)] := hl
  obtain ⟨QQ, hQQ⟩ : ∃ Q, Q = MQ below (rdQ res) ([.ref q_s, .int v1] : List Value).toArray s 0 0 (fun _ => False) := ⟨_, rfl⟩
  rw [← hQQ]
  have w_0 := hts (Cond.fieldLink RX5 9 "TideInches$Rows" "lanes" "[I") (List.mem_of_getElem? (i := 1) rfl)
  have w_1 := (fun w hw => List.mem_cons_of_mem _ (List.mem_append_right _ hw) : ∀ w ∈ wsX50, w ∈ wsX5_lane)
  have h := hf
  unfold fX5_lane at h
  refine lv_aload_n hx hb dX5_lane_0 rfl (lv_at hl 0 rfl) ?_
  refine va_get (D := (dC, dI)) (ci := 4) (v := .ref q_s_lanes) (C := RX5) (T := TX5) (N := 3) hx hb hts w_1 hown hK hP 0 rfl rfl 0 (by decide) w_0 (fun _ h9 => h9) rfl dX5_lane_1 ?_
  refine lv_iload_n hx hb dX5_lane_4 rfl (lv_at hl 1 rfl) ?_
  obtain ⟨b_1, h⟩ := chk_of h
  refine va_iald hx hb hK hP 1 0 rfl rfl (i := v1) b_1 dX5_lane_5 ?_
  rw [hQQ]
  exact W.iret (v := (s_lanes v1.toNatClampNeg)) hx hb hr (fun t ht hW => ⟨_, rfl, Option.some.inj h, ht⟩) (fun q hq => by cases hq) dX5_lane_6
def fX5_hasPlaces (s_lengths : (Nat → Int32)) (v1 : Int32) (v2 : Int32) (v3 : Int32) : Option (Int32) :=
  (if v2 < 0 then some (0) else (if v3 < 0 then some (0) else chk (¬ (v1 < 0 ∨ 8 ≤ v1.toNatClampNeg)) ((if (s_lengths v1.toNatClampNeg) < v3 then some (0) else chk (¬ (v1 < 0 ∨ 8 ≤ v1.toNatClampNeg)) ((if ((s_lengths v1.toNatClampNeg) - v3) < v2 then some (0) else some (1)))))))
abbrev rmX5_hasPlaces : Room := { frames := 0, cells := 0, slots := 0, locals := 0 }
theorem ddX5_hasPlaces : yX5_hasPlaces.cls ≠ "java/lang/invoke/MethodHandle" ∧ yX5_hasPlaces.cls ≠ "java/lang/invoke/VarHandle" ∧ (parseMethodDescriptor yX5_hasPlaces.desc).map (fun d => d.parameters.length) = some 3 := by decide +kernel
set_option maxHeartbeats 4000000 in
set_option maxRecDepth 100000 in
theorem m_X5_hasPlaces (l : Launch) (dC : Nat → ClassId) (dI : Nat → Nat → Nat) (cI cZ : ClassId) (q_s q_s_lanes q_s_lengths q_s_items : Nat) (s_lanes : (Nat → Int32)) (s_lengths : (Nat → Int32)) (s_items : (Nat → Int32)) (v1 : Int32) (v2 : Int32) (v3 : Int32) (res : Int32) (hf : fX5_hasPlaces s_lengths v1 v2 v3 = some res) : Met l yX5_hasPlaces wsX5_hasPlaces rmX5_hasPlaces (rdPc (dC, dI) (tyZ cI cZ) ((W_Rows cI cZ q_s q_s_lanes q_s_lengths q_s_items s_lanes s_lengths s_items)) [.ref q_s, .int v1, .int v2, .int v3]) (rdQ res) 0 0 (fun _ => False) := by
  refine Met.ofW (cc := cX5_hasPlaces) (maxL := 4) (ret := (some .boolean)) (by decide) rfl ?_
  intro p e s m args below meth c s₁ B hml hv
  obtain ⟨rfl, hP, hK⟩ := hv
  have hx := B.exec
  have hb := B.bytes
  have hr := B.returns
  have hts := atoms_spec (ws := wsX5_hasPlaces) B.pre
  have hown : s.vm.findClass RX5 = some m.cls := findClass_of_methodNamed B.named
  have hlocks := B.notSynchronized
  have hl := lv_entry ([.ref q_s, .int v1, .int v2, .int v3]) (n := 4) (Nat.le_of_ble_eq_true rfl)
  rw [lg_entry_eq]
  generalize (lg_sl ([.ref q_s, .int v1, .int v2, .int v3]) ++ List.replicate (4 - (lg_sl ([.ref q_s, .int v1, .int v2, .int v3])).length) Slot.unset).toArray = ls at hl ⊢
  have hl : lv_has ls 4 [(0, .ref q_s), (1, .int v1), (2, .int v2), (3, .int v3)] := hl
  obtain ⟨QQ, hQQ⟩ : ∃ Q, Q = MQ below (rdQ res) ([.ref q_s, .int v1, .int v2, .int v3] : List Value).toArray s 0 0 (fun _ => False) := ⟨_, rfl⟩
  rw [← hQQ]
  have w_0 := hts (Cond.fieldLink RX5 13 "TideInches$Rows" "lengths" "[I") (List.mem_of_getElem? (i := 1) rfl)
  have w_1 := (fun w hw => List.mem_cons_of_mem _ (List.mem_append_right _ hw) : ∀ w ∈ wsX50, w ∈ wsX5_hasPlaces)
  have h := hf
  unfold fX5_hasPlaces at h
  refine lv_iload_n hx hb dX5_hasPlaces_0 rfl (lv_at hl 2 rfl) ?_
  refine lv_if_lt (tgt := 34) hx hb dX5_hasPlaces_1 (by decide) (fun c_1 => ?_) (fun c_1 => ?_)
  · have h := (if_pos c_1).symm.trans h
    refine lv_iconst (v := 0) hx hb dX5_hasPlaces_34 (by decide) ?_
    rw [hQQ]
    exact W.zret (v := 0) (ty := .boolean) hx hb hr rfl (fun t ht hW => ⟨_, rfl, Option.some.inj h, ht⟩) (fun q hq => by cases hq) dX5_hasPlaces_35
  · have h := (if_neg c_1).symm.trans h
    refine lv_iload_n hx hb dX5_hasPlaces_4 rfl (lv_at hl 3 rfl) ?_
    refine lv_if_lt (tgt := 34) hx hb dX5_hasPlaces_5 (by decide) (fun c_2 => ?_) (fun c_2 => ?_)
    · have h := (if_pos c_2).symm.trans h
      refine lv_iconst (v := 0) hx hb dX5_hasPlaces_34 (by decide) ?_
      rw [hQQ]
      exact W.zret (v := 0) (ty := .boolean) hx hb hr rfl (fun t ht hW => ⟨_, rfl, Option.some.inj h, ht⟩) (fun q hq => by cases hq) dX5_hasPlaces_35
    · have h := (if_neg c_2).symm.trans h
      refine lv_iload_n hx hb dX5_hasPlaces_8 rfl (lv_at hl 3 rfl) ?_
      refine lv_aload_n hx hb dX5_hasPlaces_9 rfl (lv_at hl 0 rfl) ?_
      refine va_get (D := (dC, dI)) (ci := 4) (v := .ref q_s_lengths) (C := RX5) (T := TX5) (N := 3) hx hb hts w_1 hown hK hP 0 rfl rfl 1 (by decide) w_0 (fun _ h9 => h9) rfl dX5_hasPlaces_10 ?_
      refine lv_iload_n hx hb dX5_hasPlaces_13 rfl (lv_at hl 1 rfl) ?_
      obtain ⟨b_3, h⟩ := chk_of h
      refine va_iald hx hb hK hP 2 0 rfl rfl (i := v1) b_3 dX5_hasPlaces_14 ?_
      refine lv_icmp_gt (tgt := 34) hx hb dX5_hasPlaces_15 (by decide) (fun c_4 => ?_) (fun c_4 => ?_)
      · have h := (if_pos c_4).symm.trans h
        refine lv_iconst (v := 0) hx hb dX5_hasPlaces_34 (by decide) ?_
        rw [hQQ]
        exact W.zret (v := 0) (ty := .boolean) hx hb hr rfl (fun t ht hW => ⟨_, rfl, Option.some.inj h, ht⟩) (fun q hq => by cases hq) dX5_hasPlaces_35
      · have h := (if_neg c_4).symm.trans h
        refine lv_iload_n hx hb dX5_hasPlaces_18 rfl (lv_at hl 2 rfl) ?_
        refine lv_aload_n hx hb dX5_hasPlaces_19 rfl (lv_at hl 0 rfl) ?_
        refine va_get (D := (dC, dI)) (ci := 4) (v := .ref q_s_lengths) (C := RX5) (T := TX5) (N := 3) hx hb hts w_1 hown hK hP 0 rfl rfl 1 (by decide) w_0 (fun _ h9 => h9) rfl dX5_hasPlaces_20 ?_
        refine lv_iload_n hx hb dX5_hasPlaces_23 rfl (lv_at hl 1 rfl) ?_
        obtain ⟨b_5, h⟩ := chk_of h
        refine va_iald hx hb hK hP 2 0 rfl rfl (i := v1) b_5 dX5_hasPlaces_24 ?_
        refine lv_iload_n hx hb dX5_hasPlaces_25 rfl (lv_at hl 3 rfl) ?_
        refine lv_isub hx hb dX5_hasPlaces_26 ?_
        refine lv_icmp_gt (tgt := 34) hx hb dX5_hasPlaces_27 (by decide) (fun c_6 => ?_) (fun c_6 => ?_)
        · have h := (if_pos c_6).symm.trans h
          refine lv_iconst (v := 0) hx hb dX5_hasPlaces_34 (by decide) ?_
          rw [hQQ]
          exact W.zret (v := 0) (ty := .boolean) hx hb hr rfl (fun t ht hW => ⟨_, rfl, Option.some.inj h, ht⟩) (fun q hq => by cases hq) dX5_hasPlaces_35
        · have h := (if_neg c_6).symm.trans h
          refine lv_iconst (v := 1) hx hb dX5_hasPlaces_30 (by decide) ?_
          refine lv_goto (tgt := 35) hx hb dX5_hasPlaces_31 (by decide) ?_
          rw [hQQ]
          exact W.zret (v := 1) (ty := .boolean) hx hb hr rfl (fun t ht hW => ⟨_, rfl, Option.some.inj h, ht⟩) (fun q hq => by cases hq) dX5_hasPlaces_35
def fX5_make_L17 (s_lanes : (Nat → Int32)) (s_lengths : (Nat → Int32)) (v1 : Int32) (v2 : Int32) (v3 : Int32) : Nat → Int32 → (Nat → Int32) → Option ((Nat → Int32) × (Nat → Int32) × (Nat → Int32))
  | 0, _, _ => none
  | n + 1, v4_h17, s_items_h17 => (if v3 ≤ v4_h17 then some ((upd s_lanes v1.toNatClampNeg v2), (upd s_lengths v1.toNatClampNeg v3), s_items_h17) else chk (¬ (((v1 * 40) + v4_h17) < 0 ∨ 320 ≤ ((v1 * 40) + v4_h17).toNatClampNeg)) (((fX5_make_L17 s_lanes s_lengths v1 v2 v3 n) (v4_h17 + 1) (upd s_items_h17 ((v1 * 40) + v4_h17).toNatClampNeg 0))))
def fX5_make (s_lanes : (Nat → Int32)) (s_lengths : (Nat → Int32)) (s_items : (Nat → Int32)) (v1 : Int32) (v2 : Int32) (v3 : Int32) : Option ((Nat → Int32) × (Nat → Int32) × (Nat → Int32)) :=
  chk (¬ (v1 < 0 ∨ 8 ≤ v1.toNatClampNeg)) (chk (¬ (v1 < 0 ∨ 8 ≤ v1.toNatClampNeg)) ((fX5_make_L17 s_lanes s_lengths v1 v2 v3 FU 0 s_items)))
abbrev rmX5_make : Room := { frames := 0, cells := 0, slots := 0, locals := 0 }
theorem ddX5_make : yX5_make.cls ≠ "java/lang/invoke/MethodHandle" ∧ yX5_make.cls ≠ "java/lang/invoke/VarHandle" ∧ (parseMethodDescriptor yX5_make.desc).map (fun d => d.parameters.length) = some 3 := by decide +kernel
set_option maxHeartbeats 4000000 in
set_option maxRecDepth 100000 in
theorem m_X5_make (l : Launch) (dC : Nat → ClassId) (dI : Nat → Nat → Nat) (cI cZ : ClassId) (q_s q_s_lanes q_s_lengths q_s_items : Nat) (s_lanes : (Nat → Int32)) (s_lengths : (Nat → Int32)) (s_items : (Nat → Int32)) (v1 : Int32) (v2 : Int32) (v3 : Int32) (sz : Nat) (res : (Nat → Int32) × (Nat → Int32) × (Nat → Int32)) (hf : fX5_make s_lanes s_lengths s_items v1 v2 v3 = some res) : Met l yX5_make wsX5_make rmX5_make (mtPc (dC, dI) (tyZ cI cZ) ((W_Rows cI cZ q_s q_s_lanes q_s_lengths q_s_items s_lanes s_lengths s_items)) [.ref q_s, .int v1, .int v2, .int v3] sz) (mtQv (dC, dI) (tyZ cI cZ) ((W_Rows cI cZ q_s q_s_lanes q_s_lengths q_s_items s_lanes s_lengths s_items)) ((W_Rows cI cZ q_s q_s_lanes q_s_lengths q_s_items res.1 res.2.1 res.2.2)) sz) 0 0 (va_A ((W_Rows cI cZ q_s q_s_lanes q_s_lengths q_s_items s_lanes s_lengths s_items)) sz) := by
  refine Met.ofW (cc := cX5_make) (maxL := 5) (ret := none) (by decide) rfl ?_
  intro p e s m args below meth c s₁ B hml hv
  obtain ⟨rfl, hsz, hP, hK, hD0⟩ := hv
  have hx := B.exec
  have hb := B.bytes
  have hr := B.returns
  have hts := atoms_spec (ws := wsX5_make) B.pre
  have hown : s.vm.findClass RX5 = some m.cls := findClass_of_methodNamed B.named
  have hlocks := B.notSynchronized
  subst hsz
  have hD := hD0.self (sz := s.heap.size)
  obtain ⟨A, hAe⟩ : ∃ A, A = va_A ((W_Rows cI cZ q_s q_s_lanes q_s_lengths q_s_items s_lanes s_lengths s_items)) s.heap.size := ⟨_, rfl⟩
  rw [← hAe] at hD
  have hA : ∀ q : Nat, s.heap.size ≤ q → A q := fun q h => by rw [hAe]; exact Or.inr h
  have hS : va_S A s.heap s.heap [] := va_S.rf
  have hl := lv_entry ([.ref q_s, .int v1, .int v2, .int v3]) (n := 5) (Nat.le_of_ble_eq_true rfl)
  rw [lg_entry_eq]
  generalize (lg_sl ([.ref q_s, .int v1, .int v2, .int v3]) ++ List.replicate (5 - (lg_sl ([.ref q_s, .int v1, .int v2, .int v3])).length) Slot.unset).toArray = ls at hl ⊢
  have hl : lv_has ls 5 [(0, .ref q_s), (1, .int v1), (2, .int v2), (3, .int v3)] := hl
  obtain ⟨QQ, hQQ⟩ : ∃ Q, Q = MQ below (mtQv (dC, dI) (tyZ cI cZ) ((W_Rows cI cZ q_s q_s_lanes q_s_lengths q_s_items s_lanes s_lengths s_items)) ((W_Rows cI cZ q_s q_s_lanes q_s_lengths q_s_items res.1 res.2.1 res.2.2)) s.heap.size) ([.ref q_s, .int v1, .int v2, .int v3] : List Value).toArray s 0 0 (va_A ((W_Rows cI cZ q_s q_s_lanes q_s_lengths q_s_items s_lanes s_lengths s_items)) s.heap.size) := ⟨_, rfl⟩
  rw [← hQQ]
  have w_0 := hts (Cond.fieldLink RX5 9 "TideInches$Rows" "lanes" "[I") (List.mem_of_getElem? (i := 1) rfl)
  have w_1 := (fun w hw => List.mem_cons_of_mem _ (List.mem_append_right _ hw) : ∀ w ∈ wsX50, w ∈ wsX5_make)
  have w_2 := hts (Cond.fieldLink RX5 13 "TideInches$Rows" "lengths" "[I") (List.mem_of_getElem? (i := 2) rfl)
  have w_3 := hts (Cond.fieldLink RX5 16 "TideInches$Rows" "items" "[I") (List.mem_of_getElem? (i := 3) rfl)
  have h := hf
  unfold fX5_make at h
  refine lv_aload_n hx hb dX5_make_0 rfl (lv_at hl 0 rfl) ?_
  refine va_get (D := (dC, dI)) (ci := 4) (v := .ref q_s_lanes) (C := RX5) (T := TX5) (N := 3) hx hb hts w_1 hown hK hP 0 rfl rfl 0 (by decide) w_0 (fun _ h9 => h9) rfl dX5_make_1 ?_
  refine lv_iload_n hx hb dX5_make_4 rfl (lv_at hl 1 rfl) ?_
  refine lv_iload_n hx hb dX5_make_5 rfl (lv_at hl 2 rfl) ?_
  obtain ⟨b_1, h⟩ := chk_of h
  refine va_iast hx hb hK hP hD hS 1 0 rfl rfl (i := v1) (x := v2) b_1 dX5_make_6 (fun H locs hP hD hS => ?_)
  have hP : va_P (dC, dI) vwCl ((W_Rows cI cZ q_s q_s_lanes q_s_lengths q_s_items (upd s_lanes v1.toNatClampNeg v2) s_lengths s_items)) H := hP
  have hD : va_D A ((W_Rows cI cZ q_s q_s_lanes q_s_lengths q_s_items (upd s_lanes v1.toNatClampNeg v2) s_lengths s_items)) := hD
  refine lv_aload_n hx hb dX5_make_7 rfl (lv_at hl 0 rfl) ?_
  refine va_get (D := (dC, dI)) (ci := 4) (v := .ref q_s_lengths) (C := RX5) (T := TX5) (N := 3) hx hb hts w_1 hown hK hP 0 rfl rfl 1 (by decide) w_2 (fun _ h9 => h9) rfl dX5_make_8 ?_
  refine lv_iload_n hx hb dX5_make_11 rfl (lv_at hl 1 rfl) ?_
  refine lv_iload_n hx hb dX5_make_12 rfl (lv_at hl 3 rfl) ?_
  obtain ⟨b_2, h⟩ := chk_of h
  refine va_iast hx hb hK hP hD hS 2 0 rfl rfl (i := v1) (x := v3) b_2 dX5_make_13 (fun H locs hP hD hS => ?_)
  have hP : va_P (dC, dI) vwCl ((W_Rows cI cZ q_s q_s_lanes q_s_lengths q_s_items (upd s_lanes v1.toNatClampNeg v2) (upd s_lengths v1.toNatClampNeg v3) s_items)) H := hP
  have hD : va_D A ((W_Rows cI cZ q_s q_s_lanes q_s_lengths q_s_items (upd s_lanes v1.toNatClampNeg v2) (upd s_lengths v1.toNatClampNeg v3) s_items)) := hD
  refine lv_iconst (v := 0) hx hb dX5_make_14 (by decide) ?_
  refine lv_istore (lv' := [(4, .int 0), (0, .ref q_s), (1, .int v1), (2, .int v2), (3, .int v3)]) hx hb dX5_make_15 hl (by decide) rfl (fun ls hl => ?_)
  have KL17 : ∀ (n : Nat) (v4_h17 : Int32) (s_items_h17 : (Nat → Int32)) (H : Heap) (locs : List Loc) (ls : Array Slot), va_P (dC, dI) vwCl ((W_Rows cI cZ q_s q_s_lanes q_s_lengths q_s_items (upd s_lanes v1.toNatClampNeg v2) (upd s_lengths v1.toNatClampNeg v3) s_items_h17)) H → va_D A ((W_Rows cI cZ q_s q_s_lanes q_s_lengths q_s_items (upd s_lanes v1.toNatClampNeg v2) (upd s_lengths v1.toNatClampNeg v3) s_items_h17)) → va_S A s.heap H locs → lv_has ls 5 [(0, .ref q_s), (1, .int v1), (3, .int v3), (4, .int v4_h17)] → fX5_make_L17 s_lanes s_lengths v1 v2 v3 n v4_h17 s_items_h17 = some res → W p l e (headSpec wsX5_make rmX5_make).room s m ([.ref q_s, .int v1, .int v2, .int v3] : List Value).toArray below meth c H locs 0 0 QQ (F0 m 17 ls []) := by
    intro  n
    induction n with
    | zero => intro v4_h17 s_items_h17 H locs ls hP hD hS hl h; rw [fX5_make_L17.eq_1] at h; cases h
    | succ n ih =>
      intro v4_h17 s_items_h17 H locs ls hP hD hS hl h
      rw [fX5_make_L17.eq_2] at h
      refine lv_iload hx hb dX5_make_17 (lv_at hl 3 rfl) ?_
      refine lv_iload_n hx hb dX5_make_19 rfl (lv_at hl 2 rfl) ?_
      refine lv_icmp_ge (tgt := 42) hx hb dX5_make_20 (by decide) (fun c_3 => ?_) (fun c_3 => ?_)
      · have h := (if_pos c_3).symm.trans h
        have h := Option.some.inj h
        subst h
        rw [hQQ]
        subst hAe
        exact W.vret hx hb hr (fun t ht hW => ⟨⟨(), rfl, trivial, by rw [ht]; exact hP, va_K.moved hW.alike hK, hD⟩, hS.F ht⟩) hS.2.2 dX5_make_42
      · have h := (if_neg c_3).symm.trans h
        refine lv_aload_n hx hb dX5_make_23 rfl (lv_at hl 0 rfl) ?_
        refine va_get (D := (dC, dI)) (ci := 4) (v := .ref q_s_items) (C := RX5) (T := TX5) (N := 3) hx hb hts w_1 hown hK hP 0 rfl rfl 2 (by decide) w_3 (fun _ h9 => h9) rfl dX5_make_24 ?_
        refine lv_iload_n hx hb dX5_make_27 rfl (lv_at hl 1 rfl) ?_
        refine lv_bipush (v := 40) hx hb dX5_make_28 (by decide) ?_
        refine lv_imul hx hb dX5_make_30 ?_
        refine lv_iload hx hb dX5_make_31 (lv_at hl 3 rfl) ?_
        refine lv_iadd hx hb dX5_make_33 ?_
        refine lv_iconst (v := 0) hx hb dX5_make_34 (by decide) ?_
        obtain ⟨b_4, h⟩ := chk_of h
        refine va_iast hx hb hK hP hD hS 3 0 rfl rfl (i := ((v1 * 40) + v4_h17)) (x := 0) b_4 dX5_make_35 (fun H locs hP hD hS => ?_)
        have hP : va_P (dC, dI) vwCl ((W_Rows cI cZ q_s q_s_lanes q_s_lengths q_s_items (upd s_lanes v1.toNatClampNeg v2) (upd s_lengths v1.toNatClampNeg v3) (upd s_items_h17 ((v1 * 40) + v4_h17).toNatClampNeg 0))) H := hP
        have hD : va_D A ((W_Rows cI cZ q_s q_s_lanes q_s_lengths q_s_items (upd s_lanes v1.toNatClampNeg v2) (upd s_lengths v1.toNatClampNeg v3) (upd s_items_h17 ((v1 * 40) + v4_h17).toNatClampNeg 0))) := hD
        refine lv_iinc (v := (v4_h17 + 1)) (lv' := [(4, .int (v4_h17 + 1)), (0, .ref q_s), (1, .int v1), (3, .int v3)]) hx hb dX5_make_36 hl (k := 3) rfl rfl (by decide) rfl (fun ls hl => ?_)
        refine lv_goto (tgt := 17) hx hb dX5_make_39 (by decide) ?_
        exact ih (v4_h17 + 1) (upd s_items_h17 ((v1 * 40) + v4_h17).toNatClampNeg 0) _ _ _ hP hD hS (lv_sub hl [1, 2, 3, 0] rfl) h
  exact KL17 FU 0 s_items _ _ _ hP hD hS (lv_sub hl [1, 2, 4, 0] rfl) h
def fX5_item (s_items : (Nat → Int32)) (v1 : Int32) (v2 : Int32) : Option (Int32) :=
  chk (¬ (((v1 * 40) + v2) < 0 ∨ 320 ≤ ((v1 * 40) + v2).toNatClampNeg)) (some ((s_items ((v1 * 40) + v2).toNatClampNeg)))
abbrev rmX5_item : Room := { frames := 0, cells := 0, slots := 0, locals := 0 }
theorem ddX5_item : yX5_item.cls ≠ "java/lang/invoke/MethodHandle" ∧ yX5_item.cls ≠ "java/lang/invoke/VarHandle" ∧ (parseMethodDescriptor yX5_item.desc).map (fun d => d.parameters.length) = some 2 := by decide +kernel
set_option maxHeartbeats 4000000 in
set_option maxRecDepth 100000 in
theorem m_X5_item (l : Launch) (dC : Nat → ClassId) (dI : Nat → Nat → Nat) (cI cZ : ClassId) (q_s q_s_lanes q_s_lengths q_s_items : Nat) (s_lanes : (Nat → Int32)) (s_lengths : (Nat → Int32)) (s_items : (Nat → Int32)) (v1 : Int32) (v2 : Int32) (res : Int32) (hf : fX5_item s_items v1 v2 = some res) : Met l yX5_item wsX5_item rmX5_item (rdPc (dC, dI) (tyZ cI cZ) ((W_Rows cI cZ q_s q_s_lanes q_s_lengths q_s_items s_lanes s_lengths s_items)) [.ref q_s, .int v1, .int v2]) (rdQ res) 0 0 (fun _ => False) := by
  refine Met.ofW (cc := cX5_item) (maxL := 3) (ret := (some .int)) (by decide) rfl ?_
  intro p e s m args below meth c s₁ B hml hv
  obtain ⟨rfl, hP, hK⟩ := hv
  have hx := B.exec
  have hb := B.bytes
  have hr := B.returns
  have hts := atoms_spec (ws := wsX5_item) B.pre
  have hown : s.vm.findClass RX5 = some m.cls := findClass_of_methodNamed B.named
  have hlocks := B.notSynchronized
  have hl := lv_entry ([.ref q_s, .int v1, .int v2]) (n := 3) (Nat.le_of_ble_eq_true rfl)
  rw [lg_entry_eq]
  generalize (lg_sl ([.ref q_s, .int v1, .int v2]) ++ List.replicate (3 - (lg_sl ([.ref q_s, .int v1, .int v2])).length) Slot.unset).toArray = ls at hl ⊢
  have hl : lv_has ls 3 [(0, .ref q_s), (1, .int v1), (2, .int v2)] := hl
  obtain ⟨QQ, hQQ⟩ : ∃ Q, Q = MQ below (rdQ res) ([.ref q_s, .int v1, .int v2] : List Value).toArray s 0 0 (fun _ => False) := ⟨_, rfl⟩
  rw [← hQQ]
  have w_0 := hts (Cond.fieldLink RX5 16 "TideInches$Rows" "items" "[I") (List.mem_of_getElem? (i := 1) rfl)
  have w_1 := (fun w hw => List.mem_cons_of_mem _ (List.mem_append_right _ hw) : ∀ w ∈ wsX50, w ∈ wsX5_item)
  have h := hf
  unfold fX5_item at h
  refine lv_aload_n hx hb dX5_item_0 rfl (lv_at hl 0 rfl) ?_
  refine va_get (D := (dC, dI)) (ci := 4) (v := .ref q_s_items) (C := RX5) (T := TX5) (N := 3) hx hb hts w_1 hown hK hP 0 rfl rfl 2 (by decide) w_0 (fun _ h9 => h9) rfl dX5_item_1 ?_
  refine lv_iload_n hx hb dX5_item_4 rfl (lv_at hl 1 rfl) ?_
  refine lv_bipush (v := 40) hx hb dX5_item_5 (by decide) ?_
  refine lv_imul hx hb dX5_item_7 ?_
  refine lv_iload_n hx hb dX5_item_8 rfl (lv_at hl 2 rfl) ?_
  refine lv_iadd hx hb dX5_item_9 ?_
  obtain ⟨b_1, h⟩ := chk_of h
  refine va_iald hx hb hK hP 3 0 rfl rfl (i := ((v1 * 40) + v2)) b_1 dX5_item_10 ?_
  rw [hQQ]
  exact W.iret (v := (s_items ((v1 * 40) + v2).toNatClampNeg)) hx hb hr (fun t ht hW => ⟨_, rfl, Option.some.inj h, ht⟩) (fun q hq => by cases hq) dX5_item_11
def fX5_put_J33 (s_items : (Nat → Int32)) (v1 : Int32) (v2 : Int32) (v4_j33 : Int32) : Option (Int32 × (Nat → Int32)) :=
  chk (¬ (((v1 * 40) + v2) < 0 ∨ 320 ≤ ((v1 * 40) + v2).toNatClampNeg)) (some (v4_j33, (upd s_items ((v1 * 40) + v2).toNatClampNeg v4_j33)))
def fX5_put (s_lanes : (Nat → Int32)) (s_items : (Nat → Int32)) (v1 : Int32) (v2 : Int32) (v3 : Int32) : Option (Int32 × (Nat → Int32)) :=
  chk (¬ (v1 < 0 ∨ 8 ≤ v1.toNatClampNeg)) ((if (s_lanes v1.toNatClampNeg) = 0 then (fX5_put_J33 s_items v1 v2 v3.toInt8.toInt32) else chk (¬ (v1 < 0 ∨ 8 ≤ v1.toNatClampNeg)) ((if (s_lanes v1.toNatClampNeg) = 1 then (fX5_put_J33 s_items v1 v2 v3.toInt16.toInt32) else (fX5_put_J33 s_items v1 v2 v3)))))
abbrev rmX5_put : Room := { frames := 0, cells := 0, slots := 0, locals := 0 }
theorem ddX5_put : yX5_put.cls ≠ "java/lang/invoke/MethodHandle" ∧ yX5_put.cls ≠ "java/lang/invoke/VarHandle" ∧ (parseMethodDescriptor yX5_put.desc).map (fun d => d.parameters.length) = some 3 := by decide +kernel
set_option maxHeartbeats 4000000 in
set_option maxRecDepth 100000 in
theorem m_X5_put (l : Launch) (dC : Nat → ClassId) (dI : Nat → Nat → Nat) (cI cZ : ClassId) (q_s q_s_lanes q_s_lengths q_s_items : Nat) (s_lanes : (Nat → Int32)) (s_lengths : (Nat → Int32)) (s_items : (Nat → Int32)) (v1 : Int32) (v2 : Int32) (v3 : Int32) (sz : Nat) (res : Int32 × (Nat → Int32)) (hf : fX5_put s_lanes s_items v1 v2 v3 = some res) : Met l yX5_put wsX5_put rmX5_put (mtPc (dC, dI) (tyZ cI cZ) ((W_Rows cI cZ q_s q_s_lanes q_s_lengths q_s_items s_lanes s_lengths s_items)) [.ref q_s, .int v1, .int v2, .int v3] sz) (mtQi (dC, dI) (tyZ cI cZ) ((W_Rows cI cZ q_s q_s_lanes q_s_lengths q_s_items s_lanes s_lengths s_items)) ((W_Rows cI cZ q_s q_s_lanes q_s_lengths q_s_items s_lanes s_lengths res.2)) res.1 sz) 0 0 (va_A ((W_Rows cI cZ q_s q_s_lanes q_s_lengths q_s_items s_lanes s_lengths s_items)) sz) := by
  refine Met.ofW (cc := cX5_put) (maxL := 5) (ret := (some .int)) (by decide) rfl ?_
  intro p e s m args below meth c s₁ B hml hv
  obtain ⟨rfl, hsz, hP, hK, hD0⟩ := hv
  have hx := B.exec
  have hb := B.bytes
  have hr := B.returns
  have hts := atoms_spec (ws := wsX5_put) B.pre
  have hown : s.vm.findClass RX5 = some m.cls := findClass_of_methodNamed B.named
  have hlocks := B.notSynchronized
  subst hsz
  have hD := hD0.self (sz := s.heap.size)
  obtain ⟨A, hAe⟩ : ∃ A, A = va_A ((W_Rows cI cZ q_s q_s_lanes q_s_lengths q_s_items s_lanes s_lengths s_items)) s.heap.size := ⟨_, rfl⟩
  rw [← hAe] at hD
  have hA : ∀ q : Nat, s.heap.size ≤ q → A q := fun q h => by rw [hAe]; exact Or.inr h
  have hS : va_S A s.heap s.heap [] := va_S.rf
  have hl := lv_entry ([.ref q_s, .int v1, .int v2, .int v3]) (n := 5) (Nat.le_of_ble_eq_true rfl)
  rw [lg_entry_eq]
  generalize (lg_sl ([.ref q_s, .int v1, .int v2, .int v3]) ++ List.replicate (5 - (lg_sl ([.ref q_s, .int v1, .int v2, .int v3])).length) Slot.unset).toArray = ls at hl ⊢
  have hl : lv_has ls 5 [(0, .ref q_s), (1, .int v1), (2, .int v2), (3, .int v3)] := hl
  obtain ⟨QQ, hQQ⟩ : ∃ Q, Q = MQ below (mtQi (dC, dI) (tyZ cI cZ) ((W_Rows cI cZ q_s q_s_lanes q_s_lengths q_s_items s_lanes s_lengths s_items)) ((W_Rows cI cZ q_s q_s_lanes q_s_lengths q_s_items s_lanes s_lengths res.2)) res.1 s.heap.size) ([.ref q_s, .int v1, .int v2, .int v3] : List Value).toArray s 0 0 (va_A ((W_Rows cI cZ q_s q_s_lanes q_s_lengths q_s_items s_lanes s_lengths s_items)) s.heap.size) := ⟨_, rfl⟩
  rw [← hQQ]
  have w_0 := hts (Cond.fieldLink RX5 9 "TideInches$Rows" "lanes" "[I") (List.mem_of_getElem? (i := 1) rfl)
  have w_1 := (fun w hw => List.mem_cons_of_mem _ (List.mem_append_right _ hw) : ∀ w ∈ wsX50, w ∈ wsX5_put)
  have w_2 := hts (Cond.fieldLink RX5 16 "TideInches$Rows" "items" "[I") (List.mem_of_getElem? (i := 2) rfl)
  have h := hf
  unfold fX5_put at h
  refine lv_iload_n hx hb dX5_put_0 rfl (lv_at hl 3 rfl) ?_
  refine lv_istore (lv' := [(4, .int v3), (0, .ref q_s), (1, .int v1), (2, .int v2), (3, .int v3)]) hx hb dX5_put_1 hl (by decide) rfl (fun ls hl => ?_)
  refine lv_aload_n hx hb dX5_put_3 rfl (lv_at hl 1 rfl) ?_
  refine va_get (D := (dC, dI)) (ci := 4) (v := .ref q_s_lanes) (C := RX5) (T := TX5) (N := 3) hx hb hts w_1 hown hK hP 0 rfl rfl 0 (by decide) w_0 (fun _ h9 => h9) rfl dX5_put_4 ?_
  refine lv_iload_n hx hb dX5_put_7 rfl (lv_at hl 2 rfl) ?_
  obtain ⟨b_1, h⟩ := chk_of h
  refine va_iald hx hb hK hP 1 0 rfl rfl (i := v1) b_1 dX5_put_8 ?_
  have KJ33 : ∀ (v4_j33 : Int32) (H : Heap) (locs : List Loc) (ls : Array Slot), va_P (dC, dI) vwCl ((W_Rows cI cZ q_s q_s_lanes q_s_lengths q_s_items s_lanes s_lengths s_items)) H → va_D A ((W_Rows cI cZ q_s q_s_lanes q_s_lengths q_s_items s_lanes s_lengths s_items)) → va_S A s.heap H locs → lv_has ls 5 [(0, .ref q_s), (1, .int v1), (2, .int v2), (4, .int v4_j33)] → fX5_put_J33 s_items v1 v2 v4_j33 = some res → W p l e (headSpec wsX5_put rmX5_put).room s m ([.ref q_s, .int v1, .int v2, .int v3] : List Value).toArray below meth c H locs 0 0 QQ (F0 m 33 ls []) := by
    intro v4_j33 H locs ls hP hD hS hl h
    unfold fX5_put_J33 at h
    refine lv_aload_n hx hb dX5_put_33 rfl (lv_at hl 0 rfl) ?_
    refine va_get (D := (dC, dI)) (ci := 4) (v := .ref q_s_items) (C := RX5) (T := TX5) (N := 3) hx hb hts w_1 hown hK hP 0 rfl rfl 2 (by decide) w_2 (fun _ h9 => h9) rfl dX5_put_34 ?_
    refine lv_iload_n hx hb dX5_put_37 rfl (lv_at hl 1 rfl) ?_
    refine lv_bipush (v := 40) hx hb dX5_put_38 (by decide) ?_
    refine lv_imul hx hb dX5_put_40 ?_
    refine lv_iload_n hx hb dX5_put_41 rfl (lv_at hl 2 rfl) ?_
    refine lv_iadd hx hb dX5_put_42 ?_
    refine lv_iload hx hb dX5_put_43 (lv_at hl 3 rfl) ?_
    obtain ⟨b_2, h⟩ := chk_of h
    refine va_iast hx hb hK hP hD hS 3 0 rfl rfl (i := ((v1 * 40) + v2)) (x := v4_j33) b_2 dX5_put_45 (fun H locs hP hD hS => ?_)
    have hP : va_P (dC, dI) vwCl ((W_Rows cI cZ q_s q_s_lanes q_s_lengths q_s_items s_lanes s_lengths (upd s_items ((v1 * 40) + v2).toNatClampNeg v4_j33))) H := hP
    have hD : va_D A ((W_Rows cI cZ q_s q_s_lanes q_s_lengths q_s_items s_lanes s_lengths (upd s_items ((v1 * 40) + v2).toNatClampNeg v4_j33))) := hD
    refine lv_iload hx hb dX5_put_46 (lv_at hl 3 rfl) ?_
    have h := Option.some.inj h
    subst h
    rw [hQQ]
    subst hAe
    exact W.iret (v := v4_j33) hx hb hr (fun t ht hW => ⟨⟨_, (), rfl, rfl, by rw [ht]; exact hP, va_K.moved hW.alike hK, hD⟩, hS.F ht⟩) hS.2.2 dX5_put_48
  refine lv_if_ne (tgt := 19) hx hb dX5_put_9 (by decide) (fun c_3 => ?_) (fun c_3 => ?_)
  · have h := (if_neg c_3).symm.trans h
    refine lv_aload_n hx hb dX5_put_19 rfl (lv_at hl 1 rfl) ?_
    refine va_get (D := (dC, dI)) (ci := 4) (v := .ref q_s_lanes) (C := RX5) (T := TX5) (N := 3) hx hb hts w_1 hown hK hP 0 rfl rfl 0 (by decide) w_0 (fun _ h9 => h9) rfl dX5_put_20 ?_
    refine lv_iload_n hx hb dX5_put_23 rfl (lv_at hl 2 rfl) ?_
    obtain ⟨b_4, h⟩ := chk_of h
    refine va_iald hx hb hK hP 1 0 rfl rfl (i := v1) b_4 dX5_put_24 ?_
    refine lv_iconst (v := 1) hx hb dX5_put_25 (by decide) ?_
    refine lv_icmp_ne (tgt := 33) hx hb dX5_put_26 (by decide) (fun c_5 => ?_) (fun c_5 => ?_)
    · have h := (if_neg c_5).symm.trans h
      exact KJ33 v3 _ _ _ hP hD hS (lv_sub hl [1, 2, 3, 0] rfl) h
    · have h := (if_pos c_5).symm.trans h
      refine lv_iload_n hx hb dX5_put_29 rfl (lv_at hl 4 rfl) ?_
      refine lv_i2s hx hb dX5_put_30 rfl ?_
      refine lv_istore (lv' := [(4, .int v3.toInt16.toInt32), (0, .ref q_s), (1, .int v1), (2, .int v2), (3, .int v3)]) hx hb dX5_put_31 hl (by decide) rfl (fun ls hl => ?_)
      exact KJ33 v3.toInt16.toInt32 _ _ _ hP hD hS (lv_sub hl [1, 2, 3, 0] rfl) h
  · have h := (if_pos c_3).symm.trans h
    refine lv_iload_n hx hb dX5_put_12 rfl (lv_at hl 4 rfl) ?_
    refine lv_i2b hx hb dX5_put_13 rfl ?_
    refine lv_istore (lv' := [(4, .int v3.toInt8.toInt32), (0, .ref q_s), (1, .int v1), (2, .int v2), (3, .int v3)]) hx hb dX5_put_14 hl (by decide) rfl (fun ls hl => ?_)
    refine lv_goto (tgt := 33) hx hb dX5_put_16 (by decide) ?_
    exact KJ33 v3.toInt8.toInt32 _ _ _ hP hD hS (lv_sub hl [1, 2, 3, 0] rfl) h
def fX5_move (s_items : (Nat → Int32)) (v1 : Int32) (v2 : Int32) (v3 : Int32) (v4 : Int32) (v5 : Int32) : Option ((Nat → Int32)) :=
  chk (¬ ((v1 * 40) + v2) < 0 ∧ ¬ ((v3 * 40) + v4) < 0 ∧ ¬ v5 < 0 ∧ ((v1 * 40) + v2).toNatClampNeg + v5.toNatClampNeg ≤ 320 ∧ ((v3 * 40) + v4).toNatClampNeg + v5.toNatClampNeg ≤ 320) (some ((va_cpy s_items s_items ((v1 * 40) + v2).toNatClampNeg ((v3 * 40) + v4).toNatClampNeg v5.toNatClampNeg)))
abbrev rmX5_move : Room := { frames := 1, cells := 0, slots := 0, locals := 40 }
theorem ddX5_move : yX5_move.cls ≠ "java/lang/invoke/MethodHandle" ∧ yX5_move.cls ≠ "java/lang/invoke/VarHandle" ∧ (parseMethodDescriptor yX5_move.desc).map (fun d => d.parameters.length) = some 5 := by decide +kernel
set_option maxHeartbeats 4000000 in
set_option maxRecDepth 100000 in
theorem m_X5_move (l : Launch) (dC : Nat → ClassId) (dI : Nat → Nat → Nat) (cI cZ : ClassId) (q_s q_s_lanes q_s_lengths q_s_items : Nat) (s_lanes : (Nat → Int32)) (s_lengths : (Nat → Int32)) (s_items : (Nat → Int32)) (v1 : Int32) (v2 : Int32) (v3 : Int32) (v4 : Int32) (v5 : Int32) (sz : Nat) (res : (Nat → Int32)) (hf : fX5_move s_items v1 v2 v3 v4 v5 = some res) : Met l yX5_move wsX5_move rmX5_move (mtPc (dC, dI) (tyZ cI cZ) ((W_Rows cI cZ q_s q_s_lanes q_s_lengths q_s_items s_lanes s_lengths s_items)) [.ref q_s, .int v1, .int v2, .int v3, .int v4, .int v5] sz) (mtQv (dC, dI) (tyZ cI cZ) ((W_Rows cI cZ q_s q_s_lanes q_s_lengths q_s_items s_lanes s_lengths s_items)) ((W_Rows cI cZ q_s q_s_lanes q_s_lengths q_s_items s_lanes s_lengths res)) sz) 0 0 (va_A ((W_Rows cI cZ q_s q_s_lanes q_s_lengths q_s_items s_lanes s_lengths s_items)) sz) := by
  refine Met.ofW (cc := cX5_move) (maxL := 6) (ret := none) (by decide) rfl ?_
  intro p e s m args below meth c s₁ B hml hv
  obtain ⟨rfl, hsz, hP, hK, hD0⟩ := hv
  have hx := B.exec
  have hb := B.bytes
  have hr := B.returns
  have hts := atoms_spec (ws := wsX5_move) B.pre
  have hown : s.vm.findClass RX5 = some m.cls := findClass_of_methodNamed B.named
  have hlocks := B.notSynchronized
  subst hsz
  have hD := hD0.self (sz := s.heap.size)
  obtain ⟨A, hAe⟩ : ∃ A, A = va_A ((W_Rows cI cZ q_s q_s_lanes q_s_lengths q_s_items s_lanes s_lengths s_items)) s.heap.size := ⟨_, rfl⟩
  rw [← hAe] at hD
  have hA : ∀ q : Nat, s.heap.size ≤ q → A q := fun q h => by rw [hAe]; exact Or.inr h
  have hS : va_S A s.heap s.heap [] := va_S.rf
  have hl := lv_entry ([.ref q_s, .int v1, .int v2, .int v3, .int v4, .int v5]) (n := 6) (Nat.le_of_ble_eq_true rfl)
  rw [lg_entry_eq]
  generalize (lg_sl ([.ref q_s, .int v1, .int v2, .int v3, .int v4, .int v5]) ++ List.replicate (6 - (lg_sl ([.ref q_s, .int v1, .int v2, .int v3, .int v4, .int v5])).length) Slot.unset).toArray = ls at hl ⊢
  have hl : lv_has ls 6 [(0, .ref q_s), (1, .int v1), (2, .int v2), (3, .int v3), (4, .int v4), (5, .int v5)] := hl
  obtain ⟨QQ, hQQ⟩ : ∃ Q, Q = MQ below (mtQv (dC, dI) (tyZ cI cZ) ((W_Rows cI cZ q_s q_s_lanes q_s_lengths q_s_items s_lanes s_lengths s_items)) ((W_Rows cI cZ q_s q_s_lanes q_s_lengths q_s_items s_lanes s_lengths res)) s.heap.size) ([.ref q_s, .int v1, .int v2, .int v3, .int v4, .int v5] : List Value).toArray s 0 0 (va_A ((W_Rows cI cZ q_s q_s_lanes q_s_lengths q_s_items s_lanes s_lengths s_items)) s.heap.size) := ⟨_, rfl⟩
  rw [← hQQ]
  have w_0 := hts (Cond.fieldLink RX5 16 "TideInches$Rows" "items" "[I") (List.mem_of_getElem? (i := 1) rfl)
  have w_1 := (fun w hw => List.mem_cons_of_mem _ (List.mem_append_right _ hw) : ∀ w ∈ wsX50, w ∈ wsX5_move)
  have w_2 := hts (Cond.methodLink RX5 19 arraycopyName) (List.mem_of_getElem? (i := 2) rfl)
  have w_3 := hts (Cond.native arraycopyName) (List.mem_of_getElem? (i := 3) rfl)
  have w_4 := hts (Cond.static arraycopyName) (List.mem_of_getElem? (i := 4) rfl)
  have w_5 := hts (Cond.initialized "java/lang/System") (List.mem_of_getElem? (i := 5) rfl)
  have h := hf
  unfold fX5_move at h
  refine lv_aload_n hx hb dX5_move_0 rfl (lv_at hl 0 rfl) ?_
  refine va_get (D := (dC, dI)) (ci := 4) (v := .ref q_s_items) (C := RX5) (T := TX5) (N := 3) hx hb hts w_1 hown hK hP 0 rfl rfl 2 (by decide) w_0 (fun _ h9 => h9) rfl dX5_move_1 ?_
  refine lv_iload_n hx hb dX5_move_4 rfl (lv_at hl 1 rfl) ?_
  refine lv_bipush (v := 40) hx hb dX5_move_5 (by decide) ?_
  refine lv_imul hx hb dX5_move_7 ?_
  refine lv_iload_n hx hb dX5_move_8 rfl (lv_at hl 2 rfl) ?_
  refine lv_iadd hx hb dX5_move_9 ?_
  refine lv_aload_n hx hb dX5_move_10 rfl (lv_at hl 0 rfl) ?_
  refine va_get (D := (dC, dI)) (ci := 4) (v := .ref q_s_items) (C := RX5) (T := TX5) (N := 3) hx hb hts w_1 hown hK hP 0 rfl rfl 2 (by decide) w_0 (fun _ h9 => h9) rfl dX5_move_11 ?_
  refine lv_iload_n hx hb dX5_move_14 rfl (lv_at hl 3 rfl) ?_
  refine lv_bipush (v := 40) hx hb dX5_move_15 (by decide) ?_
  refine lv_imul hx hb dX5_move_17 ?_
  refine lv_iload hx hb dX5_move_18 (lv_at hl 4 rfl) ?_
  refine lv_iadd hx hb dX5_move_20 ?_
  refine lv_iload hx hb dX5_move_21 (lv_at hl 5 rfl) ?_
  obtain ⟨⟨b_1, e_1, g_1, i_1, j_1⟩, h⟩ := chk_of h
  refine va_copyi hx hb (hml.trans hl.1.symm) hown w_2 w_3 w_4 w_5 hK hP hD hS 3 3 0 0 rfl rfl rfl rfl rfl b_1 e_1 g_1 i_1 j_1 (fun _ _ => rfl) (Nat.le_of_ble_eq_true rfl) (Nat.le_of_ble_eq_true rfl) dX5_move_23 (fun H locs hP hD hS => ?_)
  have hP : va_P (dC, dI) vwCl ((W_Rows cI cZ q_s q_s_lanes q_s_lengths q_s_items s_lanes s_lengths (va_cpy s_items s_items ((v1 * 40) + v2).toNatClampNeg ((v3 * 40) + v4).toNatClampNeg v5.toNatClampNeg))) H := hP
  have hD : va_D A ((W_Rows cI cZ q_s q_s_lanes q_s_lengths q_s_items s_lanes s_lengths (va_cpy s_items s_items ((v1 * 40) + v2).toNatClampNeg ((v3 * 40) + v4).toNatClampNeg v5.toNatClampNeg))) := hD
  have h := Option.some.inj h
  subst h
  rw [hQQ]
  subst hAe
  exact W.vret hx hb hr (fun t ht hW => ⟨⟨(), rfl, trivial, by rw [ht]; exact hP, va_K.moved hW.alike hK, hD⟩, hS.F ht⟩) hS.2.2 dX5_move_26
def fX5_remove (s_lanes : (Nat → Int32)) (s_lengths : (Nat → Int32)) (v1 : Int32) : Option (Int32 × (Nat → Int32) × (Nat → Int32)) :=
  chk (¬ (v1 < 0 ∨ 8 ≤ v1.toNatClampNeg)) (chk (¬ (v1 < 0 ∨ 8 ≤ v1.toNatClampNeg)) (chk (¬ (v1 < 0 ∨ 8 ≤ v1.toNatClampNeg)) (some ((s_lengths v1.toNatClampNeg), (upd s_lanes v1.toNatClampNeg (-1)), (upd s_lengths v1.toNatClampNeg 0)))))
abbrev rmX5_remove : Room := { frames := 0, cells := 0, slots := 0, locals := 0 }
theorem ddX5_remove : yX5_remove.cls ≠ "java/lang/invoke/MethodHandle" ∧ yX5_remove.cls ≠ "java/lang/invoke/VarHandle" ∧ (parseMethodDescriptor yX5_remove.desc).map (fun d => d.parameters.length) = some 1 := by decide +kernel
set_option maxHeartbeats 4000000 in
set_option maxRecDepth 100000 in
theorem m_X5_remove (l : Launch) (dC : Nat → ClassId) (dI : Nat → Nat → Nat) (cI cZ : ClassId) (q_s q_s_lanes q_s_lengths q_s_items : Nat) (s_lanes : (Nat → Int32)) (s_lengths : (Nat → Int32)) (s_items : (Nat → Int32)) (v1 : Int32) (sz : Nat) (res : Int32 × (Nat → Int32) × (Nat → Int32)) (hf : fX5_remove s_lanes s_lengths v1 = some res) : Met l yX5_remove wsX5_remove rmX5_remove (mtPc (dC, dI) (tyZ cI cZ) ((W_Rows cI cZ q_s q_s_lanes q_s_lengths q_s_items s_lanes s_lengths s_items)) [.ref q_s, .int v1] sz) (mtQi (dC, dI) (tyZ cI cZ) ((W_Rows cI cZ q_s q_s_lanes q_s_lengths q_s_items s_lanes s_lengths s_items)) ((W_Rows cI cZ q_s q_s_lanes q_s_lengths q_s_items res.2.1 res.2.2 s_items)) res.1 sz) 0 0 (va_A ((W_Rows cI cZ q_s q_s_lanes q_s_lengths q_s_items s_lanes s_lengths s_items)) sz) := by
  refine Met.ofW (cc := cX5_remove) (maxL := 3) (ret := (some .int)) (by decide) rfl ?_
  intro p e s m args below meth c s₁ B hml hv
  obtain ⟨rfl, hsz, hP, hK, hD0⟩ := hv
  have hx := B.exec
  have hb := B.bytes
  have hr := B.returns
  have hts := atoms_spec (ws := wsX5_remove) B.pre
  have hown : s.vm.findClass RX5 = some m.cls := findClass_of_methodNamed B.named
  have hlocks := B.notSynchronized
  subst hsz
  have hD := hD0.self (sz := s.heap.size)
  obtain ⟨A, hAe⟩ : ∃ A, A = va_A ((W_Rows cI cZ q_s q_s_lanes q_s_lengths q_s_items s_lanes s_lengths s_items)) s.heap.size := ⟨_, rfl⟩
  rw [← hAe] at hD
  have hA : ∀ q : Nat, s.heap.size ≤ q → A q := fun q h => by rw [hAe]; exact Or.inr h
  have hS : va_S A s.heap s.heap [] := va_S.rf
  have hl := lv_entry ([.ref q_s, .int v1]) (n := 3) (Nat.le_of_ble_eq_true rfl)
  rw [lg_entry_eq]
  generalize (lg_sl ([.ref q_s, .int v1]) ++ List.replicate (3 - (lg_sl ([.ref q_s, .int v1])).length) Slot.unset).toArray = ls at hl ⊢
  have hl : lv_has ls 3 [(0, .ref q_s), (1, .int v1)] := hl
  obtain ⟨QQ, hQQ⟩ : ∃ Q, Q = MQ below (mtQi (dC, dI) (tyZ cI cZ) ((W_Rows cI cZ q_s q_s_lanes q_s_lengths q_s_items s_lanes s_lengths s_items)) ((W_Rows cI cZ q_s q_s_lanes q_s_lengths q_s_items res.2.1 res.2.2 s_items)) res.1 s.heap.size) ([.ref q_s, .int v1] : List Value).toArray s 0 0 (va_A ((W_Rows cI cZ q_s q_s_lanes q_s_lengths q_s_items s_lanes s_lengths s_items)) s.heap.size) := ⟨_, rfl⟩
  rw [← hQQ]
  have w_0 := hts (Cond.fieldLink RX5 13 "TideInches$Rows" "lengths" "[I") (List.mem_of_getElem? (i := 1) rfl)
  have w_1 := (fun w hw => List.mem_cons_of_mem _ (List.mem_append_right _ hw) : ∀ w ∈ wsX50, w ∈ wsX5_remove)
  have w_2 := hts (Cond.fieldLink RX5 9 "TideInches$Rows" "lanes" "[I") (List.mem_of_getElem? (i := 2) rfl)
  have h := hf
  unfold fX5_remove at h
  refine lv_aload_n hx hb dX5_remove_0 rfl (lv_at hl 0 rfl) ?_
  refine va_get (D := (dC, dI)) (ci := 4) (v := .ref q_s_lengths) (C := RX5) (T := TX5) (N := 3) hx hb hts w_1 hown hK hP 0 rfl rfl 1 (by decide) w_0 (fun _ h9 => h9) rfl dX5_remove_1 ?_
  refine lv_iload_n hx hb dX5_remove_4 rfl (lv_at hl 1 rfl) ?_
  obtain ⟨b_1, h⟩ := chk_of h
  refine va_iald hx hb hK hP 2 0 rfl rfl (i := v1) b_1 dX5_remove_5 ?_
  refine lv_istore_n (lv' := [(2, .int (s_lengths v1.toNatClampNeg)), (0, .ref q_s), (1, .int v1)]) hx hb dX5_remove_6 rfl hl (by decide) rfl (fun ls hl => ?_)
  refine lv_aload_n hx hb dX5_remove_7 rfl (lv_at hl 1 rfl) ?_
  refine va_get (D := (dC, dI)) (ci := 4) (v := .ref q_s_lanes) (C := RX5) (T := TX5) (N := 3) hx hb hts w_1 hown hK hP 0 rfl rfl 0 (by decide) w_2 (fun _ h9 => h9) rfl dX5_remove_8 ?_
  refine lv_iload_n hx hb dX5_remove_11 rfl (lv_at hl 2 rfl) ?_
  refine lv_iconst (v := (-1)) hx hb dX5_remove_12 (by decide) ?_
  obtain ⟨b_2, h⟩ := chk_of h
  refine va_iast hx hb hK hP hD hS 1 0 rfl rfl (i := v1) (x := (-1)) b_2 dX5_remove_13 (fun H locs hP hD hS => ?_)
  have hP : va_P (dC, dI) vwCl ((W_Rows cI cZ q_s q_s_lanes q_s_lengths q_s_items (upd s_lanes v1.toNatClampNeg (-1)) s_lengths s_items)) H := hP
  have hD : va_D A ((W_Rows cI cZ q_s q_s_lanes q_s_lengths q_s_items (upd s_lanes v1.toNatClampNeg (-1)) s_lengths s_items)) := hD
  refine lv_aload_n hx hb dX5_remove_14 rfl (lv_at hl 1 rfl) ?_
  refine va_get (D := (dC, dI)) (ci := 4) (v := .ref q_s_lengths) (C := RX5) (T := TX5) (N := 3) hx hb hts w_1 hown hK hP 0 rfl rfl 1 (by decide) w_0 (fun _ h9 => h9) rfl dX5_remove_15 ?_
  refine lv_iload_n hx hb dX5_remove_18 rfl (lv_at hl 2 rfl) ?_
  refine lv_iconst (v := 0) hx hb dX5_remove_19 (by decide) ?_
  obtain ⟨b_3, h⟩ := chk_of h
  refine va_iast hx hb hK hP hD hS 2 0 rfl rfl (i := v1) (x := 0) b_3 dX5_remove_20 (fun H locs hP hD hS => ?_)
  have hP : va_P (dC, dI) vwCl ((W_Rows cI cZ q_s q_s_lanes q_s_lengths q_s_items (upd s_lanes v1.toNatClampNeg (-1)) (upd s_lengths v1.toNatClampNeg 0) s_items)) H := hP
  have hD : va_D A ((W_Rows cI cZ q_s q_s_lanes q_s_lengths q_s_items (upd s_lanes v1.toNatClampNeg (-1)) (upd s_lengths v1.toNatClampNeg 0) s_items)) := hD
  refine lv_iload_n hx hb dX5_remove_21 rfl (lv_at hl 0 rfl) ?_
  have h := Option.some.inj h
  subst h
  rw [hQQ]
  subst hAe
  exact W.iret (v := (s_lengths v1.toNatClampNeg)) hx hb hr (fun t ht hW => ⟨⟨_, (), rfl, rfl, by rw [ht]; exact hP, va_K.moved hW.alike hK, hD⟩, hS.F ht⟩) hS.2.2 dX5_remove_22
def fX5_there_L4 (s_lanes : (Nat → Int32)) : Nat → Int32 → Int32 → Option (Int32)
  | 0, _, _ => none
  | n + 1, v1_h4, v2_h4 => (if 8 ≤ v2_h4 then some (v1_h4) else bd1 (fX5_isMissing s_lanes v2_h4) (fun r_2 => (if r_2 = 0 then ((fX5_there_L4 s_lanes n) (v1_h4 + 1) (v2_h4 + 1)) else ((fX5_there_L4 s_lanes n) v1_h4 (v2_h4 + 1)))))
def fX5_there (s_lanes : (Nat → Int32)) : Option (Int32) :=
  (fX5_there_L4 s_lanes FU 0 0)
abbrev rmX5_there : Room := { frames := 1, cells := 0, slots := 0, locals := 21 }
theorem ddX5_there : yX5_there.cls ≠ "java/lang/invoke/MethodHandle" ∧ yX5_there.cls ≠ "java/lang/invoke/VarHandle" ∧ (parseMethodDescriptor yX5_there.desc).map (fun d => d.parameters.length) = some 0 := by decide +kernel
set_option maxHeartbeats 4000000 in
set_option maxRecDepth 100000 in
theorem m_X5_there (l : Launch) (dC : Nat → ClassId) (dI : Nat → Nat → Nat) (cI cZ : ClassId) (q_s q_s_lanes q_s_lengths q_s_items : Nat) (s_lanes : (Nat → Int32)) (s_lengths : (Nat → Int32)) (s_items : (Nat → Int32)) (res : Int32) (hf : fX5_there s_lanes = some res) : Met l yX5_there wsX5_there rmX5_there (rdPc (dC, dI) (tyZ cI cZ) ((W_Rows cI cZ q_s q_s_lanes q_s_lengths q_s_items s_lanes s_lengths s_items)) [.ref q_s]) (rdQ res) 0 0 (fun _ => False) := by
  refine Met.ofW (cc := cX5_there) (maxL := 3) (ret := (some .int)) (by decide) rfl ?_
  intro p e s m args below meth c s₁ B hml hv
  obtain ⟨rfl, hP, hK⟩ := hv
  have hx := B.exec
  have hb := B.bytes
  have hr := B.returns
  have hts := atoms_spec (ws := wsX5_there) B.pre
  have hown : s.vm.findClass RX5 = some m.cls := findClass_of_methodNamed B.named
  have hlocks := B.notSynchronized
  have hl := lv_entry ([.ref q_s]) (n := 3) (Nat.le_of_ble_eq_true rfl)
  rw [lg_entry_eq]
  generalize (lg_sl ([.ref q_s]) ++ List.replicate (3 - (lg_sl ([.ref q_s])).length) Slot.unset).toArray = ls at hl ⊢
  have hl : lv_has ls 3 [(0, .ref q_s)] := hl
  obtain ⟨QQ, hQQ⟩ : ∃ Q, Q = MQ below (rdQ res) ([.ref q_s] : List Value).toArray s 0 0 (fun _ => False) := ⟨_, rfl⟩
  rw [← hQQ]
  have h := hf
  unfold fX5_there at h
  refine lv_iconst (v := 0) hx hb dX5_there_0 (by decide) ?_
  refine lv_istore_n (lv' := [(1, .int 0), (0, .ref q_s)]) hx hb dX5_there_1 rfl hl (by decide) rfl (fun ls hl => ?_)
  refine lv_iconst (v := 0) hx hb dX5_there_2 (by decide) ?_
  refine lv_istore_n (lv' := [(2, .int 0), (1, .int 0), (0, .ref q_s)]) hx hb dX5_there_3 rfl hl (by decide) rfl (fun ls hl => ?_)
  have KL4 : ∀ (n : Nat) (v1_h4 : Int32) (v2_h4 : Int32) (ls : Array Slot), lv_has ls 3 [(0, .ref q_s), (1, .int v1_h4), (2, .int v2_h4)] → fX5_there_L4 s_lanes n v1_h4 v2_h4 = some res → W p l e (headSpec wsX5_there rmX5_there).room s m ([.ref q_s] : List Value).toArray below meth c s.heap [] 0 0 QQ (F0 m 4 ls []) := by
    intro  n
    induction n with
    | zero => intro v1_h4 v2_h4 ls hl h; rw [fX5_there_L4.eq_1] at h; cases h
    | succ n ih =>
      intro v1_h4 v2_h4 ls hl h
      rw [fX5_there_L4.eq_2] at h
      refine lv_iload_n hx hb dX5_there_4 rfl (lv_at hl 2 rfl) ?_
      refine lv_bipush (v := 8) hx hb dX5_there_5 (by decide) ?_
      refine lv_icmp_ge (tgt := 27) hx hb dX5_there_7 (by decide) (fun c_1 => ?_) (fun c_1 => ?_)
      · have h := (if_pos c_1).symm.trans h
        refine lv_iload_n hx hb dX5_there_27 rfl (lv_at hl 1 rfl) ?_
        rw [hQQ]
        exact W.iret (v := v1_h4) hx hb hr (fun t ht hW => ⟨_, rfl, Option.some.inj h, ht⟩) (fun q hq => by cases hq) dX5_there_28
      · have h := (if_neg c_1).symm.trans h
        refine lv_aload_n hx hb dX5_there_10 rfl (lv_at hl 0 rfl) ?_
        refine lv_iload_n hx hb dX5_there_11 rfl (lv_at hl 2 rfl) ?_
        obtain ⟨r_2, hc_2, h⟩ := bd1_of h
        refine cl_rV (As := [.int v2_h4]) (rest := []) ⟨hx, hb, hml, hown, hts⟩ (m_X5_isMissing l dC dI cI cZ q_s q_s_lanes q_s_lengths q_s_items s_lanes s_lengths s_items v2_h4 (r_2) hc_2) (cwV 1 hts gX5_there_X5_isMissing rfl rfl rfl ⟨rfl, ddX5_isMissing⟩ ⟨Nat.le_of_ble_eq_true rfl, Nat.le_of_ble_eq_true rfl⟩) hK hP [0, 1, 2, 3] rfl rfl rfl rfl rfl hl.1 (Nat.le_of_ble_eq_true rfl) ⟨Nat.zero_le _, Nat.zero_le _⟩ dX5_there_12 ?_
        refine lv_if_ne (tgt := 21) hx hb dX5_there_15 (by decide) (fun c_3 => ?_) (fun c_3 => ?_)
        · have h := (if_neg c_3).symm.trans h
          refine lv_iinc (v := (v2_h4 + 1)) (lv' := [(2, .int (v2_h4 + 1)), (0, .ref q_s), (1, .int v1_h4)]) hx hb dX5_there_21 hl (k := 2) rfl rfl (by decide) rfl (fun ls hl => ?_)
          refine lv_goto (tgt := 4) hx hb dX5_there_24 (by decide) ?_
          exact ih v1_h4 (v2_h4 + 1) _ (lv_sub hl [1, 2, 0] rfl) h
        · have h := (if_pos c_3).symm.trans h
          refine lv_iinc (v := (v1_h4 + 1)) (lv' := [(1, .int (v1_h4 + 1)), (0, .ref q_s), (2, .int v2_h4)]) hx hb dX5_there_18 hl (k := 1) rfl rfl (by decide) rfl (fun ls hl => ?_)
          refine lv_iinc (v := (v2_h4 + 1)) (lv' := [(2, .int (v2_h4 + 1)), (1, .int (v1_h4 + 1)), (0, .ref q_s)]) hx hb dX5_there_21 hl (k := 2) rfl rfl (by decide) rfl (fun ls hl => ?_)
          refine lv_goto (tgt := 4) hx hb dX5_there_24 (by decide) ?_
          exact ih (v1_h4 + 1) (v2_h4 + 1) _ (lv_sub hl [2, 1, 0] rfl) h
  exact KL4 FU 0 0 _ (lv_sub hl [2, 1, 0] rfl) h
def fX0_kept (s_kept : Int32) : Option (Int32) :=
  some (s_kept)
abbrev rmX0_kept : Room := { frames := 0, cells := 0, slots := 0, locals := 0 }
theorem ddX0_kept : yX0_kept.cls ≠ "java/lang/invoke/MethodHandle" ∧ yX0_kept.cls ≠ "java/lang/invoke/VarHandle" ∧ (parseMethodDescriptor yX0_kept.desc).map (fun d => d.parameters.length) = some 0 := by decide +kernel
set_option maxHeartbeats 4000000 in
set_option maxRecDepth 100000 in
theorem m_X0_kept (l : Launch) (dC : Nat → ClassId) (dI : Nat → Nat → Nat) (cI cZ : ClassId) (q_s q_s_saved : Nat) (s_saved : (Nat → Int32)) (s_next : Int32) (s_kept : Int32) (res : Int32) (hf : fX0_kept s_kept = some res) : Met l yX0_kept wsX0_kept rmX0_kept (rdPc (dC, dI) (tyZ cI cZ) ((W_Acts cI cZ q_s q_s_saved s_saved s_next s_kept)) [.ref q_s]) (rdQ res) 0 0 (fun _ => False) := by
  refine Met.ofW (cc := cX0_kept) (maxL := 1) (ret := (some .int)) (by decide) rfl ?_
  intro p e s m args below meth c s₁ B hml hv
  obtain ⟨rfl, hP, hK⟩ := hv
  have hx := B.exec
  have hb := B.bytes
  have hr := B.returns
  have hts := atoms_spec (ws := wsX0_kept) B.pre
  have hown : s.vm.findClass RX0 = some m.cls := findClass_of_methodNamed B.named
  have hlocks := B.notSynchronized
  have hl := lv_entry ([.ref q_s]) (n := 1) (Nat.le_of_ble_eq_true rfl)
  rw [lg_entry_eq]
  generalize (lg_sl ([.ref q_s]) ++ List.replicate (1 - (lg_sl ([.ref q_s])).length) Slot.unset).toArray = ls at hl ⊢
  have hl : lv_has ls 1 [(0, .ref q_s)] := hl
  obtain ⟨QQ, hQQ⟩ : ∃ Q, Q = MQ below (rdQ res) ([.ref q_s] : List Value).toArray s 0 0 (fun _ => False) := ⟨_, rfl⟩
  rw [← hQQ]
  have w_0 := hts (Cond.fieldLink RX0 15 "TideInches$Acts" "kept" "I") (List.mem_of_getElem? (i := 1) rfl)
  have w_1 := (fun w hw => List.mem_cons_of_mem _ (List.mem_append_right _ hw) : ∀ w ∈ wsX00, w ∈ wsX0_kept)
  have h := hf
  unfold fX0_kept at h
  refine lv_aload_n hx hb dX0_kept_0 rfl (lv_at hl 0 rfl) ?_
  refine va_get (D := (dC, dI)) (ci := 0) (v := .int s_kept) (C := RX0) (T := TX0) (N := 3) hx hb hts w_1 hown hK hP 0 rfl rfl 2 (by decide) w_0 (fun _ h9 => h9) rfl dX0_kept_1 ?_
  rw [hQQ]
  exact W.iret (v := s_kept) hx hb hr (fun t ht hW => ⟨_, rfl, Option.some.inj h, ht⟩) (fun q hq => by cases hq) dX0_kept_4
def fX0_forget : Option (Int32) :=
  some (0)
abbrev rmX0_forget : Room := { frames := 0, cells := 0, slots := 0, locals := 0 }
theorem ddX0_forget : yX0_forget.cls ≠ "java/lang/invoke/MethodHandle" ∧ yX0_forget.cls ≠ "java/lang/invoke/VarHandle" ∧ (parseMethodDescriptor yX0_forget.desc).map (fun d => d.parameters.length) = some 0 := by decide +kernel
set_option maxHeartbeats 4000000 in
set_option maxRecDepth 100000 in
theorem m_X0_forget (l : Launch) (dC : Nat → ClassId) (dI : Nat → Nat → Nat) (cI cZ : ClassId) (q_s q_s_saved : Nat) (s_saved : (Nat → Int32)) (s_next : Int32) (s_kept : Int32) (sz : Nat) (res : Int32) (hf : fX0_forget  = some res) : Met l yX0_forget wsX0_forget rmX0_forget (mtPc (dC, dI) (tyZ cI cZ) ((W_Acts cI cZ q_s q_s_saved s_saved s_next s_kept)) [.ref q_s] sz) (mtQv (dC, dI) (tyZ cI cZ) ((W_Acts cI cZ q_s q_s_saved s_saved s_next s_kept)) ((W_Acts cI cZ q_s q_s_saved s_saved s_next res)) sz) 0 0 (va_A ((W_Acts cI cZ q_s q_s_saved s_saved s_next s_kept)) sz) := by
  refine Met.ofW (cc := cX0_forget) (maxL := 1) (ret := none) (by decide) rfl ?_
  intro p e s m args below meth c s₁ B hml hv
  obtain ⟨rfl, hsz, hP, hK, hD0⟩ := hv
  have hx := B.exec
  have hb := B.bytes
  have hr := B.returns
  have hts := atoms_spec (ws := wsX0_forget) B.pre
  have hown : s.vm.findClass RX0 = some m.cls := findClass_of_methodNamed B.named
  have hlocks := B.notSynchronized
  subst hsz
  have hD := hD0.self (sz := s.heap.size)
  obtain ⟨A, hAe⟩ : ∃ A, A = va_A ((W_Acts cI cZ q_s q_s_saved s_saved s_next s_kept)) s.heap.size := ⟨_, rfl⟩
  rw [← hAe] at hD
  have hA : ∀ q : Nat, s.heap.size ≤ q → A q := fun q h => by rw [hAe]; exact Or.inr h
  have hS : va_S A s.heap s.heap [] := va_S.rf
  have hl := lv_entry ([.ref q_s]) (n := 1) (Nat.le_of_ble_eq_true rfl)
  rw [lg_entry_eq]
  generalize (lg_sl ([.ref q_s]) ++ List.replicate (1 - (lg_sl ([.ref q_s])).length) Slot.unset).toArray = ls at hl ⊢
  have hl : lv_has ls 1 [(0, .ref q_s)] := hl
  obtain ⟨QQ, hQQ⟩ : ∃ Q, Q = MQ below (mtQv (dC, dI) (tyZ cI cZ) ((W_Acts cI cZ q_s q_s_saved s_saved s_next s_kept)) ((W_Acts cI cZ q_s q_s_saved s_saved s_next res)) s.heap.size) ([.ref q_s] : List Value).toArray s 0 0 (va_A ((W_Acts cI cZ q_s q_s_saved s_saved s_next s_kept)) s.heap.size) := ⟨_, rfl⟩
  rw [← hQQ]
  have w_0 := hts (Cond.fieldLink RX0 15 "TideInches$Acts" "kept" "I") (List.mem_of_getElem? (i := 1) rfl)
  have w_1 := (fun w hw => List.mem_cons_of_mem _ (List.mem_append_right _ hw) : ∀ w ∈ wsX00, w ∈ wsX0_forget)
  have h := hf
  unfold fX0_forget at h
  refine lv_aload_n hx hb dX0_forget_0 rfl (lv_at hl 0 rfl) ?_
  refine lv_iconst (v := 0) hx hb dX0_forget_1 (by decide) ?_
  refine va_put (D := (dC, dI)) (ci := 0) (v := .int 0) (ty := .int) (C := RX0) (T := TX0) (N := 3) hx hb hts w_1 tyX0 tyX0_ok nmX0 hown hK hP hD hS 0 rfl rfl 2 (by decide) w_0 (fun _ h9 => h9) rfl (by decide +kernel) rfl rfl (Nat.le_of_ble_eq_true rfl) dX0_forget_2 (fun H locs hP hD hS => ?_)
  have hP : va_P (dC, dI) vwCl ((W_Acts cI cZ q_s q_s_saved s_saved s_next 0)) H := hP
  have hD : va_D A ((W_Acts cI cZ q_s q_s_saved s_saved s_next 0)) := hD
  have h := Option.some.inj h
  subst h
  rw [hQQ]
  subst hAe
  exact W.vret hx hb hr (fun t ht hW => ⟨⟨(), rfl, trivial, by rw [ht]; exact hP, va_K.moved hW.alike hK, hD⟩, hS.F ht⟩) hS.2.2 dX0_forget_5
def fX0_keep (s_saved : (Nat → Int32)) (s_next : Int32) (s_kept : Int32) (o_hour : Int32) (o_heights : (Nat → Int32)) (o_holders : (Nat → Int32)) (o_purses : (Nat → Int32)) : Option ((Nat → Int32) × Int32 × Int32) :=
  bd1 (fX3_saveTo o_hour o_heights o_holders o_purses s_saved (s_next * 36)) (fun s_saved_1 => some (s_saved_1, ((s_next + 1) - (s_next + 1) / 24 * 24), (imin 24 (s_kept + 1))))
abbrev rmX0_keep : Room := { frames := 2, cells := 0, slots := 0, locals := 62 }
theorem ddX0_keep : yX0_keep.cls ≠ "java/lang/invoke/MethodHandle" ∧ yX0_keep.cls ≠ "java/lang/invoke/VarHandle" ∧ (parseMethodDescriptor yX0_keep.desc).map (fun d => d.parameters.length) = some 1 := by decide +kernel
set_option maxHeartbeats 4000000 in
set_option maxRecDepth 100000 in
theorem m_X0_keep (l : Launch) (dC : Nat → ClassId) (dI : Nat → Nat → Nat) (cI cZ : ClassId) (q_s q_s_saved q_o q_o_heights q_o_holders q_o_kinds q_o_purses q_o_homes : Nat) (s_saved : (Nat → Int32)) (s_next : Int32) (s_kept : Int32) (o_told : Int32) (o_low : Int32) (o_high : Int32) (o_price : Int32) (o_hour : Int32) (o_bidders : Int32) (o_heights : (Nat → Int32)) (o_holders : (Nat → Int32)) (o_kinds : (Nat → Int32)) (o_purses : (Nat → Int32)) (o_homes : (Nat → Int32)) (sz : Nat) (res : (Nat → Int32) × Int32 × Int32) (hf : fX0_keep s_saved s_next s_kept o_hour o_heights o_holders o_purses = some res) : Met l yX0_keep wsX0_keep rmX0_keep (mtPc (dC, dI) (tyZ cI cZ) ((W_Acts cI cZ q_s q_s_saved s_saved s_next s_kept) ++ ((W_Isle cI cZ q_o q_o_heights q_o_holders q_o_kinds q_o_purses q_o_homes o_told o_low o_high o_price o_hour o_bidders o_heights o_holders o_kinds o_purses o_homes))) [.ref q_s, .ref q_o] sz) (mtQv (dC, dI) (tyZ cI cZ) ((W_Acts cI cZ q_s q_s_saved s_saved s_next s_kept) ++ ((W_Isle cI cZ q_o q_o_heights q_o_holders q_o_kinds q_o_purses q_o_homes o_told o_low o_high o_price o_hour o_bidders o_heights o_holders o_kinds o_purses o_homes))) ((W_Acts cI cZ q_s q_s_saved res.1 res.2.1 res.2.2) ++ ((W_Isle cI cZ q_o q_o_heights q_o_holders q_o_kinds q_o_purses q_o_homes o_told o_low o_high o_price o_hour o_bidders o_heights o_holders o_kinds o_purses o_homes))) sz) 0 0 (va_A ((W_Acts cI cZ q_s q_s_saved s_saved s_next s_kept) ++ ((W_Isle cI cZ q_o q_o_heights q_o_holders q_o_kinds q_o_purses q_o_homes o_told o_low o_high o_price o_hour o_bidders o_heights o_holders o_kinds o_purses o_homes))) sz) := by
  refine Met.ofW (cc := cX0_keep) (maxL := 2) (ret := none) (by decide) rfl ?_
  intro p e s m args below meth c s₁ B hml hv
  obtain ⟨rfl, hsz, hP, hK, hD0⟩ := hv
  have hx := B.exec
  have hb := B.bytes
  have hr := B.returns
  have hts := atoms_spec (ws := wsX0_keep) B.pre
  have hown : s.vm.findClass RX0 = some m.cls := findClass_of_methodNamed B.named
  have hlocks := B.notSynchronized
  subst hsz
  have hD := hD0.self (sz := s.heap.size)
  obtain ⟨A, hAe⟩ : ∃ A, A = va_A ((W_Acts cI cZ q_s q_s_saved s_saved s_next s_kept) ++ ((W_Isle cI cZ q_o q_o_heights q_o_holders q_o_kinds q_o_purses q_o_homes o_told o_low o_high o_price o_hour o_bidders o_heights o_holders o_kinds o_purses o_homes))) s.heap.size := ⟨_, rfl⟩
  rw [← hAe] at hD
  have hA : ∀ q : Nat, s.heap.size ≤ q → A q := fun q h => by rw [hAe]; exact Or.inr h
  have hS : va_S A s.heap s.heap [] := va_S.rf
  have hl := lv_entry ([.ref q_s, .ref q_o]) (n := 2) (Nat.le_of_ble_eq_true rfl)
  rw [lg_entry_eq]
  generalize (lg_sl ([.ref q_s, .ref q_o]) ++ List.replicate (2 - (lg_sl ([.ref q_s, .ref q_o])).length) Slot.unset).toArray = ls at hl ⊢
  have hl : lv_has ls 2 [(0, .ref q_s), (1, .ref q_o)] := hl
  obtain ⟨QQ, hQQ⟩ : ∃ Q, Q = MQ below (mtQv (dC, dI) (tyZ cI cZ) ((W_Acts cI cZ q_s q_s_saved s_saved s_next s_kept) ++ ((W_Isle cI cZ q_o q_o_heights q_o_holders q_o_kinds q_o_purses q_o_homes o_told o_low o_high o_price o_hour o_bidders o_heights o_holders o_kinds o_purses o_homes))) ((W_Acts cI cZ q_s q_s_saved res.1 res.2.1 res.2.2) ++ ((W_Isle cI cZ q_o q_o_heights q_o_holders q_o_kinds q_o_purses q_o_homes o_told o_low o_high o_price o_hour o_bidders o_heights o_holders o_kinds o_purses o_homes))) s.heap.size) ([.ref q_s, .ref q_o] : List Value).toArray s 0 0 (va_A ((W_Acts cI cZ q_s q_s_saved s_saved s_next s_kept) ++ ((W_Isle cI cZ q_o q_o_heights q_o_holders q_o_kinds q_o_purses q_o_homes o_told o_low o_high o_price o_hour o_bidders o_heights o_holders o_kinds o_purses o_homes))) s.heap.size) := ⟨_, rfl⟩
  rw [← hQQ]
  have w_0 := hts (Cond.fieldLink RX0 11 "TideInches$Acts" "saved" "[I") (List.mem_of_getElem? (i := 1) rfl)
  have w_1 := (fun w hw => List.mem_cons_of_mem _ (List.mem_append_left _ (List.mem_append_right _ hw)) : ∀ w ∈ wsX00, w ∈ wsX0_keep)
  have w_2 := hts (Cond.fieldLink RX0 19 "TideInches$Acts" "next" "I") (List.mem_of_getElem? (i := 2) rfl)
  have w_3 := hts (Cond.fieldLink RX0 15 "TideInches$Acts" "kept" "I") (List.mem_of_getElem? (i := 3) rfl)
  have w_4 := hts (Cond.methodLink RX0 26 Lib.Math.min.name) (List.mem_of_getElem? (i := 4) rfl)
  have w_5 := hts (Cond.static Lib.Math.min.name) (List.mem_of_getElem? (i := 5) rfl)
  have w_6 := hts (Cond.initialized "java/lang/Math") (List.mem_of_getElem? (i := 6) rfl)
  have w_7 := hts (Cond.code Lib.Math.min.name Lib.Math.min.code 2 (some .int)) (List.mem_of_getElem? (i := 7) rfl)
  have h := hf
  unfold fX0_keep at h
  refine lv_aload_n hx hb dX0_keep_0 rfl (lv_at hl 1 rfl) ?_
  refine lv_aload_n hx hb dX0_keep_1 rfl (lv_at hl 0 rfl) ?_
  refine va_get (D := (dC, dI)) (ci := 0) (v := .ref q_s_saved) (C := RX0) (T := TX0) (N := 3) hx hb hts w_1 hown hK hP 0 rfl rfl 0 (by decide) w_0 (fun _ h9 => h9) rfl dX0_keep_2 ?_
  refine lv_aload_n hx hb dX0_keep_5 rfl (lv_at hl 0 rfl) ?_
  refine va_get (D := (dC, dI)) (ci := 0) (v := .int s_next) (C := RX0) (T := TX0) (N := 3) hx hb hts w_1 hown hK hP 0 rfl rfl 1 (by decide) w_2 (fun _ h9 => h9) rfl dX0_keep_6 ?_
  refine lv_bipush (v := 36) hx hb dX0_keep_9 (by decide) ?_
  refine lv_imul hx hb dX0_keep_11 ?_
  obtain ⟨s_saved_1, hc_1, h⟩ := bd1_of h
  refine cl_mVv (As := [.ref q_s_saved, .int (s_next * 36)]) (rest := []) (ws' := (W_Acts cI cZ q_s q_s_saved s_saved_1 s_next s_kept) ++ ((W_Isle cI cZ q_o q_o_heights q_o_holders q_o_kinds q_o_purses q_o_homes o_told o_low o_high o_price o_hour o_bidders o_heights o_holders o_kinds o_purses o_homes))) (wr := [(q_s, .inr (0, [.ref q_s_saved, .int s_next, .int s_kept]))]) ⟨hx, hb, hml, hown, hts⟩ (m_X3_saveTo l dC dI cI cZ q_o q_o_heights q_o_holders q_o_kinds q_o_purses q_o_homes q_s_saved o_told o_low o_high o_price o_hour o_bidders o_heights o_holders o_kinds o_purses o_homes s_saved (s_next * 36) _ (s_saved_1) hc_1) (cwV 2 hts gX0_keep_X3_saveTo rfl rfl rfl ⟨rfl, ddX3_saveTo⟩ ⟨Nat.le_of_ble_eq_true rfl, Nat.le_of_ble_eq_true rfl⟩) hK hP hD hS hA [2, 3, 4, 5, 6, 7, 1] [0] rfl rfl rfl rfl (by decide) [0, 7, 1, 2, 3, 4, 5, 6] rfl rfl rfl rfl rfl rfl rfl hl.1 (Nat.le_of_ble_eq_true rfl) ⟨Nat.zero_le _, Nat.zero_le _⟩ dX0_keep_12 (fun H locs hP hD hS => ?_)
  refine lv_aload_n hx hb dX0_keep_15 rfl (lv_at hl 0 rfl) ?_
  refine lv_aload_n hx hb dX0_keep_16 rfl (lv_at hl 0 rfl) ?_
  refine va_get (D := (dC, dI)) (ci := 0) (v := .int s_next) (C := RX0) (T := TX0) (N := 3) hx hb hts w_1 hown hK hP 0 rfl rfl 1 (by decide) w_2 (fun _ h9 => h9) rfl dX0_keep_17 ?_
  refine lv_iconst (v := 1) hx hb dX0_keep_20 (by decide) ?_
  refine lv_iadd hx hb dX0_keep_21 ?_
  refine lv_bipush (v := 24) hx hb dX0_keep_22 (by decide) ?_
  refine lv_irem hx hb dX0_keep_24 (by decide) ?_
  refine va_put (D := (dC, dI)) (ci := 0) (v := .int ((s_next + 1) - (s_next + 1) / 24 * 24)) (ty := .int) (C := RX0) (T := TX0) (N := 3) hx hb hts w_1 tyX0 tyX0_ok nmX0 hown hK hP hD hS 0 rfl rfl 1 (by decide) w_2 (fun _ h9 => h9) rfl (by decide +kernel) rfl rfl (Nat.le_of_ble_eq_true rfl) dX0_keep_25 (fun H locs hP hD hS => ?_)
  have hP : va_P (dC, dI) vwCl ((W_Acts cI cZ q_s q_s_saved s_saved_1 ((s_next + 1) - (s_next + 1) / 24 * 24) s_kept) ++ ((W_Isle cI cZ q_o q_o_heights q_o_holders q_o_kinds q_o_purses q_o_homes o_told o_low o_high o_price o_hour o_bidders o_heights o_holders o_kinds o_purses o_homes))) H := hP
  have hD : va_D A ((W_Acts cI cZ q_s q_s_saved s_saved_1 ((s_next + 1) - (s_next + 1) / 24 * 24) s_kept) ++ ((W_Isle cI cZ q_o q_o_heights q_o_holders q_o_kinds q_o_purses q_o_homes o_told o_low o_high o_price o_hour o_bidders o_heights o_holders o_kinds o_purses o_homes))) := hD
  refine lv_aload_n hx hb dX0_keep_28 rfl (lv_at hl 0 rfl) ?_
  refine lv_bipush (v := 24) hx hb dX0_keep_29 (by decide) ?_
  refine lv_aload_n hx hb dX0_keep_31 rfl (lv_at hl 0 rfl) ?_
  refine va_get (D := (dC, dI)) (ci := 0) (v := .int s_kept) (C := RX0) (T := TX0) (N := 3) hx hb hts w_1 hown hK hP 0 rfl rfl 2 (by decide) w_3 (fun _ h9 => h9) rfl dX0_keep_32 ?_
  refine lv_iconst (v := 1) hx hb dX0_keep_35 (by decide) ?_
  refine lv_iadd hx hb dX0_keep_36 ?_
  refine va_mmin hx hb (hml.trans hl.1.symm) hown w_4 w_5 w_6 w_7 (Nat.le_of_ble_eq_true rfl) (Nat.le_of_ble_eq_true rfl) (Nat.zero_le _) (Nat.zero_le _) dX0_keep_37 ?_
  refine va_put (D := (dC, dI)) (ci := 0) (v := .int (imin 24 (s_kept + 1))) (ty := .int) (C := RX0) (T := TX0) (N := 3) hx hb hts w_1 tyX0 tyX0_ok nmX0 hown hK hP hD hS 0 rfl rfl 2 (by decide) w_3 (fun _ h9 => h9) rfl (by decide +kernel) rfl rfl (Nat.le_of_ble_eq_true rfl) dX0_keep_40 (fun H locs hP hD hS => ?_)
  have hP : va_P (dC, dI) vwCl ((W_Acts cI cZ q_s q_s_saved s_saved_1 ((s_next + 1) - (s_next + 1) / 24 * 24) (imin 24 (s_kept + 1))) ++ ((W_Isle cI cZ q_o q_o_heights q_o_holders q_o_kinds q_o_purses q_o_homes o_told o_low o_high o_price o_hour o_bidders o_heights o_holders o_kinds o_purses o_homes))) H := hP
  have hD : va_D A ((W_Acts cI cZ q_s q_s_saved s_saved_1 ((s_next + 1) - (s_next + 1) / 24 * 24) (imin 24 (s_kept + 1))) ++ ((W_Isle cI cZ q_o q_o_heights q_o_holders q_o_kinds q_o_purses q_o_homes o_told o_low o_high o_price o_hour o_bidders o_heights o_holders o_kinds o_purses o_homes))) := hD
  have h := Option.some.inj h
  subst h
  rw [hQQ]
  subst hAe
  exact W.vret hx hb hr (fun t ht hW => ⟨⟨(), rfl, trivial, by rw [ht]; exact hP, va_K.moved hW.alike hK, hD⟩, hS.F ht⟩) hS.2.2 dX0_keep_43
def fX0_takeBack (s_saved : (Nat → Int32)) (s_next : Int32) (s_kept : Int32) (o_heights : (Nat → Int32)) (o_holders : (Nat → Int32)) (o_purses : (Nat → Int32)) : Option (Int32 × Int32 × Int32 × (Nat → Int32) × (Nat → Int32) × (Nat → Int32)) :=
  bd4 (fX3_takeFrom o_heights o_holders o_purses s_saved ((((s_next + 24) - 1) - ((s_next + 24) - 1) / 24 * 24) * 36)) (fun o_hour_1 o_heights_1 o_holders_1 o_purses_1 => some ((((s_next + 24) - 1) - ((s_next + 24) - 1) / 24 * 24), (s_kept - 1), o_hour_1, o_heights_1, o_holders_1, o_purses_1))
abbrev rmX0_takeBack : Room := { frames := 2, cells := 0, slots := 0, locals := 62 }
theorem ddX0_takeBack : yX0_takeBack.cls ≠ "java/lang/invoke/MethodHandle" ∧ yX0_takeBack.cls ≠ "java/lang/invoke/VarHandle" ∧ (parseMethodDescriptor yX0_takeBack.desc).map (fun d => d.parameters.length) = some 1 := by decide +kernel
set_option maxHeartbeats 4000000 in
set_option maxRecDepth 100000 in
theorem m_X0_takeBack (l : Launch) (dC : Nat → ClassId) (dI : Nat → Nat → Nat) (cI cZ : ClassId) (q_s q_s_saved q_o q_o_heights q_o_holders q_o_kinds q_o_purses q_o_homes : Nat) (s_saved : (Nat → Int32)) (s_next : Int32) (s_kept : Int32) (o_told : Int32) (o_low : Int32) (o_high : Int32) (o_price : Int32) (o_hour : Int32) (o_bidders : Int32) (o_heights : (Nat → Int32)) (o_holders : (Nat → Int32)) (o_kinds : (Nat → Int32)) (o_purses : (Nat → Int32)) (o_homes : (Nat → Int32)) (sz : Nat) (res : Int32 × Int32 × Int32 × (Nat → Int32) × (Nat → Int32) × (Nat → Int32)) (hf : fX0_takeBack s_saved s_next s_kept o_heights o_holders o_purses = some res) : Met l yX0_takeBack wsX0_takeBack rmX0_takeBack (mtPc (dC, dI) (tyZ cI cZ) ((W_Acts cI cZ q_s q_s_saved s_saved s_next s_kept) ++ ((W_Isle cI cZ q_o q_o_heights q_o_holders q_o_kinds q_o_purses q_o_homes o_told o_low o_high o_price o_hour o_bidders o_heights o_holders o_kinds o_purses o_homes))) [.ref q_s, .ref q_o] sz) (mtQv (dC, dI) (tyZ cI cZ) ((W_Acts cI cZ q_s q_s_saved s_saved s_next s_kept) ++ ((W_Isle cI cZ q_o q_o_heights q_o_holders q_o_kinds q_o_purses q_o_homes o_told o_low o_high o_price o_hour o_bidders o_heights o_holders o_kinds o_purses o_homes))) ((W_Acts cI cZ q_s q_s_saved s_saved res.1 res.2.1) ++ ((W_Isle cI cZ q_o q_o_heights q_o_holders q_o_kinds q_o_purses q_o_homes o_told o_low o_high o_price res.2.2.1 o_bidders res.2.2.2.1 res.2.2.2.2.1 o_kinds res.2.2.2.2.2 o_homes))) sz) 0 0 (va_A ((W_Acts cI cZ q_s q_s_saved s_saved s_next s_kept) ++ ((W_Isle cI cZ q_o q_o_heights q_o_holders q_o_kinds q_o_purses q_o_homes o_told o_low o_high o_price o_hour o_bidders o_heights o_holders o_kinds o_purses o_homes))) sz) := by
  refine Met.ofW (cc := cX0_takeBack) (maxL := 2) (ret := none) (by decide) rfl ?_
  intro p e s m args below meth c s₁ B hml hv
  obtain ⟨rfl, hsz, hP, hK, hD0⟩ := hv
  have hx := B.exec
  have hb := B.bytes
  have hr := B.returns
  have hts := atoms_spec (ws := wsX0_takeBack) B.pre
  have hown : s.vm.findClass RX0 = some m.cls := findClass_of_methodNamed B.named
  have hlocks := B.notSynchronized
  subst hsz
  have hD := hD0.self (sz := s.heap.size)
  obtain ⟨A, hAe⟩ : ∃ A, A = va_A ((W_Acts cI cZ q_s q_s_saved s_saved s_next s_kept) ++ ((W_Isle cI cZ q_o q_o_heights q_o_holders q_o_kinds q_o_purses q_o_homes o_told o_low o_high o_price o_hour o_bidders o_heights o_holders o_kinds o_purses o_homes))) s.heap.size := ⟨_, rfl⟩
  rw [← hAe] at hD
  have hA : ∀ q : Nat, s.heap.size ≤ q → A q := fun q h => by rw [hAe]; exact Or.inr h
  have hS : va_S A s.heap s.heap [] := va_S.rf
  have hl := lv_entry ([.ref q_s, .ref q_o]) (n := 2) (Nat.le_of_ble_eq_true rfl)
  rw [lg_entry_eq]
  generalize (lg_sl ([.ref q_s, .ref q_o]) ++ List.replicate (2 - (lg_sl ([.ref q_s, .ref q_o])).length) Slot.unset).toArray = ls at hl ⊢
  have hl : lv_has ls 2 [(0, .ref q_s), (1, .ref q_o)] := hl
  obtain ⟨QQ, hQQ⟩ : ∃ Q, Q = MQ below (mtQv (dC, dI) (tyZ cI cZ) ((W_Acts cI cZ q_s q_s_saved s_saved s_next s_kept) ++ ((W_Isle cI cZ q_o q_o_heights q_o_holders q_o_kinds q_o_purses q_o_homes o_told o_low o_high o_price o_hour o_bidders o_heights o_holders o_kinds o_purses o_homes))) ((W_Acts cI cZ q_s q_s_saved s_saved res.1 res.2.1) ++ ((W_Isle cI cZ q_o q_o_heights q_o_holders q_o_kinds q_o_purses q_o_homes o_told o_low o_high o_price res.2.2.1 o_bidders res.2.2.2.1 res.2.2.2.2.1 o_kinds res.2.2.2.2.2 o_homes))) s.heap.size) ([.ref q_s, .ref q_o] : List Value).toArray s 0 0 (va_A ((W_Acts cI cZ q_s q_s_saved s_saved s_next s_kept) ++ ((W_Isle cI cZ q_o q_o_heights q_o_holders q_o_kinds q_o_purses q_o_homes o_told o_low o_high o_price o_hour o_bidders o_heights o_holders o_kinds o_purses o_homes))) s.heap.size) := ⟨_, rfl⟩
  rw [← hQQ]
  have w_0 := hts (Cond.fieldLink RX0 19 "TideInches$Acts" "next" "I") (List.mem_of_getElem? (i := 1) rfl)
  have w_1 := (fun w hw => List.mem_cons_of_mem _ (List.mem_append_left _ (List.mem_append_right _ hw)) : ∀ w ∈ wsX00, w ∈ wsX0_takeBack)
  have w_2 := hts (Cond.fieldLink RX0 11 "TideInches$Acts" "saved" "[I") (List.mem_of_getElem? (i := 2) rfl)
  have w_3 := hts (Cond.fieldLink RX0 15 "TideInches$Acts" "kept" "I") (List.mem_of_getElem? (i := 3) rfl)
  have h := hf
  unfold fX0_takeBack at h
  refine lv_aload_n hx hb dX0_takeBack_0 rfl (lv_at hl 0 rfl) ?_
  refine lv_aload_n hx hb dX0_takeBack_1 rfl (lv_at hl 0 rfl) ?_
  refine va_get (D := (dC, dI)) (ci := 0) (v := .int s_next) (C := RX0) (T := TX0) (N := 3) hx hb hts w_1 hown hK hP 0 rfl rfl 1 (by decide) w_0 (fun _ h9 => h9) rfl dX0_takeBack_2 ?_
  refine lv_bipush (v := 24) hx hb dX0_takeBack_5 (by decide) ?_
  refine lv_iadd hx hb dX0_takeBack_7 ?_
  refine lv_iconst (v := 1) hx hb dX0_takeBack_8 (by decide) ?_
  refine lv_isub hx hb dX0_takeBack_9 ?_
  refine lv_bipush (v := 24) hx hb dX0_takeBack_10 (by decide) ?_
  refine lv_irem hx hb dX0_takeBack_12 (by decide) ?_
  refine va_put (D := (dC, dI)) (ci := 0) (v := .int (((s_next + 24) - 1) - ((s_next + 24) - 1) / 24 * 24)) (ty := .int) (C := RX0) (T := TX0) (N := 3) hx hb hts w_1 tyX0 tyX0_ok nmX0 hown hK hP hD hS 0 rfl rfl 1 (by decide) w_0 (fun _ h9 => h9) rfl (by decide +kernel) rfl rfl (Nat.le_of_ble_eq_true rfl) dX0_takeBack_13 (fun H locs hP hD hS => ?_)
  have hP : va_P (dC, dI) vwCl ((W_Acts cI cZ q_s q_s_saved s_saved (((s_next + 24) - 1) - ((s_next + 24) - 1) / 24 * 24) s_kept) ++ ((W_Isle cI cZ q_o q_o_heights q_o_holders q_o_kinds q_o_purses q_o_homes o_told o_low o_high o_price o_hour o_bidders o_heights o_holders o_kinds o_purses o_homes))) H := hP
  have hD : va_D A ((W_Acts cI cZ q_s q_s_saved s_saved (((s_next + 24) - 1) - ((s_next + 24) - 1) / 24 * 24) s_kept) ++ ((W_Isle cI cZ q_o q_o_heights q_o_holders q_o_kinds q_o_purses q_o_homes o_told o_low o_high o_price o_hour o_bidders o_heights o_holders o_kinds o_purses o_homes))) := hD
  refine lv_aload_n hx hb dX0_takeBack_16 rfl (lv_at hl 1 rfl) ?_
  refine lv_aload_n hx hb dX0_takeBack_17 rfl (lv_at hl 0 rfl) ?_
  refine va_get (D := (dC, dI)) (ci := 0) (v := .ref q_s_saved) (C := RX0) (T := TX0) (N := 3) hx hb hts w_1 hown hK hP 0 rfl rfl 0 (by decide) w_2 (fun _ h9 => h9) rfl dX0_takeBack_18 ?_
  refine lv_aload_n hx hb dX0_takeBack_21 rfl (lv_at hl 0 rfl) ?_
  refine va_get (D := (dC, dI)) (ci := 0) (v := .int (((s_next + 24) - 1) - ((s_next + 24) - 1) / 24 * 24)) (C := RX0) (T := TX0) (N := 3) hx hb hts w_1 hown hK hP 0 rfl rfl 1 (by decide) w_0 (fun _ h9 => h9) rfl dX0_takeBack_22 ?_
  refine lv_bipush (v := 36) hx hb dX0_takeBack_25 (by decide) ?_
  refine lv_imul hx hb dX0_takeBack_27 ?_
  obtain ⟨o_hour_1, o_heights_1, o_holders_1, o_purses_1, hc_1, h⟩ := bd4_of h
  refine cl_mVv (As := [.ref q_s_saved, .int ((((s_next + 24) - 1) - ((s_next + 24) - 1) / 24 * 24) * 36)]) (rest := []) (ws' := (W_Acts cI cZ q_s q_s_saved s_saved (((s_next + 24) - 1) - ((s_next + 24) - 1) / 24 * 24) s_kept) ++ ((W_Isle cI cZ q_o q_o_heights q_o_holders q_o_kinds q_o_purses q_o_homes o_told o_low o_high o_price o_hour_1 o_bidders o_heights_1 o_holders_1 o_kinds o_purses_1 o_homes))) (wr := [(q_s, .inr (0, [.ref q_s_saved, .int (((s_next + 24) - 1) - ((s_next + 24) - 1) / 24 * 24), .int s_kept]))]) ⟨hx, hb, hml, hown, hts⟩ (m_X3_takeFrom l dC dI cI cZ q_o q_o_heights q_o_holders q_o_kinds q_o_purses q_o_homes q_s_saved o_told o_low o_high o_price o_hour o_bidders o_heights o_holders o_kinds o_purses o_homes s_saved ((((s_next + 24) - 1) - ((s_next + 24) - 1) / 24 * 24) * 36) _ (o_hour_1, o_heights_1, o_holders_1, o_purses_1) hc_1) (cwV 2 hts gX0_takeBack_X3_takeFrom rfl rfl rfl ⟨rfl, ddX3_takeFrom⟩ ⟨Nat.le_of_ble_eq_true rfl, Nat.le_of_ble_eq_true rfl⟩) hK hP hD hS hA [2, 3, 4, 5, 6, 7, 1] [0] rfl rfl rfl rfl (by decide) [0, 7, 1, 2, 3, 4, 5, 6] rfl rfl rfl rfl rfl rfl rfl hl.1 (Nat.le_of_ble_eq_true rfl) ⟨Nat.zero_le _, Nat.zero_le _⟩ dX0_takeBack_28 (fun H locs hP hD hS => ?_)
  refine lv_aload_n hx hb dX0_takeBack_31 rfl (lv_at hl 0 rfl) ?_
  refine lv_dup hx hb dX0_takeBack_32 rfl ?_
  refine va_get (D := (dC, dI)) (ci := 0) (v := .int s_kept) (C := RX0) (T := TX0) (N := 3) hx hb hts w_1 hown hK hP 0 rfl rfl 2 (by decide) w_3 (fun _ h9 => h9) rfl dX0_takeBack_33 ?_
  refine lv_iconst (v := 1) hx hb dX0_takeBack_36 (by decide) ?_
  refine lv_isub hx hb dX0_takeBack_37 ?_
  refine va_put (D := (dC, dI)) (ci := 0) (v := .int (s_kept - 1)) (ty := .int) (C := RX0) (T := TX0) (N := 3) hx hb hts w_1 tyX0 tyX0_ok nmX0 hown hK hP hD hS 0 rfl rfl 2 (by decide) w_3 (fun _ h9 => h9) rfl (by decide +kernel) rfl rfl (Nat.le_of_ble_eq_true rfl) dX0_takeBack_38 (fun H locs hP hD hS => ?_)
  have hP : va_P (dC, dI) vwCl ((W_Acts cI cZ q_s q_s_saved s_saved (((s_next + 24) - 1) - ((s_next + 24) - 1) / 24 * 24) (s_kept - 1)) ++ ((W_Isle cI cZ q_o q_o_heights q_o_holders q_o_kinds q_o_purses q_o_homes o_told o_low o_high o_price o_hour_1 o_bidders o_heights_1 o_holders_1 o_kinds o_purses_1 o_homes))) H := hP
  have hD : va_D A ((W_Acts cI cZ q_s q_s_saved s_saved (((s_next + 24) - 1) - ((s_next + 24) - 1) / 24 * 24) (s_kept - 1)) ++ ((W_Isle cI cZ q_o q_o_heights q_o_holders q_o_kinds q_o_purses q_o_homes o_told o_low o_high o_price o_hour_1 o_bidders o_heights_1 o_holders_1 o_kinds o_purses_1 o_homes))) := hD
  have h := Option.some.inj h
  subst h
  rw [hQQ]
  subst hAe
  exact W.vret hx hb hr (fun t ht hW => ⟨⟨(), rfl, trivial, by rw [ht]; exact hP, va_K.moved hW.alike hK, hD⟩, hS.F ht⟩) hS.2.2 dX0_takeBack_41
def fX1_traced (s_traced : Int32) : Option (Int32) :=
  some (s_traced)
abbrev rmX1_traced : Room := { frames := 0, cells := 0, slots := 0, locals := 0 }
theorem ddX1_traced : yX1_traced.cls ≠ "java/lang/invoke/MethodHandle" ∧ yX1_traced.cls ≠ "java/lang/invoke/VarHandle" ∧ (parseMethodDescriptor yX1_traced.desc).map (fun d => d.parameters.length) = some 0 := by decide +kernel
set_option maxHeartbeats 4000000 in
set_option maxRecDepth 100000 in
theorem m_X1_traced (l : Launch) (dC : Nat → ClassId) (dI : Nat → Nat → Nat) (cI cZ : ClassId) (q_s q_s_bodies : Nat) (s_bodies : (Nat → Int32)) (s_traced : Int32) (s_number : Int32) (s_kind : Int32) (s_purse : Int32) (s_home : Int32) (res : Int32) (hf : fX1_traced s_traced = some res) : Met l yX1_traced wsX1_traced rmX1_traced (rdPc (dC, dI) (tyZ cI cZ) ((W_Asks cI cZ q_s q_s_bodies s_bodies s_traced s_number s_kind s_purse s_home)) [.ref q_s]) (rdQ res) 0 0 (fun _ => False) := by
  refine Met.ofW (cc := cX1_traced) (maxL := 1) (ret := (some .int)) (by decide) rfl ?_
  intro p e s m args below meth c s₁ B hml hv
  obtain ⟨rfl, hP, hK⟩ := hv
  have hx := B.exec
  have hb := B.bytes
  have hr := B.returns
  have hts := atoms_spec (ws := wsX1_traced) B.pre
  have hown : s.vm.findClass RX1 = some m.cls := findClass_of_methodNamed B.named
  have hlocks := B.notSynchronized
  have hl := lv_entry ([.ref q_s]) (n := 1) (Nat.le_of_ble_eq_true rfl)
  rw [lg_entry_eq]
  generalize (lg_sl ([.ref q_s]) ++ List.replicate (1 - (lg_sl ([.ref q_s])).length) Slot.unset).toArray = ls at hl ⊢
  have hl : lv_has ls 1 [(0, .ref q_s)] := hl
  obtain ⟨QQ, hQQ⟩ : ∃ Q, Q = MQ below (rdQ res) ([.ref q_s] : List Value).toArray s 0 0 (fun _ => False) := ⟨_, rfl⟩
  rw [← hQQ]
  have w_0 := hts (Cond.fieldLink RX1 13 "TideInches$Asks" "traced" "I") (List.mem_of_getElem? (i := 1) rfl)
  have w_1 := (fun w hw => List.mem_cons_of_mem _ (List.mem_append_right _ hw) : ∀ w ∈ wsX10, w ∈ wsX1_traced)
  have h := hf
  unfold fX1_traced at h
  refine lv_aload_n hx hb dX1_traced_0 rfl (lv_at hl 0 rfl) ?_
  refine va_get (D := (dC, dI)) (ci := 1) (v := .int s_traced) (C := RX1) (T := TX1) (N := 6) hx hb hts w_1 hown hK hP 0 rfl rfl 1 (by decide) w_0 (fun _ h9 => h9) rfl dX1_traced_1 ?_
  rw [hQQ]
  exact W.iret (v := s_traced) hx hb hr (fun t ht hW => ⟨_, rfl, Option.some.inj h, ht⟩) (fun q hq => by cases hq) dX1_traced_4
def fX1_tracedBody (s_bodies : (Nat → Int32)) (v1 : Int32) : Option (Int32) :=
  chk (¬ (v1 < 0 ∨ 16 ≤ v1.toNatClampNeg)) (some ((s_bodies v1.toNatClampNeg)))
abbrev rmX1_tracedBody : Room := { frames := 0, cells := 0, slots := 0, locals := 0 }
theorem ddX1_tracedBody : yX1_tracedBody.cls ≠ "java/lang/invoke/MethodHandle" ∧ yX1_tracedBody.cls ≠ "java/lang/invoke/VarHandle" ∧ (parseMethodDescriptor yX1_tracedBody.desc).map (fun d => d.parameters.length) = some 1 := by decide +kernel
set_option maxHeartbeats 4000000 in
set_option maxRecDepth 100000 in
theorem m_X1_tracedBody (l : Launch) (dC : Nat → ClassId) (dI : Nat → Nat → Nat) (cI cZ : ClassId) (q_s q_s_bodies : Nat) (s_bodies : (Nat → Int32)) (s_traced : Int32) (s_number : Int32) (s_kind : Int32) (s_purse : Int32) (s_home : Int32) (v1 : Int32) (res : Int32) (hf : fX1_tracedBody s_bodies v1 = some res) : Met l yX1_tracedBody wsX1_tracedBody rmX1_tracedBody (rdPc (dC, dI) (tyZ cI cZ) ((W_Asks cI cZ q_s q_s_bodies s_bodies s_traced s_number s_kind s_purse s_home)) [.ref q_s, .int v1]) (rdQ res) 0 0 (fun _ => False) := by
  refine Met.ofW (cc := cX1_tracedBody) (maxL := 2) (ret := (some .int)) (by decide) rfl ?_
  intro p e s m args below meth c s₁ B hml hv
  obtain ⟨rfl, hP, hK⟩ := hv
  have hx := B.exec
  have hb := B.bytes
  have hr := B.returns
  have hts := atoms_spec (ws := wsX1_tracedBody) B.pre
  have hown : s.vm.findClass RX1 = some m.cls := findClass_of_methodNamed B.named
  have hlocks := B.notSynchronized
  have hl := lv_entry ([.ref q_s, .int v1]) (n := 2) (Nat.le_of_ble_eq_true rfl)
  rw [lg_entry_eq]
  generalize (lg_sl ([.ref q_s, .int v1]) ++ List.replicate (2 - (lg_sl ([.ref q_s, .int v1])).length) Slot.unset).toArray = ls at hl ⊢
  have hl : lv_has ls 2 [(0, .ref q_s), (1, .int v1)] := hl
  obtain ⟨QQ, hQQ⟩ : ∃ Q, Q = MQ below (rdQ res) ([.ref q_s, .int v1] : List Value).toArray s 0 0 (fun _ => False) := ⟨_, rfl⟩
  rw [← hQQ]
  have w_0 := hts (Cond.fieldLink RX1 9 "TideInches$Asks" "bodies" "[I") (List.mem_of_getElem? (i := 1) rfl)
  have w_1 := (fun w hw => List.mem_cons_of_mem _ (List.mem_append_right _ hw) : ∀ w ∈ wsX10, w ∈ wsX1_tracedBody)
  have h := hf
  unfold fX1_tracedBody at h
  refine lv_aload_n hx hb dX1_tracedBody_0 rfl (lv_at hl 0 rfl) ?_
  refine va_get (D := (dC, dI)) (ci := 1) (v := .ref q_s_bodies) (C := RX1) (T := TX1) (N := 6) hx hb hts w_1 hown hK hP 0 rfl rfl 0 (by decide) w_0 (fun _ h9 => h9) rfl dX1_tracedBody_1 ?_
  refine lv_iload_n hx hb dX1_tracedBody_4 rfl (lv_at hl 1 rfl) ?_
  obtain ⟨b_1, h⟩ := chk_of h
  refine va_iald hx hb hK hP 1 0 rfl rfl (i := v1) b_1 dX1_tracedBody_5 ?_
  rw [hQQ]
  exact W.iret (v := (s_bodies v1.toNatClampNeg)) hx hb hr (fun t ht hW => ⟨_, rfl, Option.some.inj h, ht⟩) (fun q hq => by cases hq) dX1_tracedBody_6
def fX1_turnTo (o_kinds : (Nat → Int32)) (o_purses : (Nat → Int32)) (o_homes : (Nat → Int32)) (v2 : Int32) : Option (Int32 × Int32 × Int32 × Int32 × Int32) :=
  bd1 (fX3_kindOf o_kinds v2) (fun r_1 => bd1 (fX3_purse o_purses v2) (fun r_2 => bd1 (fX3_homeOf o_homes v2) (fun r_3 => some (0, v2, r_1, r_2, r_3))))
abbrev rmX1_turnTo : Room := { frames := 1, cells := 0, slots := 0, locals := 21 }
theorem ddX1_turnTo : yX1_turnTo.cls ≠ "java/lang/invoke/MethodHandle" ∧ yX1_turnTo.cls ≠ "java/lang/invoke/VarHandle" ∧ (parseMethodDescriptor yX1_turnTo.desc).map (fun d => d.parameters.length) = some 2 := by decide +kernel
set_option maxHeartbeats 4000000 in
set_option maxRecDepth 100000 in
theorem m_X1_turnTo (l : Launch) (dC : Nat → ClassId) (dI : Nat → Nat → Nat) (cI cZ : ClassId) (q_s q_s_bodies q_o q_o_heights q_o_holders q_o_kinds q_o_purses q_o_homes : Nat) (s_bodies : (Nat → Int32)) (s_traced : Int32) (s_number : Int32) (s_kind : Int32) (s_purse : Int32) (s_home : Int32) (o_told : Int32) (o_low : Int32) (o_high : Int32) (o_price : Int32) (o_hour : Int32) (o_bidders : Int32) (o_heights : (Nat → Int32)) (o_holders : (Nat → Int32)) (o_kinds : (Nat → Int32)) (o_purses : (Nat → Int32)) (o_homes : (Nat → Int32)) (v2 : Int32) (sz : Nat) (res : Int32 × Int32 × Int32 × Int32 × Int32) (hf : fX1_turnTo o_kinds o_purses o_homes v2 = some res) : Met l yX1_turnTo wsX1_turnTo rmX1_turnTo (mtPc (dC, dI) (tyZ cI cZ) ((W_Asks cI cZ q_s q_s_bodies s_bodies s_traced s_number s_kind s_purse s_home) ++ ((W_Isle cI cZ q_o q_o_heights q_o_holders q_o_kinds q_o_purses q_o_homes o_told o_low o_high o_price o_hour o_bidders o_heights o_holders o_kinds o_purses o_homes))) [.ref q_s, .ref q_o, .int v2] sz) (mtQv (dC, dI) (tyZ cI cZ) ((W_Asks cI cZ q_s q_s_bodies s_bodies s_traced s_number s_kind s_purse s_home) ++ ((W_Isle cI cZ q_o q_o_heights q_o_holders q_o_kinds q_o_purses q_o_homes o_told o_low o_high o_price o_hour o_bidders o_heights o_holders o_kinds o_purses o_homes))) ((W_Asks cI cZ q_s q_s_bodies s_bodies res.1 res.2.1 res.2.2.1 res.2.2.2.1 res.2.2.2.2) ++ ((W_Isle cI cZ q_o q_o_heights q_o_holders q_o_kinds q_o_purses q_o_homes o_told o_low o_high o_price o_hour o_bidders o_heights o_holders o_kinds o_purses o_homes))) sz) 0 0 (va_A ((W_Asks cI cZ q_s q_s_bodies s_bodies s_traced s_number s_kind s_purse s_home) ++ ((W_Isle cI cZ q_o q_o_heights q_o_holders q_o_kinds q_o_purses q_o_homes o_told o_low o_high o_price o_hour o_bidders o_heights o_holders o_kinds o_purses o_homes))) sz) := by
  refine Met.ofW (cc := cX1_turnTo) (maxL := 3) (ret := none) (by decide) rfl ?_
  intro p e s m args below meth c s₁ B hml hv
  obtain ⟨rfl, hsz, hP, hK, hD0⟩ := hv
  have hx := B.exec
  have hb := B.bytes
  have hr := B.returns
  have hts := atoms_spec (ws := wsX1_turnTo) B.pre
  have hown : s.vm.findClass RX1 = some m.cls := findClass_of_methodNamed B.named
  have hlocks := B.notSynchronized
  subst hsz
  have hD := hD0.self (sz := s.heap.size)
  obtain ⟨A, hAe⟩ : ∃ A, A = va_A ((W_Asks cI cZ q_s q_s_bodies s_bodies s_traced s_number s_kind s_purse s_home) ++ ((W_Isle cI cZ q_o q_o_heights q_o_holders q_o_kinds q_o_purses q_o_homes o_told o_low o_high o_price o_hour o_bidders o_heights o_holders o_kinds o_purses o_homes))) s.heap.size := ⟨_, rfl⟩
  rw [← hAe] at hD
  have hA : ∀ q : Nat, s.heap.size ≤ q → A q := fun q h => by rw [hAe]; exact Or.inr h
  have hS : va_S A s.heap s.heap [] := va_S.rf
  have hl := lv_entry ([.ref q_s, .ref q_o, .int v2]) (n := 3) (Nat.le_of_ble_eq_true rfl)
  rw [lg_entry_eq]
  generalize (lg_sl ([.ref q_s, .ref q_o, .int v2]) ++ List.replicate (3 - (lg_sl ([.ref q_s, .ref q_o, .int v2])).length) Slot.unset).toArray = ls at hl ⊢
  have hl : lv_has ls 3 [(0, .ref q_s), (1, .ref q_o), (2, .int v2)] := hl
  obtain ⟨QQ, hQQ⟩ : ∃ Q, Q = MQ below (mtQv (dC, dI) (tyZ cI cZ) ((W_Asks cI cZ q_s q_s_bodies s_bodies s_traced s_number s_kind s_purse s_home) ++ ((W_Isle cI cZ q_o q_o_heights q_o_holders q_o_kinds q_o_purses q_o_homes o_told o_low o_high o_price o_hour o_bidders o_heights o_holders o_kinds o_purses o_homes))) ((W_Asks cI cZ q_s q_s_bodies s_bodies res.1 res.2.1 res.2.2.1 res.2.2.2.1 res.2.2.2.2) ++ ((W_Isle cI cZ q_o q_o_heights q_o_holders q_o_kinds q_o_purses q_o_homes o_told o_low o_high o_price o_hour o_bidders o_heights o_holders o_kinds o_purses o_homes))) s.heap.size) ([.ref q_s, .ref q_o, .int v2] : List Value).toArray s 0 0 (va_A ((W_Asks cI cZ q_s q_s_bodies s_bodies s_traced s_number s_kind s_purse s_home) ++ ((W_Isle cI cZ q_o q_o_heights q_o_holders q_o_kinds q_o_purses q_o_homes o_told o_low o_high o_price o_hour o_bidders o_heights o_holders o_kinds o_purses o_homes))) s.heap.size) := ⟨_, rfl⟩
  rw [← hQQ]
  have w_0 := hts (Cond.fieldLink RX1 13 "TideInches$Asks" "traced" "I") (List.mem_of_getElem? (i := 1) rfl)
  have w_1 := (fun w hw => List.mem_cons_of_mem _ (List.mem_append_left _ (List.mem_append_right _ hw)) : ∀ w ∈ wsX10, w ∈ wsX1_turnTo)
  have w_2 := hts (Cond.fieldLink RX1 17 "TideInches$Asks" "number" "I") (List.mem_of_getElem? (i := 2) rfl)
  have w_3 := hts (Cond.fieldLink RX1 26 "TideInches$Asks" "kind" "I") (List.mem_of_getElem? (i := 3) rfl)
  have w_4 := hts (Cond.fieldLink RX1 32 "TideInches$Asks" "purse" "I") (List.mem_of_getElem? (i := 4) rfl)
  have w_5 := hts (Cond.fieldLink RX1 37 "TideInches$Asks" "home" "I") (List.mem_of_getElem? (i := 5) rfl)
  have h := hf
  unfold fX1_turnTo at h
  refine lv_aload_n hx hb dX1_turnTo_0 rfl (lv_at hl 0 rfl) ?_
  refine lv_iconst (v := 0) hx hb dX1_turnTo_1 (by decide) ?_
  refine va_put (D := (dC, dI)) (ci := 1) (v := .int 0) (ty := .int) (C := RX1) (T := TX1) (N := 6) hx hb hts w_1 tyX1 tyX1_ok nmX1 hown hK hP hD hS 0 rfl rfl 1 (by decide) w_0 (fun _ h9 => h9) rfl (by decide +kernel) rfl rfl (Nat.le_of_ble_eq_true rfl) dX1_turnTo_2 (fun H locs hP hD hS => ?_)
  have hP : va_P (dC, dI) vwCl ((W_Asks cI cZ q_s q_s_bodies s_bodies 0 s_number s_kind s_purse s_home) ++ ((W_Isle cI cZ q_o q_o_heights q_o_holders q_o_kinds q_o_purses q_o_homes o_told o_low o_high o_price o_hour o_bidders o_heights o_holders o_kinds o_purses o_homes))) H := hP
  have hD : va_D A ((W_Asks cI cZ q_s q_s_bodies s_bodies 0 s_number s_kind s_purse s_home) ++ ((W_Isle cI cZ q_o q_o_heights q_o_holders q_o_kinds q_o_purses q_o_homes o_told o_low o_high o_price o_hour o_bidders o_heights o_holders o_kinds o_purses o_homes))) := hD
  refine lv_aload_n hx hb dX1_turnTo_5 rfl (lv_at hl 0 rfl) ?_
  refine lv_iload_n hx hb dX1_turnTo_6 rfl (lv_at hl 2 rfl) ?_
  refine va_put (D := (dC, dI)) (ci := 1) (v := .int v2) (ty := .int) (C := RX1) (T := TX1) (N := 6) hx hb hts w_1 tyX1 tyX1_ok nmX1 hown hK hP hD hS 0 rfl rfl 2 (by decide) w_2 (fun _ h9 => h9) rfl (by decide +kernel) rfl rfl (Nat.le_of_ble_eq_true rfl) dX1_turnTo_7 (fun H locs hP hD hS => ?_)
  have hP : va_P (dC, dI) vwCl ((W_Asks cI cZ q_s q_s_bodies s_bodies 0 v2 s_kind s_purse s_home) ++ ((W_Isle cI cZ q_o q_o_heights q_o_holders q_o_kinds q_o_purses q_o_homes o_told o_low o_high o_price o_hour o_bidders o_heights o_holders o_kinds o_purses o_homes))) H := hP
  have hD : va_D A ((W_Asks cI cZ q_s q_s_bodies s_bodies 0 v2 s_kind s_purse s_home) ++ ((W_Isle cI cZ q_o q_o_heights q_o_holders q_o_kinds q_o_purses q_o_homes o_told o_low o_high o_price o_hour o_bidders o_heights o_holders o_kinds o_purses o_homes))) := hD
  refine lv_aload_n hx hb dX1_turnTo_10 rfl (lv_at hl 0 rfl) ?_
  refine lv_aload_n hx hb dX1_turnTo_11 rfl (lv_at hl 1 rfl) ?_
  refine lv_iload_n hx hb dX1_turnTo_12 rfl (lv_at hl 2 rfl) ?_
  obtain ⟨r_1, hc_1, h⟩ := bd1_of h
  refine cl_rV (As := [.int v2]) (rest := [.ref q_s]) ⟨hx, hb, hml, hown, hts⟩ (m_X3_kindOf l dC dI cI cZ q_o q_o_heights q_o_holders q_o_kinds q_o_purses q_o_homes o_told o_low o_high o_price o_hour o_bidders o_heights o_holders o_kinds o_purses o_homes v2 (r_1) hc_1) (cwV 1 hts gX1_turnTo_X3_kindOf rfl rfl rfl ⟨rfl, ddX3_kindOf⟩ ⟨Nat.le_of_ble_eq_true rfl, Nat.le_of_ble_eq_true rfl⟩) hK hP [2, 3, 4, 5, 6, 7] rfl rfl rfl rfl rfl hl.1 (Nat.le_of_ble_eq_true rfl) ⟨Nat.zero_le _, Nat.zero_le _⟩ dX1_turnTo_13 ?_
  refine va_put (D := (dC, dI)) (ci := 1) (v := .int r_1) (ty := .int) (C := RX1) (T := TX1) (N := 6) hx hb hts w_1 tyX1 tyX1_ok nmX1 hown hK hP hD hS 0 rfl rfl 3 (by decide) w_3 (fun _ h9 => h9) rfl (by decide +kernel) rfl rfl (Nat.le_of_ble_eq_true rfl) dX1_turnTo_16 (fun H locs hP hD hS => ?_)
  have hP : va_P (dC, dI) vwCl ((W_Asks cI cZ q_s q_s_bodies s_bodies 0 v2 r_1 s_purse s_home) ++ ((W_Isle cI cZ q_o q_o_heights q_o_holders q_o_kinds q_o_purses q_o_homes o_told o_low o_high o_price o_hour o_bidders o_heights o_holders o_kinds o_purses o_homes))) H := hP
  have hD : va_D A ((W_Asks cI cZ q_s q_s_bodies s_bodies 0 v2 r_1 s_purse s_home) ++ ((W_Isle cI cZ q_o q_o_heights q_o_holders q_o_kinds q_o_purses q_o_homes o_told o_low o_high o_price o_hour o_bidders o_heights o_holders o_kinds o_purses o_homes))) := hD
  refine lv_aload_n hx hb dX1_turnTo_19 rfl (lv_at hl 0 rfl) ?_
  refine lv_aload_n hx hb dX1_turnTo_20 rfl (lv_at hl 1 rfl) ?_
  refine lv_iload_n hx hb dX1_turnTo_21 rfl (lv_at hl 2 rfl) ?_
  obtain ⟨r_2, hc_2, h⟩ := bd1_of h
  refine cl_rV (As := [.int v2]) (rest := [.ref q_s]) ⟨hx, hb, hml, hown, hts⟩ (m_X3_purse l dC dI cI cZ q_o q_o_heights q_o_holders q_o_kinds q_o_purses q_o_homes o_told o_low o_high o_price o_hour o_bidders o_heights o_holders o_kinds o_purses o_homes v2 (r_2) hc_2) (cwV 1 hts gX1_turnTo_X3_purse rfl rfl rfl ⟨rfl, ddX3_purse⟩ ⟨Nat.le_of_ble_eq_true rfl, Nat.le_of_ble_eq_true rfl⟩) hK hP [2, 3, 4, 5, 6, 7] rfl rfl rfl rfl rfl hl.1 (Nat.le_of_ble_eq_true rfl) ⟨Nat.zero_le _, Nat.zero_le _⟩ dX1_turnTo_22 ?_
  refine va_put (D := (dC, dI)) (ci := 1) (v := .int r_2) (ty := .int) (C := RX1) (T := TX1) (N := 6) hx hb hts w_1 tyX1 tyX1_ok nmX1 hown hK hP hD hS 0 rfl rfl 4 (by decide) w_4 (fun _ h9 => h9) rfl (by decide +kernel) rfl rfl (Nat.le_of_ble_eq_true rfl) dX1_turnTo_25 (fun H locs hP hD hS => ?_)
  have hP : va_P (dC, dI) vwCl ((W_Asks cI cZ q_s q_s_bodies s_bodies 0 v2 r_1 r_2 s_home) ++ ((W_Isle cI cZ q_o q_o_heights q_o_holders q_o_kinds q_o_purses q_o_homes o_told o_low o_high o_price o_hour o_bidders o_heights o_holders o_kinds o_purses o_homes))) H := hP
  have hD : va_D A ((W_Asks cI cZ q_s q_s_bodies s_bodies 0 v2 r_1 r_2 s_home) ++ ((W_Isle cI cZ q_o q_o_heights q_o_holders q_o_kinds q_o_purses q_o_homes o_told o_low o_high o_price o_hour o_bidders o_heights o_holders o_kinds o_purses o_homes))) := hD
  refine lv_aload_n hx hb dX1_turnTo_28 rfl (lv_at hl 0 rfl) ?_
  refine lv_aload_n hx hb dX1_turnTo_29 rfl (lv_at hl 1 rfl) ?_
  refine lv_iload_n hx hb dX1_turnTo_30 rfl (lv_at hl 2 rfl) ?_
  obtain ⟨r_3, hc_3, h⟩ := bd1_of h
  refine cl_rV (As := [.int v2]) (rest := [.ref q_s]) ⟨hx, hb, hml, hown, hts⟩ (m_X3_homeOf l dC dI cI cZ q_o q_o_heights q_o_holders q_o_kinds q_o_purses q_o_homes o_told o_low o_high o_price o_hour o_bidders o_heights o_holders o_kinds o_purses o_homes v2 (r_3) hc_3) (cwV 1 hts gX1_turnTo_X3_homeOf rfl rfl rfl ⟨rfl, ddX3_homeOf⟩ ⟨Nat.le_of_ble_eq_true rfl, Nat.le_of_ble_eq_true rfl⟩) hK hP [2, 3, 4, 5, 6, 7] rfl rfl rfl rfl rfl hl.1 (Nat.le_of_ble_eq_true rfl) ⟨Nat.zero_le _, Nat.zero_le _⟩ dX1_turnTo_31 ?_
  refine va_put (D := (dC, dI)) (ci := 1) (v := .int r_3) (ty := .int) (C := RX1) (T := TX1) (N := 6) hx hb hts w_1 tyX1 tyX1_ok nmX1 hown hK hP hD hS 0 rfl rfl 5 (by decide) w_5 (fun _ h9 => h9) rfl (by decide +kernel) rfl rfl (Nat.le_of_ble_eq_true rfl) dX1_turnTo_34 (fun H locs hP hD hS => ?_)
  have hP : va_P (dC, dI) vwCl ((W_Asks cI cZ q_s q_s_bodies s_bodies 0 v2 r_1 r_2 r_3) ++ ((W_Isle cI cZ q_o q_o_heights q_o_holders q_o_kinds q_o_purses q_o_homes o_told o_low o_high o_price o_hour o_bidders o_heights o_holders o_kinds o_purses o_homes))) H := hP
  have hD : va_D A ((W_Asks cI cZ q_s q_s_bodies s_bodies 0 v2 r_1 r_2 r_3) ++ ((W_Isle cI cZ q_o q_o_heights q_o_holders q_o_kinds q_o_purses q_o_homes o_told o_low o_high o_price o_hour o_bidders o_heights o_holders o_kinds o_purses o_homes))) := hD
  have h := Option.some.inj h
  subst h
  rw [hQQ]
  subst hAe
  exact W.vret hx hb hr (fun t ht hW => ⟨⟨(), rfl, trivial, by rw [ht]; exact hP, va_K.moved hW.alike hK, hD⟩, hS.F ht⟩) hS.2.2 dX1_turnTo_37
def fX1_begin (s_bodies : (Nat → Int32)) (s_traced : Int32) (v1 : Int32) : Option ((Nat → Int32) × Int32) :=
  (if 16 ≤ s_traced then some (s_bodies, s_traced) else chk (¬ (s_traced < 0 ∨ 16 ≤ s_traced.toNatClampNeg)) (some ((upd s_bodies s_traced.toNatClampNeg v1), (s_traced + 1))))
abbrev rmX1_begin : Room := { frames := 0, cells := 0, slots := 0, locals := 0 }
theorem ddX1_begin : yX1_begin.cls ≠ "java/lang/invoke/MethodHandle" ∧ yX1_begin.cls ≠ "java/lang/invoke/VarHandle" ∧ (parseMethodDescriptor yX1_begin.desc).map (fun d => d.parameters.length) = some 1 := by decide +kernel
set_option maxHeartbeats 4000000 in
set_option maxRecDepth 100000 in
theorem m_X1_begin (l : Launch) (dC : Nat → ClassId) (dI : Nat → Nat → Nat) (cI cZ : ClassId) (q_s q_s_bodies : Nat) (s_bodies : (Nat → Int32)) (s_traced : Int32) (s_number : Int32) (s_kind : Int32) (s_purse : Int32) (s_home : Int32) (v1 : Int32) (sz : Nat) (res : (Nat → Int32) × Int32) (hf : fX1_begin s_bodies s_traced v1 = some res) : Met l yX1_begin wsX1_begin rmX1_begin (mtPc (dC, dI) (tyZ cI cZ) ((W_Asks cI cZ q_s q_s_bodies s_bodies s_traced s_number s_kind s_purse s_home)) [.ref q_s, .int v1] sz) (mtQv (dC, dI) (tyZ cI cZ) ((W_Asks cI cZ q_s q_s_bodies s_bodies s_traced s_number s_kind s_purse s_home)) ((W_Asks cI cZ q_s q_s_bodies res.1 res.2 s_number s_kind s_purse s_home)) sz) 0 0 (va_A ((W_Asks cI cZ q_s q_s_bodies s_bodies s_traced s_number s_kind s_purse s_home)) sz) := by
  refine Met.ofW (cc := cX1_begin) (maxL := 2) (ret := none) (by decide) rfl ?_
  intro p e s m args below meth c s₁ B hml hv
  obtain ⟨rfl, hsz, hP, hK, hD0⟩ := hv
  have hx := B.exec
  have hb := B.bytes
  have hr := B.returns
  have hts := atoms_spec (ws := wsX1_begin) B.pre
  have hown : s.vm.findClass RX1 = some m.cls := findClass_of_methodNamed B.named
  have hlocks := B.notSynchronized
  subst hsz
  have hD := hD0.self (sz := s.heap.size)
  obtain ⟨A, hAe⟩ : ∃ A, A = va_A ((W_Asks cI cZ q_s q_s_bodies s_bodies s_traced s_number s_kind s_purse s_home)) s.heap.size := ⟨_, rfl⟩
  rw [← hAe] at hD
  have hA : ∀ q : Nat, s.heap.size ≤ q → A q := fun q h => by rw [hAe]; exact Or.inr h
  have hS : va_S A s.heap s.heap [] := va_S.rf
  have hl := lv_entry ([.ref q_s, .int v1]) (n := 2) (Nat.le_of_ble_eq_true rfl)
  rw [lg_entry_eq]
  generalize (lg_sl ([.ref q_s, .int v1]) ++ List.replicate (2 - (lg_sl ([.ref q_s, .int v1])).length) Slot.unset).toArray = ls at hl ⊢
  have hl : lv_has ls 2 [(0, .ref q_s), (1, .int v1)] := hl
  obtain ⟨QQ, hQQ⟩ : ∃ Q, Q = MQ below (mtQv (dC, dI) (tyZ cI cZ) ((W_Asks cI cZ q_s q_s_bodies s_bodies s_traced s_number s_kind s_purse s_home)) ((W_Asks cI cZ q_s q_s_bodies res.1 res.2 s_number s_kind s_purse s_home)) s.heap.size) ([.ref q_s, .int v1] : List Value).toArray s 0 0 (va_A ((W_Asks cI cZ q_s q_s_bodies s_bodies s_traced s_number s_kind s_purse s_home)) s.heap.size) := ⟨_, rfl⟩
  rw [← hQQ]
  have w_0 := hts (Cond.fieldLink RX1 13 "TideInches$Asks" "traced" "I") (List.mem_of_getElem? (i := 1) rfl)
  have w_1 := (fun w hw => List.mem_cons_of_mem _ (List.mem_append_right _ hw) : ∀ w ∈ wsX10, w ∈ wsX1_begin)
  have w_2 := hts (Cond.fieldLink RX1 9 "TideInches$Asks" "bodies" "[I") (List.mem_of_getElem? (i := 2) rfl)
  have h := hf
  unfold fX1_begin at h
  refine lv_aload_n hx hb dX1_begin_0 rfl (lv_at hl 0 rfl) ?_
  refine va_get (D := (dC, dI)) (ci := 1) (v := .int s_traced) (C := RX1) (T := TX1) (N := 6) hx hb hts w_1 hown hK hP 0 rfl rfl 1 (by decide) w_0 (fun _ h9 => h9) rfl dX1_begin_1 ?_
  refine lv_bipush (v := 16) hx hb dX1_begin_4 (by decide) ?_
  refine lv_icmp_ge (tgt := 29) hx hb dX1_begin_6 (by decide) (fun c_1 => ?_) (fun c_1 => ?_)
  · have h := (if_pos c_1).symm.trans h
    have h := Option.some.inj h
    subst h
    rw [hQQ]
    subst hAe
    exact W.vret hx hb hr (fun t ht hW => ⟨⟨(), rfl, trivial, by rw [ht]; exact hP, va_K.moved hW.alike hK, hD⟩, hS.F ht⟩) hS.2.2 dX1_begin_29
  · have h := (if_neg c_1).symm.trans h
    refine lv_aload_n hx hb dX1_begin_9 rfl (lv_at hl 0 rfl) ?_
    refine va_get (D := (dC, dI)) (ci := 1) (v := .ref q_s_bodies) (C := RX1) (T := TX1) (N := 6) hx hb hts w_1 hown hK hP 0 rfl rfl 0 (by decide) w_2 (fun _ h9 => h9) rfl dX1_begin_10 ?_
    refine lv_aload_n hx hb dX1_begin_13 rfl (lv_at hl 0 rfl) ?_
    refine va_get (D := (dC, dI)) (ci := 1) (v := .int s_traced) (C := RX1) (T := TX1) (N := 6) hx hb hts w_1 hown hK hP 0 rfl rfl 1 (by decide) w_0 (fun _ h9 => h9) rfl dX1_begin_14 ?_
    refine lv_iload_n hx hb dX1_begin_17 rfl (lv_at hl 1 rfl) ?_
    obtain ⟨b_2, h⟩ := chk_of h
    refine va_iast hx hb hK hP hD hS 1 0 rfl rfl (i := s_traced) (x := v1) b_2 dX1_begin_18 (fun H locs hP hD hS => ?_)
    have hP : va_P (dC, dI) vwCl ((W_Asks cI cZ q_s q_s_bodies (upd s_bodies s_traced.toNatClampNeg v1) s_traced s_number s_kind s_purse s_home)) H := hP
    have hD : va_D A ((W_Asks cI cZ q_s q_s_bodies (upd s_bodies s_traced.toNatClampNeg v1) s_traced s_number s_kind s_purse s_home)) := hD
    refine lv_aload_n hx hb dX1_begin_19 rfl (lv_at hl 0 rfl) ?_
    refine lv_dup hx hb dX1_begin_20 rfl ?_
    refine va_get (D := (dC, dI)) (ci := 1) (v := .int s_traced) (C := RX1) (T := TX1) (N := 6) hx hb hts w_1 hown hK hP 0 rfl rfl 1 (by decide) w_0 (fun _ h9 => h9) rfl dX1_begin_21 ?_
    refine lv_iconst (v := 1) hx hb dX1_begin_24 (by decide) ?_
    refine lv_iadd hx hb dX1_begin_25 ?_
    refine va_put (D := (dC, dI)) (ci := 1) (v := .int (s_traced + 1)) (ty := .int) (C := RX1) (T := TX1) (N := 6) hx hb hts w_1 tyX1 tyX1_ok nmX1 hown hK hP hD hS 0 rfl rfl 1 (by decide) w_0 (fun _ h9 => h9) rfl (by decide +kernel) rfl rfl (Nat.le_of_ble_eq_true rfl) dX1_begin_26 (fun H locs hP hD hS => ?_)
    have hP : va_P (dC, dI) vwCl ((W_Asks cI cZ q_s q_s_bodies (upd s_bodies s_traced.toNatClampNeg v1) (s_traced + 1) s_number s_kind s_purse s_home)) H := hP
    have hD : va_D A ((W_Asks cI cZ q_s q_s_bodies (upd s_bodies s_traced.toNatClampNeg v1) (s_traced + 1) s_number s_kind s_purse s_home)) := hD
    have h := Option.some.inj h
    subst h
    rw [hQQ]
    subst hAe
    exact W.vret hx hb hr (fun t ht hW => ⟨⟨(), rfl, trivial, by rw [ht]; exact hP, va_K.moved hW.alike hK, hD⟩, hS.F ht⟩) hS.2.2 dX1_begin_29
def fX1_sizeLent (s_bodies : (Nat → Int32)) (s_traced : Int32) (s_purse : Int32) : Option (Int32 × (Nat → Int32) × Int32) :=
  bd2 (fX1_begin s_bodies s_traced 10) (fun s_bodies_1 s_traced_1 => some (s_purse, s_bodies_1, s_traced_1))
abbrev rmX1_sizeLent : Room := { frames := 1, cells := 0, slots := 0, locals := 21 }
theorem ddX1_sizeLent : yX1_sizeLent.cls ≠ "java/lang/invoke/MethodHandle" ∧ yX1_sizeLent.cls ≠ "java/lang/invoke/VarHandle" ∧ (parseMethodDescriptor yX1_sizeLent.desc).map (fun d => d.parameters.length) = some 0 := by decide +kernel
set_option maxHeartbeats 4000000 in
set_option maxRecDepth 100000 in
theorem m_X1_sizeLent (l : Launch) (dC : Nat → ClassId) (dI : Nat → Nat → Nat) (cI cZ : ClassId) (q_s q_s_bodies : Nat) (s_bodies : (Nat → Int32)) (s_traced : Int32) (s_number : Int32) (s_kind : Int32) (s_purse : Int32) (s_home : Int32) (sz : Nat) (res : Int32 × (Nat → Int32) × Int32) (hf : fX1_sizeLent s_bodies s_traced s_purse = some res) : Met l yX1_sizeLent wsX1_sizeLent rmX1_sizeLent (mtPc (dC, dI) (tyZ cI cZ) ((W_Asks cI cZ q_s q_s_bodies s_bodies s_traced s_number s_kind s_purse s_home)) [.ref q_s] sz) (mtQi (dC, dI) (tyZ cI cZ) ((W_Asks cI cZ q_s q_s_bodies s_bodies s_traced s_number s_kind s_purse s_home)) ((W_Asks cI cZ q_s q_s_bodies res.2.1 res.2.2 s_number s_kind s_purse s_home)) res.1 sz) 0 0 (va_A ((W_Asks cI cZ q_s q_s_bodies s_bodies s_traced s_number s_kind s_purse s_home)) sz) := by
  refine Met.ofW (cc := cX1_sizeLent) (maxL := 1) (ret := (some .int)) (by decide) rfl ?_
  intro p e s m args below meth c s₁ B hml hv
  obtain ⟨rfl, hsz, hP, hK, hD0⟩ := hv
  have hx := B.exec
  have hb := B.bytes
  have hr := B.returns
  have hts := atoms_spec (ws := wsX1_sizeLent) B.pre
  have hown : s.vm.findClass RX1 = some m.cls := findClass_of_methodNamed B.named
  have hlocks := B.notSynchronized
  subst hsz
  have hD := hD0.self (sz := s.heap.size)
  obtain ⟨A, hAe⟩ : ∃ A, A = va_A ((W_Asks cI cZ q_s q_s_bodies s_bodies s_traced s_number s_kind s_purse s_home)) s.heap.size := ⟨_, rfl⟩
  rw [← hAe] at hD
  have hA : ∀ q : Nat, s.heap.size ≤ q → A q := fun q h => by rw [hAe]; exact Or.inr h
  have hS : va_S A s.heap s.heap [] := va_S.rf
  have hl := lv_entry ([.ref q_s]) (n := 1) (Nat.le_of_ble_eq_true rfl)
  rw [lg_entry_eq]
  generalize (lg_sl ([.ref q_s]) ++ List.replicate (1 - (lg_sl ([.ref q_s])).length) Slot.unset).toArray = ls at hl ⊢
  have hl : lv_has ls 1 [(0, .ref q_s)] := hl
  obtain ⟨QQ, hQQ⟩ : ∃ Q, Q = MQ below (mtQi (dC, dI) (tyZ cI cZ) ((W_Asks cI cZ q_s q_s_bodies s_bodies s_traced s_number s_kind s_purse s_home)) ((W_Asks cI cZ q_s q_s_bodies res.2.1 res.2.2 s_number s_kind s_purse s_home)) res.1 s.heap.size) ([.ref q_s] : List Value).toArray s 0 0 (va_A ((W_Asks cI cZ q_s q_s_bodies s_bodies s_traced s_number s_kind s_purse s_home)) s.heap.size) := ⟨_, rfl⟩
  rw [← hQQ]
  have w_0 := hts (Cond.fieldLink RX1 32 "TideInches$Asks" "purse" "I") (List.mem_of_getElem? (i := 1) rfl)
  have w_1 := (fun w hw => List.mem_cons_of_mem _ (List.mem_append_right _ hw) : ∀ w ∈ wsX10, w ∈ wsX1_sizeLent)
  have h := hf
  unfold fX1_sizeLent at h
  refine lv_aload_n hx hb dX1_sizeLent_0 rfl (lv_at hl 0 rfl) ?_
  refine lv_bipush (v := 10) hx hb dX1_sizeLent_1 (by decide) ?_
  obtain ⟨s_bodies_1, s_traced_1, hc_1, h⟩ := bd2_of h
  refine cl_mVv (As := [.int 10]) (rest := []) (ws' := (W_Asks cI cZ q_s q_s_bodies s_bodies_1 s_traced_1 s_number s_kind s_purse s_home)) (wr := []) ⟨hx, hb, hml, hown, hts⟩ (m_X1_begin l dC dI cI cZ q_s q_s_bodies s_bodies s_traced s_number s_kind s_purse s_home 10 _ (s_bodies_1, s_traced_1) hc_1) (cwV 1 hts gX1_sizeLent_X1_begin rfl rfl rfl ⟨rfl, ddX1_begin⟩ ⟨Nat.le_of_ble_eq_true rfl, Nat.le_of_ble_eq_true rfl⟩) hK hP hD hS hA [0, 1] [] rfl rfl rfl rfl (by decide) [0, 1] rfl rfl rfl rfl rfl rfl rfl hl.1 (Nat.le_of_ble_eq_true rfl) ⟨Nat.zero_le _, Nat.zero_le _⟩ dX1_sizeLent_3 (fun H locs hP hD hS => ?_)
  refine lv_aload_n hx hb dX1_sizeLent_6 rfl (lv_at hl 0 rfl) ?_
  refine va_get (D := (dC, dI)) (ci := 1) (v := .int s_purse) (C := RX1) (T := TX1) (N := 6) hx hb hts w_1 hown hK hP 0 rfl rfl 4 (by decide) w_0 (fun _ h9 => h9) rfl dX1_sizeLent_7 ?_
  have h := Option.some.inj h
  subst h
  rw [hQQ]
  subst hAe
  exact W.iret (v := s_purse) hx hb hr (fun t ht hW => ⟨⟨_, (), rfl, rfl, by rw [ht]; exact hP, va_K.moved hW.alike hK, hD⟩, hS.F ht⟩) hS.2.2 dX1_sizeLent_10
def fX1_markLent (s_bodies : (Nat → Int32)) (s_traced : Int32) (s_number : Int32) : Option (Int32 × (Nat → Int32) × Int32) :=
  bd2 (fX1_begin s_bodies s_traced 20) (fun s_bodies_1 s_traced_1 => some (s_number, s_bodies_1, s_traced_1))
abbrev rmX1_markLent : Room := { frames := 1, cells := 0, slots := 0, locals := 21 }
theorem ddX1_markLent : yX1_markLent.cls ≠ "java/lang/invoke/MethodHandle" ∧ yX1_markLent.cls ≠ "java/lang/invoke/VarHandle" ∧ (parseMethodDescriptor yX1_markLent.desc).map (fun d => d.parameters.length) = some 0 := by decide +kernel
set_option maxHeartbeats 4000000 in
set_option maxRecDepth 100000 in
theorem m_X1_markLent (l : Launch) (dC : Nat → ClassId) (dI : Nat → Nat → Nat) (cI cZ : ClassId) (q_s q_s_bodies : Nat) (s_bodies : (Nat → Int32)) (s_traced : Int32) (s_number : Int32) (s_kind : Int32) (s_purse : Int32) (s_home : Int32) (sz : Nat) (res : Int32 × (Nat → Int32) × Int32) (hf : fX1_markLent s_bodies s_traced s_number = some res) : Met l yX1_markLent wsX1_markLent rmX1_markLent (mtPc (dC, dI) (tyZ cI cZ) ((W_Asks cI cZ q_s q_s_bodies s_bodies s_traced s_number s_kind s_purse s_home)) [.ref q_s] sz) (mtQi (dC, dI) (tyZ cI cZ) ((W_Asks cI cZ q_s q_s_bodies s_bodies s_traced s_number s_kind s_purse s_home)) ((W_Asks cI cZ q_s q_s_bodies res.2.1 res.2.2 s_number s_kind s_purse s_home)) res.1 sz) 0 0 (va_A ((W_Asks cI cZ q_s q_s_bodies s_bodies s_traced s_number s_kind s_purse s_home)) sz) := by
  refine Met.ofW (cc := cX1_markLent) (maxL := 1) (ret := (some .int)) (by decide) rfl ?_
  intro p e s m args below meth c s₁ B hml hv
  obtain ⟨rfl, hsz, hP, hK, hD0⟩ := hv
  have hx := B.exec
  have hb := B.bytes
  have hr := B.returns
  have hts := atoms_spec (ws := wsX1_markLent) B.pre
  have hown : s.vm.findClass RX1 = some m.cls := findClass_of_methodNamed B.named
  have hlocks := B.notSynchronized
  subst hsz
  have hD := hD0.self (sz := s.heap.size)
  obtain ⟨A, hAe⟩ : ∃ A, A = va_A ((W_Asks cI cZ q_s q_s_bodies s_bodies s_traced s_number s_kind s_purse s_home)) s.heap.size := ⟨_, rfl⟩
  rw [← hAe] at hD
  have hA : ∀ q : Nat, s.heap.size ≤ q → A q := fun q h => by rw [hAe]; exact Or.inr h
  have hS : va_S A s.heap s.heap [] := va_S.rf
  have hl := lv_entry ([.ref q_s]) (n := 1) (Nat.le_of_ble_eq_true rfl)
  rw [lg_entry_eq]
  generalize (lg_sl ([.ref q_s]) ++ List.replicate (1 - (lg_sl ([.ref q_s])).length) Slot.unset).toArray = ls at hl ⊢
  have hl : lv_has ls 1 [(0, .ref q_s)] := hl
  obtain ⟨QQ, hQQ⟩ : ∃ Q, Q = MQ below (mtQi (dC, dI) (tyZ cI cZ) ((W_Asks cI cZ q_s q_s_bodies s_bodies s_traced s_number s_kind s_purse s_home)) ((W_Asks cI cZ q_s q_s_bodies res.2.1 res.2.2 s_number s_kind s_purse s_home)) res.1 s.heap.size) ([.ref q_s] : List Value).toArray s 0 0 (va_A ((W_Asks cI cZ q_s q_s_bodies s_bodies s_traced s_number s_kind s_purse s_home)) s.heap.size) := ⟨_, rfl⟩
  rw [← hQQ]
  have w_0 := hts (Cond.fieldLink RX1 17 "TideInches$Asks" "number" "I") (List.mem_of_getElem? (i := 1) rfl)
  have w_1 := (fun w hw => List.mem_cons_of_mem _ (List.mem_append_right _ hw) : ∀ w ∈ wsX10, w ∈ wsX1_markLent)
  have h := hf
  unfold fX1_markLent at h
  refine lv_aload_n hx hb dX1_markLent_0 rfl (lv_at hl 0 rfl) ?_
  refine lv_bipush (v := 20) hx hb dX1_markLent_1 (by decide) ?_
  obtain ⟨s_bodies_1, s_traced_1, hc_1, h⟩ := bd2_of h
  refine cl_mVv (As := [.int 20]) (rest := []) (ws' := (W_Asks cI cZ q_s q_s_bodies s_bodies_1 s_traced_1 s_number s_kind s_purse s_home)) (wr := []) ⟨hx, hb, hml, hown, hts⟩ (m_X1_begin l dC dI cI cZ q_s q_s_bodies s_bodies s_traced s_number s_kind s_purse s_home 20 _ (s_bodies_1, s_traced_1) hc_1) (cwV 1 hts gX1_markLent_X1_begin rfl rfl rfl ⟨rfl, ddX1_begin⟩ ⟨Nat.le_of_ble_eq_true rfl, Nat.le_of_ble_eq_true rfl⟩) hK hP hD hS hA [0, 1] [] rfl rfl rfl rfl (by decide) [0, 1] rfl rfl rfl rfl rfl rfl rfl hl.1 (Nat.le_of_ble_eq_true rfl) ⟨Nat.zero_le _, Nat.zero_le _⟩ dX1_markLent_3 (fun H locs hP hD hS => ?_)
  refine lv_aload_n hx hb dX1_markLent_6 rfl (lv_at hl 0 rfl) ?_
  refine va_get (D := (dC, dI)) (ci := 1) (v := .int s_number) (C := RX1) (T := TX1) (N := 6) hx hb hts w_1 hown hK hP 0 rfl rfl 2 (by decide) w_0 (fun _ h9 => h9) rfl dX1_markLent_7 ?_
  have h := Option.some.inj h
  subst h
  rw [hQQ]
  subst hAe
  exact W.iret (v := s_number) hx hb hr (fun t ht hW => ⟨⟨_, (), rfl, rfl, by rw [ht]; exact hP, va_K.moved hW.alike hK, hD⟩, hS.F ht⟩) hS.2.2 dX1_markLent_10
def fX1_markOfBuyers (s_bodies : (Nat → Int32)) (s_traced : Int32) (s_number : Int32) (s_home : Int32) : Option (Int32 × (Nat → Int32) × Int32) :=
  bd2 (fX1_begin s_bodies s_traced 21) (fun s_bodies_1 s_traced_1 => bd3 (fX1_markLent s_bodies_1 s_traced_1 s_number) (fun r_2 s_bodies_2 s_traced_2 => some ((r_2 + s_home), s_bodies_2, s_traced_2)))
abbrev rmX1_markOfBuyers : Room := { frames := 2, cells := 0, slots := 0, locals := 41 }
theorem ddX1_markOfBuyers : yX1_markOfBuyers.cls ≠ "java/lang/invoke/MethodHandle" ∧ yX1_markOfBuyers.cls ≠ "java/lang/invoke/VarHandle" ∧ (parseMethodDescriptor yX1_markOfBuyers.desc).map (fun d => d.parameters.length) = some 0 := by decide +kernel
set_option maxHeartbeats 4000000 in
set_option maxRecDepth 100000 in
theorem m_X1_markOfBuyers (l : Launch) (dC : Nat → ClassId) (dI : Nat → Nat → Nat) (cI cZ : ClassId) (q_s q_s_bodies : Nat) (s_bodies : (Nat → Int32)) (s_traced : Int32) (s_number : Int32) (s_kind : Int32) (s_purse : Int32) (s_home : Int32) (sz : Nat) (res : Int32 × (Nat → Int32) × Int32) (hf : fX1_markOfBuyers s_bodies s_traced s_number s_home = some res) : Met l yX1_markOfBuyers wsX1_markOfBuyers rmX1_markOfBuyers (mtPc (dC, dI) (tyZ cI cZ) ((W_Asks cI cZ q_s q_s_bodies s_bodies s_traced s_number s_kind s_purse s_home)) [.ref q_s] sz) (mtQi (dC, dI) (tyZ cI cZ) ((W_Asks cI cZ q_s q_s_bodies s_bodies s_traced s_number s_kind s_purse s_home)) ((W_Asks cI cZ q_s q_s_bodies res.2.1 res.2.2 s_number s_kind s_purse s_home)) res.1 sz) 0 0 (va_A ((W_Asks cI cZ q_s q_s_bodies s_bodies s_traced s_number s_kind s_purse s_home)) sz) := by
  refine Met.ofW (cc := cX1_markOfBuyers) (maxL := 1) (ret := (some .int)) (by decide) rfl ?_
  intro p e s m args below meth c s₁ B hml hv
  obtain ⟨rfl, hsz, hP, hK, hD0⟩ := hv
  have hx := B.exec
  have hb := B.bytes
  have hr := B.returns
  have hts := atoms_spec (ws := wsX1_markOfBuyers) B.pre
  have hown : s.vm.findClass RX1 = some m.cls := findClass_of_methodNamed B.named
  have hlocks := B.notSynchronized
  subst hsz
  have hD := hD0.self (sz := s.heap.size)
  obtain ⟨A, hAe⟩ : ∃ A, A = va_A ((W_Asks cI cZ q_s q_s_bodies s_bodies s_traced s_number s_kind s_purse s_home)) s.heap.size := ⟨_, rfl⟩
  rw [← hAe] at hD
  have hA : ∀ q : Nat, s.heap.size ≤ q → A q := fun q h => by rw [hAe]; exact Or.inr h
  have hS : va_S A s.heap s.heap [] := va_S.rf
  have hl := lv_entry ([.ref q_s]) (n := 1) (Nat.le_of_ble_eq_true rfl)
  rw [lg_entry_eq]
  generalize (lg_sl ([.ref q_s]) ++ List.replicate (1 - (lg_sl ([.ref q_s])).length) Slot.unset).toArray = ls at hl ⊢
  have hl : lv_has ls 1 [(0, .ref q_s)] := hl
  obtain ⟨QQ, hQQ⟩ : ∃ Q, Q = MQ below (mtQi (dC, dI) (tyZ cI cZ) ((W_Asks cI cZ q_s q_s_bodies s_bodies s_traced s_number s_kind s_purse s_home)) ((W_Asks cI cZ q_s q_s_bodies res.2.1 res.2.2 s_number s_kind s_purse s_home)) res.1 s.heap.size) ([.ref q_s] : List Value).toArray s 0 0 (va_A ((W_Asks cI cZ q_s q_s_bodies s_bodies s_traced s_number s_kind s_purse s_home)) s.heap.size) := ⟨_, rfl⟩
  rw [← hQQ]
  have w_0 := hts (Cond.fieldLink RX1 37 "TideInches$Asks" "home" "I") (List.mem_of_getElem? (i := 1) rfl)
  have w_1 := (fun w hw => List.mem_cons_of_mem _ (List.mem_append_right _ hw) : ∀ w ∈ wsX10, w ∈ wsX1_markOfBuyers)
  have h := hf
  unfold fX1_markOfBuyers at h
  refine lv_aload_n hx hb dX1_markOfBuyers_0 rfl (lv_at hl 0 rfl) ?_
  refine lv_bipush (v := 21) hx hb dX1_markOfBuyers_1 (by decide) ?_
  obtain ⟨s_bodies_1, s_traced_1, hc_1, h⟩ := bd2_of h
  refine cl_mVv (As := [.int 21]) (rest := []) (ws' := (W_Asks cI cZ q_s q_s_bodies s_bodies_1 s_traced_1 s_number s_kind s_purse s_home)) (wr := []) ⟨hx, hb, hml, hown, hts⟩ (m_X1_begin l dC dI cI cZ q_s q_s_bodies s_bodies s_traced s_number s_kind s_purse s_home 21 _ (s_bodies_1, s_traced_1) hc_1) (cwV 1 hts gX1_markOfBuyers_X1_begin rfl rfl rfl ⟨rfl, ddX1_begin⟩ ⟨Nat.le_of_ble_eq_true rfl, Nat.le_of_ble_eq_true rfl⟩) hK hP hD hS hA [0, 1] [] rfl rfl rfl rfl (by decide) [0, 1] rfl rfl rfl rfl rfl rfl rfl hl.1 (Nat.le_of_ble_eq_true rfl) ⟨Nat.zero_le _, Nat.zero_le _⟩ dX1_markOfBuyers_3 (fun H locs hP hD hS => ?_)
  refine lv_aload_n hx hb dX1_markOfBuyers_6 rfl (lv_at hl 0 rfl) ?_
  obtain ⟨r_2, s_bodies_2, s_traced_2, hc_2, h⟩ := bd3_of h
  refine cl_mVi (As := []) (rest := []) (ws' := (W_Asks cI cZ q_s q_s_bodies s_bodies_2 s_traced_2 s_number s_kind s_purse s_home)) (wr := []) ⟨hx, hb, hml, hown, hts⟩ (m_X1_markLent l dC dI cI cZ q_s q_s_bodies s_bodies_1 s_traced_1 s_number s_kind s_purse s_home _ (r_2, s_bodies_2, s_traced_2) hc_2) (cwV 0 hts gX1_markOfBuyers_X1_markLent rfl rfl rfl ⟨rfl, ddX1_markLent⟩ ⟨Nat.le_of_ble_eq_true rfl, Nat.le_of_ble_eq_true rfl⟩) hK hP hD hS hA [0, 1] [] rfl rfl rfl rfl (by decide) [0, 1] rfl rfl rfl rfl rfl rfl rfl hl.1 (Nat.le_of_ble_eq_true rfl) ⟨Nat.zero_le _, Nat.zero_le _⟩ dX1_markOfBuyers_7 (fun H locs hP hD hS => ?_)
  refine lv_aload_n hx hb dX1_markOfBuyers_10 rfl (lv_at hl 0 rfl) ?_
  refine va_get (D := (dC, dI)) (ci := 1) (v := .int s_home) (C := RX1) (T := TX1) (N := 6) hx hb hts w_1 hown hK hP 0 rfl rfl 5 (by decide) w_0 (fun _ h9 => h9) rfl dX1_markOfBuyers_11 ?_
  refine lv_iadd hx hb dX1_markOfBuyers_14 ?_
  have h := Option.some.inj h
  subst h
  rw [hQQ]
  subst hAe
  exact W.iret (v := (r_2 + s_home)) hx hb hr (fun t ht hW => ⟨⟨_, (), rfl, rfl, by rw [ht]; exact hP, va_K.moved hW.alike hK, hD⟩, hS.F ht⟩) hS.2.2 dX1_markOfBuyers_15
def fX1_markAskedOfBuyers (s_bodies : (Nat → Int32)) (s_traced : Int32) (s_number : Int32) (s_kind : Int32) (s_home : Int32) : Option (Int32 × (Nat → Int32) × Int32) :=
  (if s_kind = 2 then bd2 (fX1_begin s_bodies s_traced 24) (fun s_bodies_2 s_traced_2 => bd3 (fX1_markOfBuyers s_bodies_2 s_traced_2 s_number s_home) (fun r_3 s_bodies_3 s_traced_3 => some ((2 * r_3), s_bodies_3, s_traced_3))) else (if s_kind = 3 then bd2 (fX1_begin s_bodies s_traced 22) (fun s_bodies_5 s_traced_5 => bd3 (fX1_markOfBuyers s_bodies_5 s_traced_5 s_number s_home) (fun r_6 s_bodies_6 s_traced_6 => some ((r_6 - 1000), s_bodies_6, s_traced_6))) else bd3 (fX1_markOfBuyers s_bodies s_traced s_number s_home) (fun r_7 s_bodies_7 s_traced_7 => some (r_7, s_bodies_7, s_traced_7))))
abbrev rmX1_markAskedOfBuyers : Room := { frames := 3, cells := 0, slots := 0, locals := 61 }
theorem ddX1_markAskedOfBuyers : yX1_markAskedOfBuyers.cls ≠ "java/lang/invoke/MethodHandle" ∧ yX1_markAskedOfBuyers.cls ≠ "java/lang/invoke/VarHandle" ∧ (parseMethodDescriptor yX1_markAskedOfBuyers.desc).map (fun d => d.parameters.length) = some 0 := by decide +kernel
set_option maxHeartbeats 4000000 in
set_option maxRecDepth 100000 in
theorem m_X1_markAskedOfBuyers (l : Launch) (dC : Nat → ClassId) (dI : Nat → Nat → Nat) (cI cZ : ClassId) (q_s q_s_bodies : Nat) (s_bodies : (Nat → Int32)) (s_traced : Int32) (s_number : Int32) (s_kind : Int32) (s_purse : Int32) (s_home : Int32) (sz : Nat) (res : Int32 × (Nat → Int32) × Int32) (hf : fX1_markAskedOfBuyers s_bodies s_traced s_number s_kind s_home = some res) : Met l yX1_markAskedOfBuyers wsX1_markAskedOfBuyers rmX1_markAskedOfBuyers (mtPc (dC, dI) (tyZ cI cZ) ((W_Asks cI cZ q_s q_s_bodies s_bodies s_traced s_number s_kind s_purse s_home)) [.ref q_s] sz) (mtQi (dC, dI) (tyZ cI cZ) ((W_Asks cI cZ q_s q_s_bodies s_bodies s_traced s_number s_kind s_purse s_home)) ((W_Asks cI cZ q_s q_s_bodies res.2.1 res.2.2 s_number s_kind s_purse s_home)) res.1 sz) 0 0 (va_A ((W_Asks cI cZ q_s q_s_bodies s_bodies s_traced s_number s_kind s_purse s_home)) sz) := by
  refine Met.ofW (cc := cX1_markAskedOfBuyers) (maxL := 1) (ret := (some .int)) (by decide) rfl ?_
  intro p e s m args below meth c s₁ B hml hv
  obtain ⟨rfl, hsz, hP, hK, hD0⟩ := hv
  have hx := B.exec
  have hb := B.bytes
  have hr := B.returns
  have hts := atoms_spec (ws := wsX1_markAskedOfBuyers) B.pre
  have hown : s.vm.findClass RX1 = some m.cls := findClass_of_methodNamed B.named
  have hlocks := B.notSynchronized
  subst hsz
  have hD := hD0.self (sz := s.heap.size)
  obtain ⟨A, hAe⟩ : ∃ A, A = va_A ((W_Asks cI cZ q_s q_s_bodies s_bodies s_traced s_number s_kind s_purse s_home)) s.heap.size := ⟨_, rfl⟩
  rw [← hAe] at hD
  have hA : ∀ q : Nat, s.heap.size ≤ q → A q := fun q h => by rw [hAe]; exact Or.inr h
  have hS : va_S A s.heap s.heap [] := va_S.rf
  have hl := lv_entry ([.ref q_s]) (n := 1) (Nat.le_of_ble_eq_true rfl)
  rw [lg_entry_eq]
  generalize (lg_sl ([.ref q_s]) ++ List.replicate (1 - (lg_sl ([.ref q_s])).length) Slot.unset).toArray = ls at hl ⊢
  have hl : lv_has ls 1 [(0, .ref q_s)] := hl
  obtain ⟨QQ, hQQ⟩ : ∃ Q, Q = MQ below (mtQi (dC, dI) (tyZ cI cZ) ((W_Asks cI cZ q_s q_s_bodies s_bodies s_traced s_number s_kind s_purse s_home)) ((W_Asks cI cZ q_s q_s_bodies res.2.1 res.2.2 s_number s_kind s_purse s_home)) res.1 s.heap.size) ([.ref q_s] : List Value).toArray s 0 0 (va_A ((W_Asks cI cZ q_s q_s_bodies s_bodies s_traced s_number s_kind s_purse s_home)) s.heap.size) := ⟨_, rfl⟩
  rw [← hQQ]
  have w_0 := hts (Cond.fieldLink RX1 26 "TideInches$Asks" "kind" "I") (List.mem_of_getElem? (i := 1) rfl)
  have w_1 := (fun w hw => List.mem_cons_of_mem _ (List.mem_append_right _ hw) : ∀ w ∈ wsX10, w ∈ wsX1_markAskedOfBuyers)
  have h := hf
  unfold fX1_markAskedOfBuyers at h
  refine lv_aload_n hx hb dX1_markAskedOfBuyers_0 rfl (lv_at hl 0 rfl) ?_
  refine va_get (D := (dC, dI)) (ci := 1) (v := .int s_kind) (C := RX1) (T := TX1) (N := 6) hx hb hts w_1 hown hK hP 0 rfl rfl 3 (by decide) w_0 (fun _ h9 => h9) rfl dX1_markAskedOfBuyers_1 ?_
  by_cases c_1 : s_kind = 2
  · have h := (if_pos c_1).symm.trans h
    refine lv_lookup (tgt := 32) hx hb dX1_markAskedOfBuyers_4 rfl (by rw [c_1] <;> rfl) (by decide) ?_
    refine lv_aload_n hx hb dX1_markAskedOfBuyers_32 rfl (lv_at hl 0 rfl) ?_
    refine lv_bipush (v := 24) hx hb dX1_markAskedOfBuyers_33 (by decide) ?_
    obtain ⟨s_bodies_2, s_traced_2, hc_2, h⟩ := bd2_of h
    refine cl_mVv (As := [.int 24]) (rest := []) (ws' := (W_Asks cI cZ q_s q_s_bodies s_bodies_2 s_traced_2 s_number s_kind s_purse s_home)) (wr := []) ⟨hx, hb, hml, hown, hts⟩ (m_X1_begin l dC dI cI cZ q_s q_s_bodies s_bodies s_traced s_number s_kind s_purse s_home 24 _ (s_bodies_2, s_traced_2) hc_2) (cwV 1 hts gX1_markAskedOfBuyers_X1_begin rfl rfl rfl ⟨rfl, ddX1_begin⟩ ⟨Nat.le_of_ble_eq_true rfl, Nat.le_of_ble_eq_true rfl⟩) hK hP hD hS hA [0, 1] [] rfl rfl rfl rfl (by decide) [0, 1] rfl rfl rfl rfl rfl rfl rfl hl.1 (Nat.le_of_ble_eq_true rfl) ⟨Nat.zero_le _, Nat.zero_le _⟩ dX1_markAskedOfBuyers_35 (fun H locs hP hD hS => ?_)
    refine lv_iconst (v := 2) hx hb dX1_markAskedOfBuyers_38 (by decide) ?_
    refine lv_aload_n hx hb dX1_markAskedOfBuyers_39 rfl (lv_at hl 0 rfl) ?_
    obtain ⟨r_3, s_bodies_3, s_traced_3, hc_3, h⟩ := bd3_of h
    refine cl_mVi (As := []) (rest := [.int 2]) (ws' := (W_Asks cI cZ q_s q_s_bodies s_bodies_3 s_traced_3 s_number s_kind s_purse s_home)) (wr := []) ⟨hx, hb, hml, hown, hts⟩ (m_X1_markOfBuyers l dC dI cI cZ q_s q_s_bodies s_bodies_2 s_traced_2 s_number s_kind s_purse s_home _ (r_3, s_bodies_3, s_traced_3) hc_3) (cwV 0 hts gX1_markAskedOfBuyers_X1_markOfBuyers rfl rfl rfl ⟨rfl, ddX1_markOfBuyers⟩ ⟨Nat.le_of_ble_eq_true rfl, Nat.le_of_ble_eq_true rfl⟩) hK hP hD hS hA [0, 1] [] rfl rfl rfl rfl (by decide) [0, 1] rfl rfl rfl rfl rfl rfl rfl hl.1 (Nat.le_of_ble_eq_true rfl) ⟨Nat.zero_le _, Nat.zero_le _⟩ dX1_markAskedOfBuyers_40 (fun H locs hP hD hS => ?_)
    refine lv_imul hx hb dX1_markAskedOfBuyers_43 ?_
    have h := Option.some.inj h
    subst h
    rw [hQQ]
    subst hAe
    exact W.iret (v := (2 * r_3)) hx hb hr (fun t ht hW => ⟨⟨_, (), rfl, rfl, by rw [ht]; exact hP, va_K.moved hW.alike hK, hD⟩, hS.F ht⟩) hS.2.2 dX1_markAskedOfBuyers_44
  have h := (if_neg c_1).symm.trans h
  by_cases c_4 : s_kind = 3
  · have h := (if_pos c_4).symm.trans h
    refine lv_lookup (tgt := 45) hx hb dX1_markAskedOfBuyers_4 rfl (by rw [c_4] <;> rfl) (by decide) ?_
    refine lv_aload_n hx hb dX1_markAskedOfBuyers_45 rfl (lv_at hl 0 rfl) ?_
    refine lv_bipush (v := 22) hx hb dX1_markAskedOfBuyers_46 (by decide) ?_
    obtain ⟨s_bodies_5, s_traced_5, hc_5, h⟩ := bd2_of h
    refine cl_mVv (As := [.int 22]) (rest := []) (ws' := (W_Asks cI cZ q_s q_s_bodies s_bodies_5 s_traced_5 s_number s_kind s_purse s_home)) (wr := []) ⟨hx, hb, hml, hown, hts⟩ (m_X1_begin l dC dI cI cZ q_s q_s_bodies s_bodies s_traced s_number s_kind s_purse s_home 22 _ (s_bodies_5, s_traced_5) hc_5) (cwV 1 hts gX1_markAskedOfBuyers_X1_begin rfl rfl rfl ⟨rfl, ddX1_begin⟩ ⟨Nat.le_of_ble_eq_true rfl, Nat.le_of_ble_eq_true rfl⟩) hK hP hD hS hA [0, 1] [] rfl rfl rfl rfl (by decide) [0, 1] rfl rfl rfl rfl rfl rfl rfl hl.1 (Nat.le_of_ble_eq_true rfl) ⟨Nat.zero_le _, Nat.zero_le _⟩ dX1_markAskedOfBuyers_48 (fun H locs hP hD hS => ?_)
    refine lv_aload_n hx hb dX1_markAskedOfBuyers_51 rfl (lv_at hl 0 rfl) ?_
    obtain ⟨r_6, s_bodies_6, s_traced_6, hc_6, h⟩ := bd3_of h
    refine cl_mVi (As := []) (rest := []) (ws' := (W_Asks cI cZ q_s q_s_bodies s_bodies_6 s_traced_6 s_number s_kind s_purse s_home)) (wr := []) ⟨hx, hb, hml, hown, hts⟩ (m_X1_markOfBuyers l dC dI cI cZ q_s q_s_bodies s_bodies_5 s_traced_5 s_number s_kind s_purse s_home _ (r_6, s_bodies_6, s_traced_6) hc_6) (cwV 0 hts gX1_markAskedOfBuyers_X1_markOfBuyers rfl rfl rfl ⟨rfl, ddX1_markOfBuyers⟩ ⟨Nat.le_of_ble_eq_true rfl, Nat.le_of_ble_eq_true rfl⟩) hK hP hD hS hA [0, 1] [] rfl rfl rfl rfl (by decide) [0, 1] rfl rfl rfl rfl rfl rfl rfl hl.1 (Nat.le_of_ble_eq_true rfl) ⟨Nat.zero_le _, Nat.zero_le _⟩ dX1_markAskedOfBuyers_52 (fun H locs hP hD hS => ?_)
    refine lv_sipush (v := 1000) hx hb dX1_markAskedOfBuyers_55 (by decide) ?_
    refine lv_isub hx hb dX1_markAskedOfBuyers_58 ?_
    have h := Option.some.inj h
    subst h
    rw [hQQ]
    subst hAe
    exact W.iret (v := (r_6 - 1000)) hx hb hr (fun t ht hW => ⟨⟨_, (), rfl, rfl, by rw [ht]; exact hP, va_K.moved hW.alike hK, hD⟩, hS.F ht⟩) hS.2.2 dX1_markAskedOfBuyers_59
  have h := (if_neg c_4).symm.trans h
  have n_1 : (s_kind).toInt ≠ 2 := ne_tn c_1 rfl
  have n_4 : (s_kind).toInt ≠ 3 := ne_tn c_4 rfl
  refine lv_lookup (tgt := 60) (off := 56) hx hb dX1_markAskedOfBuyers_4 rfl (by simp only [Op.lookupswitch.offset]; simp [Ne.symm n_1, Ne.symm n_4]) (by decide) ?_
  refine lv_aload_n hx hb dX1_markAskedOfBuyers_60 rfl (lv_at hl 0 rfl) ?_
  obtain ⟨r_7, s_bodies_7, s_traced_7, hc_7, h⟩ := bd3_of h
  refine cl_mVi (As := []) (rest := []) (ws' := (W_Asks cI cZ q_s q_s_bodies s_bodies_7 s_traced_7 s_number s_kind s_purse s_home)) (wr := []) ⟨hx, hb, hml, hown, hts⟩ (m_X1_markOfBuyers l dC dI cI cZ q_s q_s_bodies s_bodies s_traced s_number s_kind s_purse s_home _ (r_7, s_bodies_7, s_traced_7) hc_7) (cwV 0 hts gX1_markAskedOfBuyers_X1_markOfBuyers rfl rfl rfl ⟨rfl, ddX1_markOfBuyers⟩ ⟨Nat.le_of_ble_eq_true rfl, Nat.le_of_ble_eq_true rfl⟩) hK hP hD hS hA [0, 1] [] rfl rfl rfl rfl (by decide) [0, 1] rfl rfl rfl rfl rfl rfl rfl hl.1 (Nat.le_of_ble_eq_true rfl) ⟨Nat.zero_le _, Nat.zero_le _⟩ dX1_markAskedOfBuyers_61 (fun H locs hP hD hS => ?_)
  have h := Option.some.inj h
  subst h
  rw [hQQ]
  subst hAe
  exact W.iret (v := r_7) hx hb hr (fun t ht hW => ⟨⟨_, (), rfl, rfl, by rw [ht]; exact hP, va_K.moved hW.alike hK, hD⟩, hS.F ht⟩) hS.2.2 dX1_markAskedOfBuyers_64
def fX1_sizeOfBuyers (s_bodies : (Nat → Int32)) (s_traced : Int32) (s_number : Int32) (s_kind : Int32) (s_purse : Int32) (s_home : Int32) : Option (Int32 × (Nat → Int32) × Int32) :=
  bd2 (fX1_begin s_bodies s_traced 11) (fun s_bodies_1 s_traced_1 => bd3 (fX1_sizeLent s_bodies_1 s_traced_1 s_purse) (fun r_2 s_bodies_2 s_traced_2 => bd3 (fX1_markAskedOfBuyers s_bodies_2 s_traced_2 s_number s_kind s_home) (fun r_3 s_bodies_3 s_traced_3 => some ((r_2 + r_3), s_bodies_3, s_traced_3))))
abbrev rmX1_sizeOfBuyers : Room := { frames := 4, cells := 0, slots := 0, locals := 81 }
theorem ddX1_sizeOfBuyers : yX1_sizeOfBuyers.cls ≠ "java/lang/invoke/MethodHandle" ∧ yX1_sizeOfBuyers.cls ≠ "java/lang/invoke/VarHandle" ∧ (parseMethodDescriptor yX1_sizeOfBuyers.desc).map (fun d => d.parameters.length) = some 0 := by decide +kernel
set_option maxHeartbeats 4000000 in
set_option maxRecDepth 100000 in
theorem m_X1_sizeOfBuyers (l : Launch) (dC : Nat → ClassId) (dI : Nat → Nat → Nat) (cI cZ : ClassId) (q_s q_s_bodies : Nat) (s_bodies : (Nat → Int32)) (s_traced : Int32) (s_number : Int32) (s_kind : Int32) (s_purse : Int32) (s_home : Int32) (sz : Nat) (res : Int32 × (Nat → Int32) × Int32) (hf : fX1_sizeOfBuyers s_bodies s_traced s_number s_kind s_purse s_home = some res) : Met l yX1_sizeOfBuyers wsX1_sizeOfBuyers rmX1_sizeOfBuyers (mtPc (dC, dI) (tyZ cI cZ) ((W_Asks cI cZ q_s q_s_bodies s_bodies s_traced s_number s_kind s_purse s_home)) [.ref q_s] sz) (mtQi (dC, dI) (tyZ cI cZ) ((W_Asks cI cZ q_s q_s_bodies s_bodies s_traced s_number s_kind s_purse s_home)) ((W_Asks cI cZ q_s q_s_bodies res.2.1 res.2.2 s_number s_kind s_purse s_home)) res.1 sz) 0 0 (va_A ((W_Asks cI cZ q_s q_s_bodies s_bodies s_traced s_number s_kind s_purse s_home)) sz) := by
  refine Met.ofW (cc := cX1_sizeOfBuyers) (maxL := 2) (ret := (some .int)) (by decide) rfl ?_
  intro p e s m args below meth c s₁ B hml hv
  obtain ⟨rfl, hsz, hP, hK, hD0⟩ := hv
  have hx := B.exec
  have hb := B.bytes
  have hr := B.returns
  have hts := atoms_spec (ws := wsX1_sizeOfBuyers) B.pre
  have hown : s.vm.findClass RX1 = some m.cls := findClass_of_methodNamed B.named
  have hlocks := B.notSynchronized
  subst hsz
  have hD := hD0.self (sz := s.heap.size)
  obtain ⟨A, hAe⟩ : ∃ A, A = va_A ((W_Asks cI cZ q_s q_s_bodies s_bodies s_traced s_number s_kind s_purse s_home)) s.heap.size := ⟨_, rfl⟩
  rw [← hAe] at hD
  have hA : ∀ q : Nat, s.heap.size ≤ q → A q := fun q h => by rw [hAe]; exact Or.inr h
  have hS : va_S A s.heap s.heap [] := va_S.rf
  have hl := lv_entry ([.ref q_s]) (n := 2) (Nat.le_of_ble_eq_true rfl)
  rw [lg_entry_eq]
  generalize (lg_sl ([.ref q_s]) ++ List.replicate (2 - (lg_sl ([.ref q_s])).length) Slot.unset).toArray = ls at hl ⊢
  have hl : lv_has ls 2 [(0, .ref q_s)] := hl
  obtain ⟨QQ, hQQ⟩ : ∃ Q, Q = MQ below (mtQi (dC, dI) (tyZ cI cZ) ((W_Asks cI cZ q_s q_s_bodies s_bodies s_traced s_number s_kind s_purse s_home)) ((W_Asks cI cZ q_s q_s_bodies res.2.1 res.2.2 s_number s_kind s_purse s_home)) res.1 s.heap.size) ([.ref q_s] : List Value).toArray s 0 0 (va_A ((W_Asks cI cZ q_s q_s_bodies s_bodies s_traced s_number s_kind s_purse s_home)) s.heap.size) := ⟨_, rfl⟩
  rw [← hQQ]
  have h := hf
  unfold fX1_sizeOfBuyers at h
  refine lv_aload_n hx hb dX1_sizeOfBuyers_0 rfl (lv_at hl 0 rfl) ?_
  refine lv_bipush (v := 11) hx hb dX1_sizeOfBuyers_1 (by decide) ?_
  obtain ⟨s_bodies_1, s_traced_1, hc_1, h⟩ := bd2_of h
  refine cl_mVv (As := [.int 11]) (rest := []) (ws' := (W_Asks cI cZ q_s q_s_bodies s_bodies_1 s_traced_1 s_number s_kind s_purse s_home)) (wr := []) ⟨hx, hb, hml, hown, hts⟩ (m_X1_begin l dC dI cI cZ q_s q_s_bodies s_bodies s_traced s_number s_kind s_purse s_home 11 _ (s_bodies_1, s_traced_1) hc_1) (cwV 1 hts gX1_sizeOfBuyers_X1_begin rfl rfl rfl ⟨rfl, ddX1_begin⟩ ⟨Nat.le_of_ble_eq_true rfl, Nat.le_of_ble_eq_true rfl⟩) hK hP hD hS hA [0, 1] [] rfl rfl rfl rfl (by decide) [0, 1] rfl rfl rfl rfl rfl rfl rfl hl.1 (Nat.le_of_ble_eq_true rfl) ⟨Nat.zero_le _, Nat.zero_le _⟩ dX1_sizeOfBuyers_3 (fun H locs hP hD hS => ?_)
  refine lv_aload_n hx hb dX1_sizeOfBuyers_6 rfl (lv_at hl 0 rfl) ?_
  obtain ⟨r_2, s_bodies_2, s_traced_2, hc_2, h⟩ := bd3_of h
  refine cl_mVi (As := []) (rest := []) (ws' := (W_Asks cI cZ q_s q_s_bodies s_bodies_2 s_traced_2 s_number s_kind s_purse s_home)) (wr := []) ⟨hx, hb, hml, hown, hts⟩ (m_X1_sizeLent l dC dI cI cZ q_s q_s_bodies s_bodies_1 s_traced_1 s_number s_kind s_purse s_home _ (r_2, s_bodies_2, s_traced_2) hc_2) (cwV 0 hts gX1_sizeOfBuyers_X1_sizeLent rfl rfl rfl ⟨rfl, ddX1_sizeLent⟩ ⟨Nat.le_of_ble_eq_true rfl, Nat.le_of_ble_eq_true rfl⟩) hK hP hD hS hA [0, 1] [] rfl rfl rfl rfl (by decide) [0, 1] rfl rfl rfl rfl rfl rfl rfl hl.1 (Nat.le_of_ble_eq_true rfl) ⟨Nat.zero_le _, Nat.zero_le _⟩ dX1_sizeOfBuyers_7 (fun H locs hP hD hS => ?_)
  refine lv_istore_n (lv' := [(1, .int r_2), (0, .ref q_s)]) hx hb dX1_sizeOfBuyers_10 rfl hl (by decide) rfl (fun ls hl => ?_)
  refine lv_iload_n hx hb dX1_sizeOfBuyers_11 rfl (lv_at hl 0 rfl) ?_
  refine lv_aload_n hx hb dX1_sizeOfBuyers_12 rfl (lv_at hl 1 rfl) ?_
  obtain ⟨r_3, s_bodies_3, s_traced_3, hc_3, h⟩ := bd3_of h
  refine cl_mVi (As := []) (rest := [.int r_2]) (ws' := (W_Asks cI cZ q_s q_s_bodies s_bodies_3 s_traced_3 s_number s_kind s_purse s_home)) (wr := []) ⟨hx, hb, hml, hown, hts⟩ (m_X1_markAskedOfBuyers l dC dI cI cZ q_s q_s_bodies s_bodies_2 s_traced_2 s_number s_kind s_purse s_home _ (r_3, s_bodies_3, s_traced_3) hc_3) (cwV 0 hts gX1_sizeOfBuyers_X1_markAskedOfBuyers rfl rfl rfl ⟨rfl, ddX1_markAskedOfBuyers⟩ ⟨Nat.le_of_ble_eq_true rfl, Nat.le_of_ble_eq_true rfl⟩) hK hP hD hS hA [0, 1] [] rfl rfl rfl rfl (by decide) [0, 1] rfl rfl rfl rfl rfl rfl rfl hl.1 (Nat.le_of_ble_eq_true rfl) ⟨Nat.zero_le _, Nat.zero_le _⟩ dX1_sizeOfBuyers_13 (fun H locs hP hD hS => ?_)
  refine lv_iadd hx hb dX1_sizeOfBuyers_16 ?_
  have h := Option.some.inj h
  subst h
  rw [hQQ]
  subst hAe
  exact W.iret (v := (r_2 + r_3)) hx hb hr (fun t ht hW => ⟨⟨_, (), rfl, rfl, by rw [ht]; exact hP, va_K.moved hW.alike hK, hD⟩, hS.F ht⟩) hS.2.2 dX1_sizeOfBuyers_17
def fX1_sizeOfGoats (s_bodies : (Nat → Int32)) (s_traced : Int32) (s_purse : Int32) : Option (Int32 × (Nat → Int32) × Int32) :=
  bd2 (fX1_begin s_bodies s_traced 13) (fun s_bodies_1 s_traced_1 => bd3 (fX1_sizeLent s_bodies_1 s_traced_1 s_purse) (fun r_2 s_bodies_2 s_traced_2 => some ((r_2 - 100), s_bodies_2, s_traced_2)))
abbrev rmX1_sizeOfGoats : Room := { frames := 2, cells := 0, slots := 0, locals := 41 }
theorem ddX1_sizeOfGoats : yX1_sizeOfGoats.cls ≠ "java/lang/invoke/MethodHandle" ∧ yX1_sizeOfGoats.cls ≠ "java/lang/invoke/VarHandle" ∧ (parseMethodDescriptor yX1_sizeOfGoats.desc).map (fun d => d.parameters.length) = some 0 := by decide +kernel
set_option maxHeartbeats 4000000 in
set_option maxRecDepth 100000 in
theorem m_X1_sizeOfGoats (l : Launch) (dC : Nat → ClassId) (dI : Nat → Nat → Nat) (cI cZ : ClassId) (q_s q_s_bodies : Nat) (s_bodies : (Nat → Int32)) (s_traced : Int32) (s_number : Int32) (s_kind : Int32) (s_purse : Int32) (s_home : Int32) (sz : Nat) (res : Int32 × (Nat → Int32) × Int32) (hf : fX1_sizeOfGoats s_bodies s_traced s_purse = some res) : Met l yX1_sizeOfGoats wsX1_sizeOfGoats rmX1_sizeOfGoats (mtPc (dC, dI) (tyZ cI cZ) ((W_Asks cI cZ q_s q_s_bodies s_bodies s_traced s_number s_kind s_purse s_home)) [.ref q_s] sz) (mtQi (dC, dI) (tyZ cI cZ) ((W_Asks cI cZ q_s q_s_bodies s_bodies s_traced s_number s_kind s_purse s_home)) ((W_Asks cI cZ q_s q_s_bodies res.2.1 res.2.2 s_number s_kind s_purse s_home)) res.1 sz) 0 0 (va_A ((W_Asks cI cZ q_s q_s_bodies s_bodies s_traced s_number s_kind s_purse s_home)) sz) := by
  refine Met.ofW (cc := cX1_sizeOfGoats) (maxL := 1) (ret := (some .int)) (by decide) rfl ?_
  intro p e s m args below meth c s₁ B hml hv
  obtain ⟨rfl, hsz, hP, hK, hD0⟩ := hv
  have hx := B.exec
  have hb := B.bytes
  have hr := B.returns
  have hts := atoms_spec (ws := wsX1_sizeOfGoats) B.pre
  have hown : s.vm.findClass RX1 = some m.cls := findClass_of_methodNamed B.named
  have hlocks := B.notSynchronized
  subst hsz
  have hD := hD0.self (sz := s.heap.size)
  obtain ⟨A, hAe⟩ : ∃ A, A = va_A ((W_Asks cI cZ q_s q_s_bodies s_bodies s_traced s_number s_kind s_purse s_home)) s.heap.size := ⟨_, rfl⟩
  rw [← hAe] at hD
  have hA : ∀ q : Nat, s.heap.size ≤ q → A q := fun q h => by rw [hAe]; exact Or.inr h
  have hS : va_S A s.heap s.heap [] := va_S.rf
  have hl := lv_entry ([.ref q_s]) (n := 1) (Nat.le_of_ble_eq_true rfl)
  rw [lg_entry_eq]
  generalize (lg_sl ([.ref q_s]) ++ List.replicate (1 - (lg_sl ([.ref q_s])).length) Slot.unset).toArray = ls at hl ⊢
  have hl : lv_has ls 1 [(0, .ref q_s)] := hl
  obtain ⟨QQ, hQQ⟩ : ∃ Q, Q = MQ below (mtQi (dC, dI) (tyZ cI cZ) ((W_Asks cI cZ q_s q_s_bodies s_bodies s_traced s_number s_kind s_purse s_home)) ((W_Asks cI cZ q_s q_s_bodies res.2.1 res.2.2 s_number s_kind s_purse s_home)) res.1 s.heap.size) ([.ref q_s] : List Value).toArray s 0 0 (va_A ((W_Asks cI cZ q_s q_s_bodies s_bodies s_traced s_number s_kind s_purse s_home)) s.heap.size) := ⟨_, rfl⟩
  rw [← hQQ]
  have h := hf
  unfold fX1_sizeOfGoats at h
  refine lv_aload_n hx hb dX1_sizeOfGoats_0 rfl (lv_at hl 0 rfl) ?_
  refine lv_bipush (v := 13) hx hb dX1_sizeOfGoats_1 (by decide) ?_
  obtain ⟨s_bodies_1, s_traced_1, hc_1, h⟩ := bd2_of h
  refine cl_mVv (As := [.int 13]) (rest := []) (ws' := (W_Asks cI cZ q_s q_s_bodies s_bodies_1 s_traced_1 s_number s_kind s_purse s_home)) (wr := []) ⟨hx, hb, hml, hown, hts⟩ (m_X1_begin l dC dI cI cZ q_s q_s_bodies s_bodies s_traced s_number s_kind s_purse s_home 13 _ (s_bodies_1, s_traced_1) hc_1) (cwV 1 hts gX1_sizeOfGoats_X1_begin rfl rfl rfl ⟨rfl, ddX1_begin⟩ ⟨Nat.le_of_ble_eq_true rfl, Nat.le_of_ble_eq_true rfl⟩) hK hP hD hS hA [0, 1] [] rfl rfl rfl rfl (by decide) [0, 1] rfl rfl rfl rfl rfl rfl rfl hl.1 (Nat.le_of_ble_eq_true rfl) ⟨Nat.zero_le _, Nat.zero_le _⟩ dX1_sizeOfGoats_3 (fun H locs hP hD hS => ?_)
  refine lv_aload_n hx hb dX1_sizeOfGoats_6 rfl (lv_at hl 0 rfl) ?_
  obtain ⟨r_2, s_bodies_2, s_traced_2, hc_2, h⟩ := bd3_of h
  refine cl_mVi (As := []) (rest := []) (ws' := (W_Asks cI cZ q_s q_s_bodies s_bodies_2 s_traced_2 s_number s_kind s_purse s_home)) (wr := []) ⟨hx, hb, hml, hown, hts⟩ (m_X1_sizeLent l dC dI cI cZ q_s q_s_bodies s_bodies_1 s_traced_1 s_number s_kind s_purse s_home _ (r_2, s_bodies_2, s_traced_2) hc_2) (cwV 0 hts gX1_sizeOfGoats_X1_sizeLent rfl rfl rfl ⟨rfl, ddX1_sizeLent⟩ ⟨Nat.le_of_ble_eq_true rfl, Nat.le_of_ble_eq_true rfl⟩) hK hP hD hS hA [0, 1] [] rfl rfl rfl rfl (by decide) [0, 1] rfl rfl rfl rfl rfl rfl rfl hl.1 (Nat.le_of_ble_eq_true rfl) ⟨Nat.zero_le _, Nat.zero_le _⟩ dX1_sizeOfGoats_7 (fun H locs hP hD hS => ?_)
  refine lv_bipush (v := 100) hx hb dX1_sizeOfGoats_10 (by decide) ?_
  refine lv_isub hx hb dX1_sizeOfGoats_12 ?_
  have h := Option.some.inj h
  subst h
  rw [hQQ]
  subst hAe
  exact W.iret (v := (r_2 - 100)) hx hb hr (fun t ht hW => ⟨⟨_, (), rfl, rfl, by rw [ht]; exact hP, va_K.moved hW.alike hK, hD⟩, hS.F ht⟩) hS.2.2 dX1_sizeOfGoats_13
def fX1_sizeAskedOfGoats (s_bodies : (Nat → Int32)) (s_traced : Int32) (s_kind : Int32) (s_purse : Int32) : Option (Int32 × (Nat → Int32) × Int32) :=
  (if s_kind = 5 then bd2 (fX1_begin s_bodies s_traced 14) (fun s_bodies_3 s_traced_3 => bd3 (fX1_sizeOfGoats s_bodies_3 s_traced_3 s_purse) (fun r_4 s_bodies_4 s_traced_4 => some ((2 * r_4), s_bodies_4, s_traced_4))) else bd3 (fX1_sizeOfGoats s_bodies s_traced s_purse) (fun r_2 s_bodies_2 s_traced_2 => some (r_2, s_bodies_2, s_traced_2)))
abbrev rmX1_sizeAskedOfGoats : Room := { frames := 3, cells := 0, slots := 0, locals := 61 }
theorem ddX1_sizeAskedOfGoats : yX1_sizeAskedOfGoats.cls ≠ "java/lang/invoke/MethodHandle" ∧ yX1_sizeAskedOfGoats.cls ≠ "java/lang/invoke/VarHandle" ∧ (parseMethodDescriptor yX1_sizeAskedOfGoats.desc).map (fun d => d.parameters.length) = some 0 := by decide +kernel
set_option maxHeartbeats 4000000 in
set_option maxRecDepth 100000 in
theorem m_X1_sizeAskedOfGoats (l : Launch) (dC : Nat → ClassId) (dI : Nat → Nat → Nat) (cI cZ : ClassId) (q_s q_s_bodies : Nat) (s_bodies : (Nat → Int32)) (s_traced : Int32) (s_number : Int32) (s_kind : Int32) (s_purse : Int32) (s_home : Int32) (sz : Nat) (res : Int32 × (Nat → Int32) × Int32) (hf : fX1_sizeAskedOfGoats s_bodies s_traced s_kind s_purse = some res) : Met l yX1_sizeAskedOfGoats wsX1_sizeAskedOfGoats rmX1_sizeAskedOfGoats (mtPc (dC, dI) (tyZ cI cZ) ((W_Asks cI cZ q_s q_s_bodies s_bodies s_traced s_number s_kind s_purse s_home)) [.ref q_s] sz) (mtQi (dC, dI) (tyZ cI cZ) ((W_Asks cI cZ q_s q_s_bodies s_bodies s_traced s_number s_kind s_purse s_home)) ((W_Asks cI cZ q_s q_s_bodies res.2.1 res.2.2 s_number s_kind s_purse s_home)) res.1 sz) 0 0 (va_A ((W_Asks cI cZ q_s q_s_bodies s_bodies s_traced s_number s_kind s_purse s_home)) sz) := by
  refine Met.ofW (cc := cX1_sizeAskedOfGoats) (maxL := 1) (ret := (some .int)) (by decide) rfl ?_
  intro p e s m args below meth c s₁ B hml hv
  obtain ⟨rfl, hsz, hP, hK, hD0⟩ := hv
  have hx := B.exec
  have hb := B.bytes
  have hr := B.returns
  have hts := atoms_spec (ws := wsX1_sizeAskedOfGoats) B.pre
  have hown : s.vm.findClass RX1 = some m.cls := findClass_of_methodNamed B.named
  have hlocks := B.notSynchronized
  subst hsz
  have hD := hD0.self (sz := s.heap.size)
  obtain ⟨A, hAe⟩ : ∃ A, A = va_A ((W_Asks cI cZ q_s q_s_bodies s_bodies s_traced s_number s_kind s_purse s_home)) s.heap.size := ⟨_, rfl⟩
  rw [← hAe] at hD
  have hA : ∀ q : Nat, s.heap.size ≤ q → A q := fun q h => by rw [hAe]; exact Or.inr h
  have hS : va_S A s.heap s.heap [] := va_S.rf
  have hl := lv_entry ([.ref q_s]) (n := 1) (Nat.le_of_ble_eq_true rfl)
  rw [lg_entry_eq]
  generalize (lg_sl ([.ref q_s]) ++ List.replicate (1 - (lg_sl ([.ref q_s])).length) Slot.unset).toArray = ls at hl ⊢
  have hl : lv_has ls 1 [(0, .ref q_s)] := hl
  obtain ⟨QQ, hQQ⟩ : ∃ Q, Q = MQ below (mtQi (dC, dI) (tyZ cI cZ) ((W_Asks cI cZ q_s q_s_bodies s_bodies s_traced s_number s_kind s_purse s_home)) ((W_Asks cI cZ q_s q_s_bodies res.2.1 res.2.2 s_number s_kind s_purse s_home)) res.1 s.heap.size) ([.ref q_s] : List Value).toArray s 0 0 (va_A ((W_Asks cI cZ q_s q_s_bodies s_bodies s_traced s_number s_kind s_purse s_home)) s.heap.size) := ⟨_, rfl⟩
  rw [← hQQ]
  have w_0 := hts (Cond.fieldLink RX1 26 "TideInches$Asks" "kind" "I") (List.mem_of_getElem? (i := 1) rfl)
  have w_1 := (fun w hw => List.mem_cons_of_mem _ (List.mem_append_right _ hw) : ∀ w ∈ wsX10, w ∈ wsX1_sizeAskedOfGoats)
  have h := hf
  unfold fX1_sizeAskedOfGoats at h
  refine lv_aload_n hx hb dX1_sizeAskedOfGoats_0 rfl (lv_at hl 0 rfl) ?_
  refine va_get (D := (dC, dI)) (ci := 1) (v := .int s_kind) (C := RX1) (T := TX1) (N := 6) hx hb hts w_1 hown hK hP 0 rfl rfl 3 (by decide) w_0 (fun _ h9 => h9) rfl dX1_sizeAskedOfGoats_1 ?_
  refine lv_iconst (v := 5) hx hb dX1_sizeAskedOfGoats_4 (by decide) ?_
  refine lv_icmp_ne (tgt := 21) hx hb dX1_sizeAskedOfGoats_5 (by decide) (fun c_1 => ?_) (fun c_1 => ?_)
  · have h := (if_neg c_1).symm.trans h
    refine lv_aload_n hx hb dX1_sizeAskedOfGoats_21 rfl (lv_at hl 0 rfl) ?_
    obtain ⟨r_2, s_bodies_2, s_traced_2, hc_2, h⟩ := bd3_of h
    refine cl_mVi (As := []) (rest := []) (ws' := (W_Asks cI cZ q_s q_s_bodies s_bodies_2 s_traced_2 s_number s_kind s_purse s_home)) (wr := []) ⟨hx, hb, hml, hown, hts⟩ (m_X1_sizeOfGoats l dC dI cI cZ q_s q_s_bodies s_bodies s_traced s_number s_kind s_purse s_home _ (r_2, s_bodies_2, s_traced_2) hc_2) (cwV 0 hts gX1_sizeAskedOfGoats_X1_sizeOfGoats rfl rfl rfl ⟨rfl, ddX1_sizeOfGoats⟩ ⟨Nat.le_of_ble_eq_true rfl, Nat.le_of_ble_eq_true rfl⟩) hK hP hD hS hA [0, 1] [] rfl rfl rfl rfl (by decide) [0, 1] rfl rfl rfl rfl rfl rfl rfl hl.1 (Nat.le_of_ble_eq_true rfl) ⟨Nat.zero_le _, Nat.zero_le _⟩ dX1_sizeAskedOfGoats_22 (fun H locs hP hD hS => ?_)
    have h := Option.some.inj h
    subst h
    rw [hQQ]
    subst hAe
    exact W.iret (v := r_2) hx hb hr (fun t ht hW => ⟨⟨_, (), rfl, rfl, by rw [ht]; exact hP, va_K.moved hW.alike hK, hD⟩, hS.F ht⟩) hS.2.2 dX1_sizeAskedOfGoats_25
  · have h := (if_pos c_1).symm.trans h
    refine lv_aload_n hx hb dX1_sizeAskedOfGoats_8 rfl (lv_at hl 0 rfl) ?_
    refine lv_bipush (v := 14) hx hb dX1_sizeAskedOfGoats_9 (by decide) ?_
    obtain ⟨s_bodies_3, s_traced_3, hc_3, h⟩ := bd2_of h
    refine cl_mVv (As := [.int 14]) (rest := []) (ws' := (W_Asks cI cZ q_s q_s_bodies s_bodies_3 s_traced_3 s_number s_kind s_purse s_home)) (wr := []) ⟨hx, hb, hml, hown, hts⟩ (m_X1_begin l dC dI cI cZ q_s q_s_bodies s_bodies s_traced s_number s_kind s_purse s_home 14 _ (s_bodies_3, s_traced_3) hc_3) (cwV 1 hts gX1_sizeAskedOfGoats_X1_begin rfl rfl rfl ⟨rfl, ddX1_begin⟩ ⟨Nat.le_of_ble_eq_true rfl, Nat.le_of_ble_eq_true rfl⟩) hK hP hD hS hA [0, 1] [] rfl rfl rfl rfl (by decide) [0, 1] rfl rfl rfl rfl rfl rfl rfl hl.1 (Nat.le_of_ble_eq_true rfl) ⟨Nat.zero_le _, Nat.zero_le _⟩ dX1_sizeAskedOfGoats_11 (fun H locs hP hD hS => ?_)
    refine lv_iconst (v := 2) hx hb dX1_sizeAskedOfGoats_14 (by decide) ?_
    refine lv_aload_n hx hb dX1_sizeAskedOfGoats_15 rfl (lv_at hl 0 rfl) ?_
    obtain ⟨r_4, s_bodies_4, s_traced_4, hc_4, h⟩ := bd3_of h
    refine cl_mVi (As := []) (rest := [.int 2]) (ws' := (W_Asks cI cZ q_s q_s_bodies s_bodies_4 s_traced_4 s_number s_kind s_purse s_home)) (wr := []) ⟨hx, hb, hml, hown, hts⟩ (m_X1_sizeOfGoats l dC dI cI cZ q_s q_s_bodies s_bodies_3 s_traced_3 s_number s_kind s_purse s_home _ (r_4, s_bodies_4, s_traced_4) hc_4) (cwV 0 hts gX1_sizeAskedOfGoats_X1_sizeOfGoats rfl rfl rfl ⟨rfl, ddX1_sizeOfGoats⟩ ⟨Nat.le_of_ble_eq_true rfl, Nat.le_of_ble_eq_true rfl⟩) hK hP hD hS hA [0, 1] [] rfl rfl rfl rfl (by decide) [0, 1] rfl rfl rfl rfl rfl rfl rfl hl.1 (Nat.le_of_ble_eq_true rfl) ⟨Nat.zero_le _, Nat.zero_le _⟩ dX1_sizeAskedOfGoats_16 (fun H locs hP hD hS => ?_)
    refine lv_imul hx hb dX1_sizeAskedOfGoats_19 ?_
    have h := Option.some.inj h
    subst h
    rw [hQQ]
    subst hAe
    exact W.iret (v := (2 * r_4)) hx hb hr (fun t ht hW => ⟨⟨_, (), rfl, rfl, by rw [ht]; exact hP, va_K.moved hW.alike hK, hD⟩, hS.F ht⟩) hS.2.2 dX1_sizeAskedOfGoats_20
def fX1_sizeAsked (s_bodies : (Nat → Int32)) (s_traced : Int32) (s_number : Int32) (s_kind : Int32) (s_purse : Int32) (s_home : Int32) : Option (Int32 × (Nat → Int32) × Int32) :=
  (if s_kind = 2 then bd2 (fX1_begin s_bodies s_traced 12) (fun s_bodies_2 s_traced_2 => bd3 (fX1_sizeOfBuyers s_bodies_2 s_traced_2 s_number s_kind s_purse s_home) (fun r_3 s_bodies_3 s_traced_3 => some ((-r_3), s_bodies_3, s_traced_3))) else (if s_kind = 3 then bd3 (fX1_sizeOfBuyers s_bodies s_traced s_number s_kind s_purse s_home) (fun r_5 s_bodies_5 s_traced_5 => some (r_5, s_bodies_5, s_traced_5)) else (if s_kind = 4 then bd3 (fX1_sizeAskedOfGoats s_bodies s_traced s_kind s_purse) (fun r_7 s_bodies_7 s_traced_7 => some (r_7, s_bodies_7, s_traced_7)) else (if s_kind = 5 then bd3 (fX1_sizeAskedOfGoats s_bodies s_traced s_kind s_purse) (fun r_9 s_bodies_9 s_traced_9 => some (r_9, s_bodies_9, s_traced_9)) else bd3 (fX1_sizeOfBuyers s_bodies s_traced s_number s_kind s_purse s_home) (fun r_10 s_bodies_10 s_traced_10 => some (r_10, s_bodies_10, s_traced_10))))))
abbrev rmX1_sizeAsked : Room := { frames := 5, cells := 0, slots := 0, locals := 102 }
theorem ddX1_sizeAsked : yX1_sizeAsked.cls ≠ "java/lang/invoke/MethodHandle" ∧ yX1_sizeAsked.cls ≠ "java/lang/invoke/VarHandle" ∧ (parseMethodDescriptor yX1_sizeAsked.desc).map (fun d => d.parameters.length) = some 0 := by decide +kernel
set_option maxHeartbeats 4000000 in
set_option maxRecDepth 100000 in
theorem m_X1_sizeAsked (l : Launch) (dC : Nat → ClassId) (dI : Nat → Nat → Nat) (cI cZ : ClassId) (q_s q_s_bodies : Nat) (s_bodies : (Nat → Int32)) (s_traced : Int32) (s_number : Int32) (s_kind : Int32) (s_purse : Int32) (s_home : Int32) (sz : Nat) (res : Int32 × (Nat → Int32) × Int32) (hf : fX1_sizeAsked s_bodies s_traced s_number s_kind s_purse s_home = some res) : Met l yX1_sizeAsked wsX1_sizeAsked rmX1_sizeAsked (mtPc (dC, dI) (tyZ cI cZ) ((W_Asks cI cZ q_s q_s_bodies s_bodies s_traced s_number s_kind s_purse s_home)) [.ref q_s] sz) (mtQi (dC, dI) (tyZ cI cZ) ((W_Asks cI cZ q_s q_s_bodies s_bodies s_traced s_number s_kind s_purse s_home)) ((W_Asks cI cZ q_s q_s_bodies res.2.1 res.2.2 s_number s_kind s_purse s_home)) res.1 sz) 0 0 (va_A ((W_Asks cI cZ q_s q_s_bodies s_bodies s_traced s_number s_kind s_purse s_home)) sz) := by
  refine Met.ofW (cc := cX1_sizeAsked) (maxL := 1) (ret := (some .int)) (by decide) rfl ?_
  intro p e s m args below meth c s₁ B hml hv
  obtain ⟨rfl, hsz, hP, hK, hD0⟩ := hv
  have hx := B.exec
  have hb := B.bytes
  have hr := B.returns
  have hts := atoms_spec (ws := wsX1_sizeAsked) B.pre
  have hown : s.vm.findClass RX1 = some m.cls := findClass_of_methodNamed B.named
  have hlocks := B.notSynchronized
  subst hsz
  have hD := hD0.self (sz := s.heap.size)
  obtain ⟨A, hAe⟩ : ∃ A, A = va_A ((W_Asks cI cZ q_s q_s_bodies s_bodies s_traced s_number s_kind s_purse s_home)) s.heap.size := ⟨_, rfl⟩
  rw [← hAe] at hD
  have hA : ∀ q : Nat, s.heap.size ≤ q → A q := fun q h => by rw [hAe]; exact Or.inr h
  have hS : va_S A s.heap s.heap [] := va_S.rf
  have hl := lv_entry ([.ref q_s]) (n := 1) (Nat.le_of_ble_eq_true rfl)
  rw [lg_entry_eq]
  generalize (lg_sl ([.ref q_s]) ++ List.replicate (1 - (lg_sl ([.ref q_s])).length) Slot.unset).toArray = ls at hl ⊢
  have hl : lv_has ls 1 [(0, .ref q_s)] := hl
  obtain ⟨QQ, hQQ⟩ : ∃ Q, Q = MQ below (mtQi (dC, dI) (tyZ cI cZ) ((W_Asks cI cZ q_s q_s_bodies s_bodies s_traced s_number s_kind s_purse s_home)) ((W_Asks cI cZ q_s q_s_bodies res.2.1 res.2.2 s_number s_kind s_purse s_home)) res.1 s.heap.size) ([.ref q_s] : List Value).toArray s 0 0 (va_A ((W_Asks cI cZ q_s q_s_bodies s_bodies s_traced s_number s_kind s_purse s_home)) s.heap.size) := ⟨_, rfl⟩
  rw [← hQQ]
  have w_0 := hts (Cond.fieldLink RX1 26 "TideInches$Asks" "kind" "I") (List.mem_of_getElem? (i := 1) rfl)
  have w_1 := (fun w hw => List.mem_cons_of_mem _ (List.mem_append_right _ hw) : ∀ w ∈ wsX10, w ∈ wsX1_sizeAsked)
  have h := hf
  unfold fX1_sizeAsked at h
  refine lv_aload_n hx hb dX1_sizeAsked_0 rfl (lv_at hl 0 rfl) ?_
  refine va_get (D := (dC, dI)) (ci := 1) (v := .int s_kind) (C := RX1) (T := TX1) (N := 6) hx hb hts w_1 hown hK hP 0 rfl rfl 3 (by decide) w_0 (fun _ h9 => h9) rfl dX1_sizeAsked_1 ?_
  by_cases c_1 : s_kind = 2
  · have h := (if_pos c_1).symm.trans h
    refine lv_tableIn (tgt := 36) hx hb dX1_sizeAsked_4 (by rw [c_1]; decide) (by rw [c_1]; decide) (by rw [c_1]; rfl) (by decide) ?_
    refine lv_aload_n hx hb dX1_sizeAsked_36 rfl (lv_at hl 0 rfl) ?_
    refine lv_bipush (v := 12) hx hb dX1_sizeAsked_37 (by decide) ?_
    obtain ⟨s_bodies_2, s_traced_2, hc_2, h⟩ := bd2_of h
    refine cl_mVv (As := [.int 12]) (rest := []) (ws' := (W_Asks cI cZ q_s q_s_bodies s_bodies_2 s_traced_2 s_number s_kind s_purse s_home)) (wr := []) ⟨hx, hb, hml, hown, hts⟩ (m_X1_begin l dC dI cI cZ q_s q_s_bodies s_bodies s_traced s_number s_kind s_purse s_home 12 _ (s_bodies_2, s_traced_2) hc_2) (cwV 1 hts gX1_sizeAsked_X1_begin rfl rfl rfl ⟨rfl, ddX1_begin⟩ ⟨Nat.le_of_ble_eq_true rfl, Nat.le_of_ble_eq_true rfl⟩) hK hP hD hS hA [0, 1] [] rfl rfl rfl rfl (by decide) [0, 1] rfl rfl rfl rfl rfl rfl rfl hl.1 (Nat.le_of_ble_eq_true rfl) ⟨Nat.zero_le _, Nat.zero_le _⟩ dX1_sizeAsked_39 (fun H locs hP hD hS => ?_)
    refine lv_aload_n hx hb dX1_sizeAsked_42 rfl (lv_at hl 0 rfl) ?_
    obtain ⟨r_3, s_bodies_3, s_traced_3, hc_3, h⟩ := bd3_of h
    refine cl_mVi (As := []) (rest := []) (ws' := (W_Asks cI cZ q_s q_s_bodies s_bodies_3 s_traced_3 s_number s_kind s_purse s_home)) (wr := []) ⟨hx, hb, hml, hown, hts⟩ (m_X1_sizeOfBuyers l dC dI cI cZ q_s q_s_bodies s_bodies_2 s_traced_2 s_number s_kind s_purse s_home _ (r_3, s_bodies_3, s_traced_3) hc_3) (cwV 0 hts gX1_sizeAsked_X1_sizeOfBuyers rfl rfl rfl ⟨rfl, ddX1_sizeOfBuyers⟩ ⟨Nat.le_of_ble_eq_true rfl, Nat.le_of_ble_eq_true rfl⟩) hK hP hD hS hA [0, 1] [] rfl rfl rfl rfl (by decide) [0, 1] rfl rfl rfl rfl rfl rfl rfl hl.1 (Nat.le_of_ble_eq_true rfl) ⟨Nat.zero_le _, Nat.zero_le _⟩ dX1_sizeAsked_43 (fun H locs hP hD hS => ?_)
    refine lv_ineg hx hb dX1_sizeAsked_46 ?_
    have h := Option.some.inj h
    subst h
    rw [hQQ]
    subst hAe
    exact W.iret (v := (-r_3)) hx hb hr (fun t ht hW => ⟨⟨_, (), rfl, rfl, by rw [ht]; exact hP, va_K.moved hW.alike hK, hD⟩, hS.F ht⟩) hS.2.2 dX1_sizeAsked_47
  have h := (if_neg c_1).symm.trans h
  by_cases c_4 : s_kind = 3
  · have h := (if_pos c_4).symm.trans h
    refine lv_tableIn (tgt := 53) hx hb dX1_sizeAsked_4 (by rw [c_4]; decide) (by rw [c_4]; decide) (by rw [c_4]; rfl) (by decide) ?_
    refine lv_aload_n hx hb dX1_sizeAsked_53 rfl (lv_at hl 0 rfl) ?_
    obtain ⟨r_5, s_bodies_5, s_traced_5, hc_5, h⟩ := bd3_of h
    refine cl_mVi (As := []) (rest := []) (ws' := (W_Asks cI cZ q_s q_s_bodies s_bodies_5 s_traced_5 s_number s_kind s_purse s_home)) (wr := []) ⟨hx, hb, hml, hown, hts⟩ (m_X1_sizeOfBuyers l dC dI cI cZ q_s q_s_bodies s_bodies s_traced s_number s_kind s_purse s_home _ (r_5, s_bodies_5, s_traced_5) hc_5) (cwV 0 hts gX1_sizeAsked_X1_sizeOfBuyers rfl rfl rfl ⟨rfl, ddX1_sizeOfBuyers⟩ ⟨Nat.le_of_ble_eq_true rfl, Nat.le_of_ble_eq_true rfl⟩) hK hP hD hS hA [0, 1] [] rfl rfl rfl rfl (by decide) [0, 1] rfl rfl rfl rfl rfl rfl rfl hl.1 (Nat.le_of_ble_eq_true rfl) ⟨Nat.zero_le _, Nat.zero_le _⟩ dX1_sizeAsked_54 (fun H locs hP hD hS => ?_)
    have h := Option.some.inj h
    subst h
    rw [hQQ]
    subst hAe
    exact W.iret (v := r_5) hx hb hr (fun t ht hW => ⟨⟨_, (), rfl, rfl, by rw [ht]; exact hP, va_K.moved hW.alike hK, hD⟩, hS.F ht⟩) hS.2.2 dX1_sizeAsked_57
  have h := (if_neg c_4).symm.trans h
  by_cases c_6 : s_kind = 4
  · have h := (if_pos c_6).symm.trans h
    refine lv_tableIn (tgt := 48) hx hb dX1_sizeAsked_4 (by rw [c_6]; decide) (by rw [c_6]; decide) (by rw [c_6]; rfl) (by decide) ?_
    refine lv_aload_n hx hb dX1_sizeAsked_48 rfl (lv_at hl 0 rfl) ?_
    obtain ⟨r_7, s_bodies_7, s_traced_7, hc_7, h⟩ := bd3_of h
    refine cl_mVi (As := []) (rest := []) (ws' := (W_Asks cI cZ q_s q_s_bodies s_bodies_7 s_traced_7 s_number s_kind s_purse s_home)) (wr := []) ⟨hx, hb, hml, hown, hts⟩ (m_X1_sizeAskedOfGoats l dC dI cI cZ q_s q_s_bodies s_bodies s_traced s_number s_kind s_purse s_home _ (r_7, s_bodies_7, s_traced_7) hc_7) (cwV 0 hts gX1_sizeAsked_X1_sizeAskedOfGoats rfl rfl rfl ⟨rfl, ddX1_sizeAskedOfGoats⟩ ⟨Nat.le_of_ble_eq_true rfl, Nat.le_of_ble_eq_true rfl⟩) hK hP hD hS hA [0, 1] [] rfl rfl rfl rfl (by decide) [0, 1] rfl rfl rfl rfl rfl rfl rfl hl.1 (Nat.le_of_ble_eq_true rfl) ⟨Nat.zero_le _, Nat.zero_le _⟩ dX1_sizeAsked_49 (fun H locs hP hD hS => ?_)
    have h := Option.some.inj h
    subst h
    rw [hQQ]
    subst hAe
    exact W.iret (v := r_7) hx hb hr (fun t ht hW => ⟨⟨_, (), rfl, rfl, by rw [ht]; exact hP, va_K.moved hW.alike hK, hD⟩, hS.F ht⟩) hS.2.2 dX1_sizeAsked_52
  have h := (if_neg c_6).symm.trans h
  by_cases c_8 : s_kind = 5
  · have h := (if_pos c_8).symm.trans h
    refine lv_tableIn (tgt := 48) hx hb dX1_sizeAsked_4 (by rw [c_8]; decide) (by rw [c_8]; decide) (by rw [c_8]; rfl) (by decide) ?_
    refine lv_aload_n hx hb dX1_sizeAsked_48 rfl (lv_at hl 0 rfl) ?_
    obtain ⟨r_9, s_bodies_9, s_traced_9, hc_9, h⟩ := bd3_of h
    refine cl_mVi (As := []) (rest := []) (ws' := (W_Asks cI cZ q_s q_s_bodies s_bodies_9 s_traced_9 s_number s_kind s_purse s_home)) (wr := []) ⟨hx, hb, hml, hown, hts⟩ (m_X1_sizeAskedOfGoats l dC dI cI cZ q_s q_s_bodies s_bodies s_traced s_number s_kind s_purse s_home _ (r_9, s_bodies_9, s_traced_9) hc_9) (cwV 0 hts gX1_sizeAsked_X1_sizeAskedOfGoats rfl rfl rfl ⟨rfl, ddX1_sizeAskedOfGoats⟩ ⟨Nat.le_of_ble_eq_true rfl, Nat.le_of_ble_eq_true rfl⟩) hK hP hD hS hA [0, 1] [] rfl rfl rfl rfl (by decide) [0, 1] rfl rfl rfl rfl rfl rfl rfl hl.1 (Nat.le_of_ble_eq_true rfl) ⟨Nat.zero_le _, Nat.zero_le _⟩ dX1_sizeAsked_49 (fun H locs hP hD hS => ?_)
    have h := Option.some.inj h
    subst h
    rw [hQQ]
    subst hAe
    exact W.iret (v := r_9) hx hb hr (fun t ht hW => ⟨⟨_, (), rfl, rfl, by rw [ht]; exact hP, va_K.moved hW.alike hK, hD⟩, hS.F ht⟩) hS.2.2 dX1_sizeAsked_52
  have h := (if_neg c_8).symm.trans h
  have n_1 : (s_kind).toInt ≠ 2 := ne_tn c_1 rfl
  have n_4 : (s_kind).toInt ≠ 3 := ne_tn c_4 rfl
  have n_6 : (s_kind).toInt ≠ 4 := ne_tn c_6 rfl
  have n_8 : (s_kind).toInt ≠ 5 := ne_tn c_8 rfl
  refine lv_tableOut (tgt := 53) hx hb dX1_sizeAsked_4 (by omega) (by decide) ?_
  refine lv_aload_n hx hb dX1_sizeAsked_53 rfl (lv_at hl 0 rfl) ?_
  obtain ⟨r_10, s_bodies_10, s_traced_10, hc_10, h⟩ := bd3_of h
  refine cl_mVi (As := []) (rest := []) (ws' := (W_Asks cI cZ q_s q_s_bodies s_bodies_10 s_traced_10 s_number s_kind s_purse s_home)) (wr := []) ⟨hx, hb, hml, hown, hts⟩ (m_X1_sizeOfBuyers l dC dI cI cZ q_s q_s_bodies s_bodies s_traced s_number s_kind s_purse s_home _ (r_10, s_bodies_10, s_traced_10) hc_10) (cwV 0 hts gX1_sizeAsked_X1_sizeOfBuyers rfl rfl rfl ⟨rfl, ddX1_sizeOfBuyers⟩ ⟨Nat.le_of_ble_eq_true rfl, Nat.le_of_ble_eq_true rfl⟩) hK hP hD hS hA [0, 1] [] rfl rfl rfl rfl (by decide) [0, 1] rfl rfl rfl rfl rfl rfl rfl hl.1 (Nat.le_of_ble_eq_true rfl) ⟨Nat.zero_le _, Nat.zero_le _⟩ dX1_sizeAsked_54 (fun H locs hP hD hS => ?_)
  have h := Option.some.inj h
  subst h
  rw [hQQ]
  subst hAe
  exact W.iret (v := r_10) hx hb hr (fun t ht hW => ⟨⟨_, (), rfl, rfl, by rw [ht]; exact hP, va_K.moved hW.alike hK, hD⟩, hS.F ht⟩) hS.2.2 dX1_sizeAsked_57
def fX1_markOfGoats (s_bodies : (Nat → Int32)) (s_traced : Int32) (s_number : Int32) (s_kind : Int32) (s_purse : Int32) : Option (Int32 × (Nat → Int32) × Int32) :=
  bd2 (fX1_begin s_bodies s_traced 23) (fun s_bodies_1 s_traced_1 => bd3 (fX1_markLent s_bodies_1 s_traced_1 s_number) (fun r_2 s_bodies_2 s_traced_2 => bd3 (fX1_sizeAskedOfGoats s_bodies_2 s_traced_2 s_kind s_purse) (fun r_3 s_bodies_3 s_traced_3 => some ((r_2 - r_3), s_bodies_3, s_traced_3))))
abbrev rmX1_markOfGoats : Room := { frames := 4, cells := 0, slots := 0, locals := 81 }
theorem ddX1_markOfGoats : yX1_markOfGoats.cls ≠ "java/lang/invoke/MethodHandle" ∧ yX1_markOfGoats.cls ≠ "java/lang/invoke/VarHandle" ∧ (parseMethodDescriptor yX1_markOfGoats.desc).map (fun d => d.parameters.length) = some 0 := by decide +kernel
set_option maxHeartbeats 4000000 in
set_option maxRecDepth 100000 in
theorem m_X1_markOfGoats (l : Launch) (dC : Nat → ClassId) (dI : Nat → Nat → Nat) (cI cZ : ClassId) (q_s q_s_bodies : Nat) (s_bodies : (Nat → Int32)) (s_traced : Int32) (s_number : Int32) (s_kind : Int32) (s_purse : Int32) (s_home : Int32) (sz : Nat) (res : Int32 × (Nat → Int32) × Int32) (hf : fX1_markOfGoats s_bodies s_traced s_number s_kind s_purse = some res) : Met l yX1_markOfGoats wsX1_markOfGoats rmX1_markOfGoats (mtPc (dC, dI) (tyZ cI cZ) ((W_Asks cI cZ q_s q_s_bodies s_bodies s_traced s_number s_kind s_purse s_home)) [.ref q_s] sz) (mtQi (dC, dI) (tyZ cI cZ) ((W_Asks cI cZ q_s q_s_bodies s_bodies s_traced s_number s_kind s_purse s_home)) ((W_Asks cI cZ q_s q_s_bodies res.2.1 res.2.2 s_number s_kind s_purse s_home)) res.1 sz) 0 0 (va_A ((W_Asks cI cZ q_s q_s_bodies s_bodies s_traced s_number s_kind s_purse s_home)) sz) := by
  refine Met.ofW (cc := cX1_markOfGoats) (maxL := 2) (ret := (some .int)) (by decide) rfl ?_
  intro p e s m args below meth c s₁ B hml hv
  obtain ⟨rfl, hsz, hP, hK, hD0⟩ := hv
  have hx := B.exec
  have hb := B.bytes
  have hr := B.returns
  have hts := atoms_spec (ws := wsX1_markOfGoats) B.pre
  have hown : s.vm.findClass RX1 = some m.cls := findClass_of_methodNamed B.named
  have hlocks := B.notSynchronized
  subst hsz
  have hD := hD0.self (sz := s.heap.size)
  obtain ⟨A, hAe⟩ : ∃ A, A = va_A ((W_Asks cI cZ q_s q_s_bodies s_bodies s_traced s_number s_kind s_purse s_home)) s.heap.size := ⟨_, rfl⟩
  rw [← hAe] at hD
  have hA : ∀ q : Nat, s.heap.size ≤ q → A q := fun q h => by rw [hAe]; exact Or.inr h
  have hS : va_S A s.heap s.heap [] := va_S.rf
  have hl := lv_entry ([.ref q_s]) (n := 2) (Nat.le_of_ble_eq_true rfl)
  rw [lg_entry_eq]
  generalize (lg_sl ([.ref q_s]) ++ List.replicate (2 - (lg_sl ([.ref q_s])).length) Slot.unset).toArray = ls at hl ⊢
  have hl : lv_has ls 2 [(0, .ref q_s)] := hl
  obtain ⟨QQ, hQQ⟩ : ∃ Q, Q = MQ below (mtQi (dC, dI) (tyZ cI cZ) ((W_Asks cI cZ q_s q_s_bodies s_bodies s_traced s_number s_kind s_purse s_home)) ((W_Asks cI cZ q_s q_s_bodies res.2.1 res.2.2 s_number s_kind s_purse s_home)) res.1 s.heap.size) ([.ref q_s] : List Value).toArray s 0 0 (va_A ((W_Asks cI cZ q_s q_s_bodies s_bodies s_traced s_number s_kind s_purse s_home)) s.heap.size) := ⟨_, rfl⟩
  rw [← hQQ]
  have h := hf
  unfold fX1_markOfGoats at h
  refine lv_aload_n hx hb dX1_markOfGoats_0 rfl (lv_at hl 0 rfl) ?_
  refine lv_bipush (v := 23) hx hb dX1_markOfGoats_1 (by decide) ?_
  obtain ⟨s_bodies_1, s_traced_1, hc_1, h⟩ := bd2_of h
  refine cl_mVv (As := [.int 23]) (rest := []) (ws' := (W_Asks cI cZ q_s q_s_bodies s_bodies_1 s_traced_1 s_number s_kind s_purse s_home)) (wr := []) ⟨hx, hb, hml, hown, hts⟩ (m_X1_begin l dC dI cI cZ q_s q_s_bodies s_bodies s_traced s_number s_kind s_purse s_home 23 _ (s_bodies_1, s_traced_1) hc_1) (cwV 1 hts gX1_markOfGoats_X1_begin rfl rfl rfl ⟨rfl, ddX1_begin⟩ ⟨Nat.le_of_ble_eq_true rfl, Nat.le_of_ble_eq_true rfl⟩) hK hP hD hS hA [0, 1] [] rfl rfl rfl rfl (by decide) [0, 1] rfl rfl rfl rfl rfl rfl rfl hl.1 (Nat.le_of_ble_eq_true rfl) ⟨Nat.zero_le _, Nat.zero_le _⟩ dX1_markOfGoats_3 (fun H locs hP hD hS => ?_)
  refine lv_aload_n hx hb dX1_markOfGoats_6 rfl (lv_at hl 0 rfl) ?_
  obtain ⟨r_2, s_bodies_2, s_traced_2, hc_2, h⟩ := bd3_of h
  refine cl_mVi (As := []) (rest := []) (ws' := (W_Asks cI cZ q_s q_s_bodies s_bodies_2 s_traced_2 s_number s_kind s_purse s_home)) (wr := []) ⟨hx, hb, hml, hown, hts⟩ (m_X1_markLent l dC dI cI cZ q_s q_s_bodies s_bodies_1 s_traced_1 s_number s_kind s_purse s_home _ (r_2, s_bodies_2, s_traced_2) hc_2) (cwV 0 hts gX1_markOfGoats_X1_markLent rfl rfl rfl ⟨rfl, ddX1_markLent⟩ ⟨Nat.le_of_ble_eq_true rfl, Nat.le_of_ble_eq_true rfl⟩) hK hP hD hS hA [0, 1] [] rfl rfl rfl rfl (by decide) [0, 1] rfl rfl rfl rfl rfl rfl rfl hl.1 (Nat.le_of_ble_eq_true rfl) ⟨Nat.zero_le _, Nat.zero_le _⟩ dX1_markOfGoats_7 (fun H locs hP hD hS => ?_)
  refine lv_istore_n (lv' := [(1, .int r_2), (0, .ref q_s)]) hx hb dX1_markOfGoats_10 rfl hl (by decide) rfl (fun ls hl => ?_)
  refine lv_iload_n hx hb dX1_markOfGoats_11 rfl (lv_at hl 0 rfl) ?_
  refine lv_aload_n hx hb dX1_markOfGoats_12 rfl (lv_at hl 1 rfl) ?_
  obtain ⟨r_3, s_bodies_3, s_traced_3, hc_3, h⟩ := bd3_of h
  refine cl_mVi (As := []) (rest := [.int r_2]) (ws' := (W_Asks cI cZ q_s q_s_bodies s_bodies_3 s_traced_3 s_number s_kind s_purse s_home)) (wr := []) ⟨hx, hb, hml, hown, hts⟩ (m_X1_sizeAskedOfGoats l dC dI cI cZ q_s q_s_bodies s_bodies_2 s_traced_2 s_number s_kind s_purse s_home _ (r_3, s_bodies_3, s_traced_3) hc_3) (cwV 0 hts gX1_markOfGoats_X1_sizeAskedOfGoats rfl rfl rfl ⟨rfl, ddX1_sizeAskedOfGoats⟩ ⟨Nat.le_of_ble_eq_true rfl, Nat.le_of_ble_eq_true rfl⟩) hK hP hD hS hA [0, 1] [] rfl rfl rfl rfl (by decide) [0, 1] rfl rfl rfl rfl rfl rfl rfl hl.1 (Nat.le_of_ble_eq_true rfl) ⟨Nat.zero_le _, Nat.zero_le _⟩ dX1_markOfGoats_13 (fun H locs hP hD hS => ?_)
  refine lv_isub hx hb dX1_markOfGoats_16 ?_
  have h := Option.some.inj h
  subst h
  rw [hQQ]
  subst hAe
  exact W.iret (v := (r_2 - r_3)) hx hb hr (fun t ht hW => ⟨⟨_, (), rfl, rfl, by rw [ht]; exact hP, va_K.moved hW.alike hK, hD⟩, hS.F ht⟩) hS.2.2 dX1_markOfGoats_17
def fX1_markAsked (s_bodies : (Nat → Int32)) (s_traced : Int32) (s_number : Int32) (s_kind : Int32) (s_purse : Int32) (s_home : Int32) : Option (Int32 × (Nat → Int32) × Int32) :=
  bd1 (fX4_isA s_kind 4) (fun r_1 => (if r_1 = 0 then bd3 (fX1_markAskedOfBuyers s_bodies s_traced s_number s_kind s_home) (fun r_3 s_bodies_3 s_traced_3 => some (r_3, s_bodies_3, s_traced_3)) else bd3 (fX1_markOfGoats s_bodies s_traced s_number s_kind s_purse) (fun r_4 s_bodies_4 s_traced_4 => some (r_4, s_bodies_4, s_traced_4))))
abbrev rmX1_markAsked : Room := { frames := 5, cells := 0, slots := 0, locals := 102 }
theorem ddX1_markAsked : yX1_markAsked.cls ≠ "java/lang/invoke/MethodHandle" ∧ yX1_markAsked.cls ≠ "java/lang/invoke/VarHandle" ∧ (parseMethodDescriptor yX1_markAsked.desc).map (fun d => d.parameters.length) = some 0 := by decide +kernel
set_option maxHeartbeats 4000000 in
set_option maxRecDepth 100000 in
theorem m_X1_markAsked (l : Launch) (dC : Nat → ClassId) (dI : Nat → Nat → Nat) (cI cZ : ClassId) (q_s q_s_bodies : Nat) (s_bodies : (Nat → Int32)) (s_traced : Int32) (s_number : Int32) (s_kind : Int32) (s_purse : Int32) (s_home : Int32) (sz : Nat) (res : Int32 × (Nat → Int32) × Int32) (hf : fX1_markAsked s_bodies s_traced s_number s_kind s_purse s_home = some res) : Met l yX1_markAsked wsX1_markAsked rmX1_markAsked (mtPc (dC, dI) (tyZ cI cZ) ((W_Asks cI cZ q_s q_s_bodies s_bodies s_traced s_number s_kind s_purse s_home)) [.ref q_s] sz) (mtQi (dC, dI) (tyZ cI cZ) ((W_Asks cI cZ q_s q_s_bodies s_bodies s_traced s_number s_kind s_purse s_home)) ((W_Asks cI cZ q_s q_s_bodies res.2.1 res.2.2 s_number s_kind s_purse s_home)) res.1 sz) 0 0 (va_A ((W_Asks cI cZ q_s q_s_bodies s_bodies s_traced s_number s_kind s_purse s_home)) sz) := by
  refine Met.ofW (cc := cX1_markAsked) (maxL := 1) (ret := (some .int)) (by decide) rfl ?_
  intro p e s m args below meth c s₁ B hml hv
  obtain ⟨rfl, hsz, hP, hK, hD0⟩ := hv
  have hx := B.exec
  have hb := B.bytes
  have hr := B.returns
  have hts := atoms_spec (ws := wsX1_markAsked) B.pre
  have hown : s.vm.findClass RX1 = some m.cls := findClass_of_methodNamed B.named
  have hlocks := B.notSynchronized
  subst hsz
  have hD := hD0.self (sz := s.heap.size)
  obtain ⟨A, hAe⟩ : ∃ A, A = va_A ((W_Asks cI cZ q_s q_s_bodies s_bodies s_traced s_number s_kind s_purse s_home)) s.heap.size := ⟨_, rfl⟩
  rw [← hAe] at hD
  have hA : ∀ q : Nat, s.heap.size ≤ q → A q := fun q h => by rw [hAe]; exact Or.inr h
  have hS : va_S A s.heap s.heap [] := va_S.rf
  have hl := lv_entry ([.ref q_s]) (n := 1) (Nat.le_of_ble_eq_true rfl)
  rw [lg_entry_eq]
  generalize (lg_sl ([.ref q_s]) ++ List.replicate (1 - (lg_sl ([.ref q_s])).length) Slot.unset).toArray = ls at hl ⊢
  have hl : lv_has ls 1 [(0, .ref q_s)] := hl
  obtain ⟨QQ, hQQ⟩ : ∃ Q, Q = MQ below (mtQi (dC, dI) (tyZ cI cZ) ((W_Asks cI cZ q_s q_s_bodies s_bodies s_traced s_number s_kind s_purse s_home)) ((W_Asks cI cZ q_s q_s_bodies res.2.1 res.2.2 s_number s_kind s_purse s_home)) res.1 s.heap.size) ([.ref q_s] : List Value).toArray s 0 0 (va_A ((W_Asks cI cZ q_s q_s_bodies s_bodies s_traced s_number s_kind s_purse s_home)) s.heap.size) := ⟨_, rfl⟩
  rw [← hQQ]
  have w_0 := hts (Cond.fieldLink RX1 26 "TideInches$Asks" "kind" "I") (List.mem_of_getElem? (i := 1) rfl)
  have w_1 := (fun w hw => List.mem_cons_of_mem _ (List.mem_append_right _ hw) : ∀ w ∈ wsX10, w ∈ wsX1_markAsked)
  have h := hf
  unfold fX1_markAsked at h
  refine lv_aload_n hx hb dX1_markAsked_0 rfl (lv_at hl 0 rfl) ?_
  refine va_get (D := (dC, dI)) (ci := 1) (v := .int s_kind) (C := RX1) (T := TX1) (N := 6) hx hb hts w_1 hown hK hP 0 rfl rfl 3 (by decide) w_0 (fun _ h9 => h9) rfl dX1_markAsked_1 ?_
  refine lv_iconst (v := 4) hx hb dX1_markAsked_4 (by decide) ?_
  obtain ⟨r_1, hc_1, h⟩ := bd1_of h
  refine cl_pS (As := [.int s_kind, .int 4]) (rest := []) ⟨hx, hb, hml, hown, hts⟩ (m_X4_isA l s_kind 4 (r_1) hc_1) (va_cwS 2 hts gX1_markAsked_X4_isA rfl rfl rfl ddX4_isA ⟨Nat.le_of_ble_eq_true rfl, Nat.le_of_ble_eq_true rfl⟩) rfl rfl hl.1 (Nat.le_of_ble_eq_true rfl) ⟨Nat.zero_le _, Nat.zero_le _⟩ dX1_markAsked_5 ?_
  refine lv_if_eq (tgt := 18) hx hb dX1_markAsked_8 (by decide) (fun c_2 => ?_) (fun c_2 => ?_)
  · have h := (if_pos c_2).symm.trans h
    refine lv_aload_n hx hb dX1_markAsked_18 rfl (lv_at hl 0 rfl) ?_
    obtain ⟨r_3, s_bodies_3, s_traced_3, hc_3, h⟩ := bd3_of h
    refine cl_mVi (As := []) (rest := []) (ws' := (W_Asks cI cZ q_s q_s_bodies s_bodies_3 s_traced_3 s_number s_kind s_purse s_home)) (wr := []) ⟨hx, hb, hml, hown, hts⟩ (m_X1_markAskedOfBuyers l dC dI cI cZ q_s q_s_bodies s_bodies s_traced s_number s_kind s_purse s_home _ (r_3, s_bodies_3, s_traced_3) hc_3) (cwV 0 hts gX1_markAsked_X1_markAskedOfBuyers rfl rfl rfl ⟨rfl, ddX1_markAskedOfBuyers⟩ ⟨Nat.le_of_ble_eq_true rfl, Nat.le_of_ble_eq_true rfl⟩) hK hP hD hS hA [0, 1] [] rfl rfl rfl rfl (by decide) [0, 1] rfl rfl rfl rfl rfl rfl rfl hl.1 (Nat.le_of_ble_eq_true rfl) ⟨Nat.zero_le _, Nat.zero_le _⟩ dX1_markAsked_19 (fun H locs hP hD hS => ?_)
    have h := Option.some.inj h
    subst h
    rw [hQQ]
    subst hAe
    exact W.iret (v := r_3) hx hb hr (fun t ht hW => ⟨⟨_, (), rfl, rfl, by rw [ht]; exact hP, va_K.moved hW.alike hK, hD⟩, hS.F ht⟩) hS.2.2 dX1_markAsked_22
  · have h := (if_neg c_2).symm.trans h
    refine lv_aload_n hx hb dX1_markAsked_11 rfl (lv_at hl 0 rfl) ?_
    obtain ⟨r_4, s_bodies_4, s_traced_4, hc_4, h⟩ := bd3_of h
    refine cl_mVi (As := []) (rest := []) (ws' := (W_Asks cI cZ q_s q_s_bodies s_bodies_4 s_traced_4 s_number s_kind s_purse s_home)) (wr := []) ⟨hx, hb, hml, hown, hts⟩ (m_X1_markOfGoats l dC dI cI cZ q_s q_s_bodies s_bodies s_traced s_number s_kind s_purse s_home _ (r_4, s_bodies_4, s_traced_4) hc_4) (cwV 0 hts gX1_markAsked_X1_markOfGoats rfl rfl rfl ⟨rfl, ddX1_markOfGoats⟩ ⟨Nat.le_of_ble_eq_true rfl, Nat.le_of_ble_eq_true rfl⟩) hK hP hD hS hA [0, 1] [] rfl rfl rfl rfl (by decide) [0, 1] rfl rfl rfl rfl rfl rfl rfl hl.1 (Nat.le_of_ble_eq_true rfl) ⟨Nat.zero_le _, Nat.zero_le _⟩ dX1_markAsked_12 (fun H locs hP hD hS => ?_)
    refine lv_goto (tgt := 22) hx hb dX1_markAsked_15 (by decide) ?_
    have h := Option.some.inj h
    subst h
    rw [hQQ]
    subst hAe
    exact W.iret (v := r_4) hx hb hr (fun t ht hW => ⟨⟨_, (), rfl, rfl, by rw [ht]; exact hP, va_K.moved hW.alike hK, hD⟩, hS.F ht⟩) hS.2.2 dX1_markAsked_22









def fX2_heights (s_most : (Nat → Int32)) (s_best : Int32) : Option (Int32) :=
  chk (¬ (s_best < 0 ∨ 100 ≤ s_best.toNatClampNeg)) (some ((s_most s_best.toNatClampNeg)))
abbrev rmX2_heights : Room := { frames := 0, cells := 0, slots := 0, locals := 0 }
theorem ddX2_heights : yX2_heights.cls ≠ "java/lang/invoke/MethodHandle" ∧ yX2_heights.cls ≠ "java/lang/invoke/VarHandle" ∧ (parseMethodDescriptor yX2_heights.desc).map (fun d => d.parameters.length) = some 0 := by decide +kernel
set_option maxHeartbeats 4000000 in
set_option maxRecDepth 100000 in
theorem m_X2_heights (l : Launch) (dC : Nat → ClassId) (dI : Nat → Nat → Nat) (cI cZ : ClassId) (q_s q_s_most q_s_which : Nat) (s_most : (Nat → Int32)) (s_which : (Nat → Int32)) (s_best : Int32) (res : Int32) (hf : fX2_heights s_most s_best = some res) : Met l yX2_heights wsX2_heights rmX2_heights (rdPc (dC, dI) (tyZ cI cZ) ((W_Basket cI cZ q_s q_s_most q_s_which s_most s_which s_best)) [.ref q_s]) (rdQ res) 0 0 (fun _ => False) := by
  refine Met.ofW (cc := cX2_heights) (maxL := 1) (ret := (some .int)) (by decide) rfl ?_
  intro p e s m args below meth c s₁ B hml hv
  obtain ⟨rfl, hP, hK⟩ := hv
  have hx := B.exec
  have hb := B.bytes
  have hr := B.returns
  have hts := atoms_spec (ws := wsX2_heights) B.pre
  have hown : s.vm.findClass RX2 = some m.cls := findClass_of_methodNamed B.named
  have hlocks := B.notSynchronized
  have hl := lv_entry ([.ref q_s]) (n := 1) (Nat.le_of_ble_eq_true rfl)
  rw [lg_entry_eq]
  generalize (lg_sl ([.ref q_s]) ++ List.replicate (1 - (lg_sl ([.ref q_s])).length) Slot.unset).toArray = ls at hl ⊢
  have hl : lv_has ls 1 [(0, .ref q_s)] := hl
  obtain ⟨QQ, hQQ⟩ : ∃ Q, Q = MQ below (rdQ res) ([.ref q_s] : List Value).toArray s 0 0 (fun _ => False) := ⟨_, rfl⟩
  rw [← hQQ]
  have w_0 := hts (Cond.fieldLink RX2 9 "TideInches$Basket" "most" "[I") (List.mem_of_getElem? (i := 1) rfl)
  have w_1 := (fun w hw => List.mem_cons_of_mem _ (List.mem_append_right _ hw) : ∀ w ∈ wsX20, w ∈ wsX2_heights)
  have w_2 := hts (Cond.fieldLink RX2 18 "TideInches$Basket" "best" "I") (List.mem_of_getElem? (i := 2) rfl)
  have h := hf
  unfold fX2_heights at h
  refine lv_aload_n hx hb dX2_heights_0 rfl (lv_at hl 0 rfl) ?_
  refine va_get (D := (dC, dI)) (ci := 2) (v := .ref q_s_most) (C := RX2) (T := TX2) (N := 3) hx hb hts w_1 hown hK hP 0 rfl rfl 0 (by decide) w_0 (fun _ h9 => h9) rfl dX2_heights_1 ?_
  refine lv_aload_n hx hb dX2_heights_4 rfl (lv_at hl 0 rfl) ?_
  refine va_get (D := (dC, dI)) (ci := 2) (v := .int s_best) (C := RX2) (T := TX2) (N := 3) hx hb hts w_1 hown hK hP 0 rfl rfl 2 (by decide) w_2 (fun _ h9 => h9) rfl dX2_heights_5 ?_
  obtain ⟨b_1, h⟩ := chk_of h
  refine va_iald hx hb hK hP 1 0 rfl rfl (i := s_best) b_1 dX2_heights_8 ?_
  rw [hQQ]
  exact W.iret (v := (s_most s_best.toNatClampNeg)) hx hb hr (fun t ht hW => ⟨_, rfl, Option.some.inj h, ht⟩) (fun q hq => by cases hq) dX2_heights_9
def fX2_cells (s_which : (Nat → Int32)) (s_best : Int32) : Option (Int32) :=
  chk (¬ (s_best < 0 ∨ 100 ≤ s_best.toNatClampNeg)) (some ((s_which s_best.toNatClampNeg)))
abbrev rmX2_cells : Room := { frames := 0, cells := 0, slots := 0, locals := 0 }
theorem ddX2_cells : yX2_cells.cls ≠ "java/lang/invoke/MethodHandle" ∧ yX2_cells.cls ≠ "java/lang/invoke/VarHandle" ∧ (parseMethodDescriptor yX2_cells.desc).map (fun d => d.parameters.length) = some 0 := by decide +kernel
set_option maxHeartbeats 4000000 in
set_option maxRecDepth 100000 in
theorem m_X2_cells (l : Launch) (dC : Nat → ClassId) (dI : Nat → Nat → Nat) (cI cZ : ClassId) (q_s q_s_most q_s_which : Nat) (s_most : (Nat → Int32)) (s_which : (Nat → Int32)) (s_best : Int32) (res : Int32) (hf : fX2_cells s_which s_best = some res) : Met l yX2_cells wsX2_cells rmX2_cells (rdPc (dC, dI) (tyZ cI cZ) ((W_Basket cI cZ q_s q_s_most q_s_which s_most s_which s_best)) [.ref q_s]) (rdQ res) 0 0 (fun _ => False) := by
  refine Met.ofW (cc := cX2_cells) (maxL := 1) (ret := (some .int)) (by decide) rfl ?_
  intro p e s m args below meth c s₁ B hml hv
  obtain ⟨rfl, hP, hK⟩ := hv
  have hx := B.exec
  have hb := B.bytes
  have hr := B.returns
  have hts := atoms_spec (ws := wsX2_cells) B.pre
  have hown : s.vm.findClass RX2 = some m.cls := findClass_of_methodNamed B.named
  have hlocks := B.notSynchronized
  have hl := lv_entry ([.ref q_s]) (n := 1) (Nat.le_of_ble_eq_true rfl)
  rw [lg_entry_eq]
  generalize (lg_sl ([.ref q_s]) ++ List.replicate (1 - (lg_sl ([.ref q_s])).length) Slot.unset).toArray = ls at hl ⊢
  have hl : lv_has ls 1 [(0, .ref q_s)] := hl
  obtain ⟨QQ, hQQ⟩ : ∃ Q, Q = MQ below (rdQ res) ([.ref q_s] : List Value).toArray s 0 0 (fun _ => False) := ⟨_, rfl⟩
  rw [← hQQ]
  have w_0 := hts (Cond.fieldLink RX2 15 "TideInches$Basket" "which" "[I") (List.mem_of_getElem? (i := 1) rfl)
  have w_1 := (fun w hw => List.mem_cons_of_mem _ (List.mem_append_right _ hw) : ∀ w ∈ wsX20, w ∈ wsX2_cells)
  have w_2 := hts (Cond.fieldLink RX2 18 "TideInches$Basket" "best" "I") (List.mem_of_getElem? (i := 2) rfl)
  have h := hf
  unfold fX2_cells at h
  refine lv_aload_n hx hb dX2_cells_0 rfl (lv_at hl 0 rfl) ?_
  refine va_get (D := (dC, dI)) (ci := 2) (v := .ref q_s_which) (C := RX2) (T := TX2) (N := 3) hx hb hts w_1 hown hK hP 0 rfl rfl 1 (by decide) w_0 (fun _ h9 => h9) rfl dX2_cells_1 ?_
  refine lv_aload_n hx hb dX2_cells_4 rfl (lv_at hl 0 rfl) ?_
  refine va_get (D := (dC, dI)) (ci := 2) (v := .int s_best) (C := RX2) (T := TX2) (N := 3) hx hb hts w_1 hown hK hP 0 rfl rfl 2 (by decide) w_2 (fun _ h9 => h9) rfl dX2_cells_5 ?_
  obtain ⟨b_1, h⟩ := chk_of h
  refine va_iald hx hb hK hP 2 0 rfl rfl (i := s_best) b_1 dX2_cells_8 ?_
  rw [hQQ]
  exact W.iret (v := (s_which s_best.toNatClampNeg)) hx hb hr (fun t ht hW => ⟨_, rfl, Option.some.inj h, ht⟩) (fun q hq => by cases hq) dX2_cells_9
def fX2_offer_L4 (v1 : Int32) (v2 : Int32) (v3 : Int32) : Nat → Int32 → (Nat → Int32) → (Nat → Int32) → Option ((Nat → Int32) × (Nat → Int32))
  | 0, _, _, _ => none
  | n + 1, v5_h4, s_most_h4, s_which_h4 => (if v5_h4 < v2 then some (s_most_h4, s_which_h4) else (if v2 < 0 then some (s_most_h4, s_which_h4) else chk (¬ ((v5_h4 - v2) < 0 ∨ 100 ≤ (v5_h4 - v2).toNatClampNeg)) ((if (s_most_h4 (v5_h4 - v2).toNatClampNeg) < 0 then ((fX2_offer_L4 v1 v2 v3 n) (v5_h4 + (-1)) s_most_h4 s_which_h4) else chk (¬ ((v5_h4 - v2) < 0 ∨ 100 ≤ (v5_h4 - v2).toNatClampNeg)) (chk (¬ (v5_h4 < 0 ∨ 100 ≤ v5_h4.toNatClampNeg)) ((if ((s_most_h4 (v5_h4 - v2).toNatClampNeg) + v3) ≤ (s_most_h4 v5_h4.toNatClampNeg) then ((fX2_offer_L4 v1 v2 v3 n) (v5_h4 + (-1)) s_most_h4 s_which_h4) else chk (¬ ((v5_h4 - v2) < 0 ∨ 100 ≤ (v5_h4 - v2).toNatClampNeg)) (chk (¬ (v5_h4 < 0 ∨ 100 ≤ v5_h4.toNatClampNeg)) (chk (¬ ((v5_h4 - v2) < 0 ∨ 100 ≤ (v5_h4 - v2).toNatClampNeg)) (chk (¬ (v5_h4 < 0 ∨ 100 ≤ v5_h4.toNatClampNeg)) (((fX2_offer_L4 v1 v2 v3 n) (v5_h4 + (-1)) (upd s_most_h4 v5_h4.toNatClampNeg ((s_most_h4 (v5_h4 - v2).toNatClampNeg) + v3)) (upd s_which_h4 v5_h4.toNatClampNeg ((s_which_h4 (v5_h4 - v2).toNatClampNeg) ||| v1))))))))))))))
def fX2_offer (s_most : (Nat → Int32)) (s_which : (Nat → Int32)) (v1 : Int32) (v2 : Int32) (v3 : Int32) (v4 : Int32) : Option ((Nat → Int32) × (Nat → Int32)) :=
  (fX2_offer_L4 v1 v2 v3 FU v4 s_most s_which)
abbrev rmX2_offer : Room := { frames := 0, cells := 0, slots := 0, locals := 0 }
theorem ddX2_offer : yX2_offer.cls ≠ "java/lang/invoke/MethodHandle" ∧ yX2_offer.cls ≠ "java/lang/invoke/VarHandle" ∧ (parseMethodDescriptor yX2_offer.desc).map (fun d => d.parameters.length) = some 4 := by decide +kernel
set_option maxHeartbeats 4000000 in
set_option maxRecDepth 100000 in
theorem m_X2_offer (l : Launch) (dC : Nat → ClassId) (dI : Nat → Nat → Nat) (cI cZ : ClassId) (q_s q_s_most q_s_which : Nat) (s_most : (Nat → Int32)) (s_which : (Nat → Int32)) (s_best : Int32) (v1 : Int32) (v2 : Int32) (v3 : Int32) (v4 : Int32) (sz : Nat) (res : (Nat → Int32) × (Nat → Int32)) (hf : fX2_offer s_most s_which v1 v2 v3 v4 = some res) : Met l yX2_offer wsX2_offer rmX2_offer (mtPc (dC, dI) (tyZ cI cZ) ((W_Basket cI cZ q_s q_s_most q_s_which s_most s_which s_best)) [.ref q_s, .int v1, .int v2, .int v3, .int v4] sz) (mtQv (dC, dI) (tyZ cI cZ) ((W_Basket cI cZ q_s q_s_most q_s_which s_most s_which s_best)) ((W_Basket cI cZ q_s q_s_most q_s_which res.1 res.2 s_best)) sz) 0 0 (va_A ((W_Basket cI cZ q_s q_s_most q_s_which s_most s_which s_best)) sz) := by
  refine Met.ofW (cc := cX2_offer) (maxL := 7) (ret := none) (by decide) rfl ?_
  intro p e s m args below meth c s₁ B hml hv
  obtain ⟨rfl, hsz, hP, hK, hD0⟩ := hv
  have hx := B.exec
  have hb := B.bytes
  have hr := B.returns
  have hts := atoms_spec (ws := wsX2_offer) B.pre
  have hown : s.vm.findClass RX2 = some m.cls := findClass_of_methodNamed B.named
  have hlocks := B.notSynchronized
  subst hsz
  have hD := hD0.self (sz := s.heap.size)
  obtain ⟨A, hAe⟩ : ∃ A, A = va_A ((W_Basket cI cZ q_s q_s_most q_s_which s_most s_which s_best)) s.heap.size := ⟨_, rfl⟩
  rw [← hAe] at hD
  have hA : ∀ q : Nat, s.heap.size ≤ q → A q := fun q h => by rw [hAe]; exact Or.inr h
  have hS : va_S A s.heap s.heap [] := va_S.rf
  have hl := lv_entry ([.ref q_s, .int v1, .int v2, .int v3, .int v4]) (n := 7) (Nat.le_of_ble_eq_true rfl)
  rw [lg_entry_eq]
  generalize (lg_sl ([.ref q_s, .int v1, .int v2, .int v3, .int v4]) ++ List.replicate (7 - (lg_sl ([.ref q_s, .int v1, .int v2, .int v3, .int v4])).length) Slot.unset).toArray = ls at hl ⊢
  have hl : lv_has ls 7 [(0, .ref q_s), (1, .int v1), (2, .int v2), (3, .int v3), (4, .int v4)] := hl
  obtain ⟨QQ, hQQ⟩ : ∃ Q, Q = MQ below (mtQv (dC, dI) (tyZ cI cZ) ((W_Basket cI cZ q_s q_s_most q_s_which s_most s_which s_best)) ((W_Basket cI cZ q_s q_s_most q_s_which res.1 res.2 s_best)) s.heap.size) ([.ref q_s, .int v1, .int v2, .int v3, .int v4] : List Value).toArray s 0 0 (va_A ((W_Basket cI cZ q_s q_s_most q_s_which s_most s_which s_best)) s.heap.size) := ⟨_, rfl⟩
  rw [← hQQ]
  have w_0 := hts (Cond.fieldLink RX2 9 "TideInches$Basket" "most" "[I") (List.mem_of_getElem? (i := 1) rfl)
  have w_1 := (fun w hw => List.mem_cons_of_mem _ (List.mem_append_right _ hw) : ∀ w ∈ wsX20, w ∈ wsX2_offer)
  have w_2 := hts (Cond.fieldLink RX2 15 "TideInches$Basket" "which" "[I") (List.mem_of_getElem? (i := 2) rfl)
  have h := hf
  unfold fX2_offer at h
  refine lv_iload hx hb dX2_offer_0 (lv_at hl 4 rfl) ?_
  refine lv_istore (lv' := [(5, .int v4), (0, .ref q_s), (1, .int v1), (2, .int v2), (3, .int v3), (4, .int v4)]) hx hb dX2_offer_2 hl (by decide) rfl (fun ls hl => ?_)
  have KL4 : ∀ (n : Nat) (v5_h4 : Int32) (s_most_h4 : (Nat → Int32)) (s_which_h4 : (Nat → Int32)) (H : Heap) (locs : List Loc) (ls : Array Slot), va_P (dC, dI) vwCl ((W_Basket cI cZ q_s q_s_most q_s_which s_most_h4 s_which_h4 s_best)) H → va_D A ((W_Basket cI cZ q_s q_s_most q_s_which s_most_h4 s_which_h4 s_best)) → va_S A s.heap H locs → lv_has ls 7 [(0, .ref q_s), (1, .int v1), (2, .int v2), (3, .int v3), (5, .int v5_h4)] → fX2_offer_L4 v1 v2 v3 n v5_h4 s_most_h4 s_which_h4 = some res → W p l e (headSpec wsX2_offer rmX2_offer).room s m ([.ref q_s, .int v1, .int v2, .int v3, .int v4] : List Value).toArray below meth c H locs 0 0 QQ (F0 m 4 ls []) := by
    intro  n
    induction n with
    | zero => intro v5_h4 s_most_h4 s_which_h4 H locs ls hP hD hS hl h; rw [fX2_offer_L4.eq_1] at h; cases h
    | succ n ih =>
      intro v5_h4 s_most_h4 s_which_h4 H locs ls hP hD hS hl h
      rw [fX2_offer_L4.eq_2] at h
      refine lv_iload hx hb dX2_offer_4 (lv_at hl 4 rfl) ?_
      refine lv_iload_n hx hb dX2_offer_6 rfl (lv_at hl 2 rfl) ?_
      refine lv_icmp_lt (tgt := 87) hx hb dX2_offer_7 (by decide) (fun c_1 => ?_) (fun c_1 => ?_)
      · have h := (if_pos c_1).symm.trans h
        have h := Option.some.inj h
        subst h
        rw [hQQ]
        subst hAe
        exact W.vret hx hb hr (fun t ht hW => ⟨⟨(), rfl, trivial, by rw [ht]; exact hP, va_K.moved hW.alike hK, hD⟩, hS.F ht⟩) hS.2.2 dX2_offer_87
      · have h := (if_neg c_1).symm.trans h
        refine lv_iload_n hx hb dX2_offer_10 rfl (lv_at hl 2 rfl) ?_
        refine lv_if_lt (tgt := 87) hx hb dX2_offer_11 (by decide) (fun c_2 => ?_) (fun c_2 => ?_)
        · have h := (if_pos c_2).symm.trans h
          have h := Option.some.inj h
          subst h
          rw [hQQ]
          subst hAe
          exact W.vret hx hb hr (fun t ht hW => ⟨⟨(), rfl, trivial, by rw [ht]; exact hP, va_K.moved hW.alike hK, hD⟩, hS.F ht⟩) hS.2.2 dX2_offer_87
        · have h := (if_neg c_2).symm.trans h
          refine lv_iload hx hb dX2_offer_14 (lv_at hl 4 rfl) ?_
          refine lv_iload_n hx hb dX2_offer_16 rfl (lv_at hl 2 rfl) ?_
          refine lv_isub hx hb dX2_offer_17 ?_
          refine lv_istore (lv' := [(6, .int (v5_h4 - v2)), (0, .ref q_s), (1, .int v1), (2, .int v2), (3, .int v3), (5, .int v5_h4)]) hx hb dX2_offer_18 hl (by decide) rfl (fun ls hl => ?_)
          refine lv_aload_n hx hb dX2_offer_20 rfl (lv_at hl 1 rfl) ?_
          refine va_get (D := (dC, dI)) (ci := 2) (v := .ref q_s_most) (C := RX2) (T := TX2) (N := 3) hx hb hts w_1 hown hK hP 0 rfl rfl 0 (by decide) w_0 (fun _ h9 => h9) rfl dX2_offer_21 ?_
          refine lv_iload hx hb dX2_offer_24 (lv_at hl 0 rfl) ?_
          obtain ⟨b_3, h⟩ := chk_of h
          refine va_iald hx hb hK hP 1 0 rfl rfl (i := (v5_h4 - v2)) b_3 dX2_offer_26 ?_
          refine lv_if_lt (tgt := 81) hx hb dX2_offer_27 (by decide) (fun c_4 => ?_) (fun c_4 => ?_)
          · have h := (if_pos c_4).symm.trans h
            refine lv_iinc (v := (v5_h4 + (-1))) (lv' := [(5, .int (v5_h4 + (-1))), (6, .int (v5_h4 - v2)), (0, .ref q_s), (1, .int v1), (2, .int v2), (3, .int v3)]) hx hb dX2_offer_81 hl (k := 5) rfl rfl (by decide) rfl (fun ls hl => ?_)
            refine lv_goto (tgt := 4) hx hb dX2_offer_84 (by decide) ?_
            exact ih (v5_h4 + (-1)) s_most_h4 s_which_h4 _ _ _ hP hD hS (lv_sub hl [2, 3, 4, 5, 0] rfl) h
          · have h := (if_neg c_4).symm.trans h
            refine lv_aload_n hx hb dX2_offer_30 rfl (lv_at hl 1 rfl) ?_
            refine va_get (D := (dC, dI)) (ci := 2) (v := .ref q_s_most) (C := RX2) (T := TX2) (N := 3) hx hb hts w_1 hown hK hP 0 rfl rfl 0 (by decide) w_0 (fun _ h9 => h9) rfl dX2_offer_31 ?_
            refine lv_iload hx hb dX2_offer_34 (lv_at hl 0 rfl) ?_
            obtain ⟨b_5, h⟩ := chk_of h
            refine va_iald hx hb hK hP 1 0 rfl rfl (i := (v5_h4 - v2)) b_5 dX2_offer_36 ?_
            refine lv_iload_n hx hb dX2_offer_37 rfl (lv_at hl 4 rfl) ?_
            refine lv_iadd hx hb dX2_offer_38 ?_
            refine lv_aload_n hx hb dX2_offer_39 rfl (lv_at hl 1 rfl) ?_
            refine va_get (D := (dC, dI)) (ci := 2) (v := .ref q_s_most) (C := RX2) (T := TX2) (N := 3) hx hb hts w_1 hown hK hP 0 rfl rfl 0 (by decide) w_0 (fun _ h9 => h9) rfl dX2_offer_40 ?_
            refine lv_iload hx hb dX2_offer_43 (lv_at hl 5 rfl) ?_
            obtain ⟨b_6, h⟩ := chk_of h
            refine va_iald hx hb hK hP 1 0 rfl rfl (i := v5_h4) b_6 dX2_offer_45 ?_
            refine lv_icmp_le (tgt := 81) hx hb dX2_offer_46 (by decide) (fun c_7 => ?_) (fun c_7 => ?_)
            · have h := (if_pos c_7).symm.trans h
              refine lv_iinc (v := (v5_h4 + (-1))) (lv' := [(5, .int (v5_h4 + (-1))), (6, .int (v5_h4 - v2)), (0, .ref q_s), (1, .int v1), (2, .int v2), (3, .int v3)]) hx hb dX2_offer_81 hl (k := 5) rfl rfl (by decide) rfl (fun ls hl => ?_)
              refine lv_goto (tgt := 4) hx hb dX2_offer_84 (by decide) ?_
              exact ih (v5_h4 + (-1)) s_most_h4 s_which_h4 _ _ _ hP hD hS (lv_sub hl [2, 3, 4, 5, 0] rfl) h
            · have h := (if_neg c_7).symm.trans h
              refine lv_aload_n hx hb dX2_offer_49 rfl (lv_at hl 1 rfl) ?_
              refine va_get (D := (dC, dI)) (ci := 2) (v := .ref q_s_most) (C := RX2) (T := TX2) (N := 3) hx hb hts w_1 hown hK hP 0 rfl rfl 0 (by decide) w_0 (fun _ h9 => h9) rfl dX2_offer_50 ?_
              refine lv_iload hx hb dX2_offer_53 (lv_at hl 5 rfl) ?_
              refine lv_aload_n hx hb dX2_offer_55 rfl (lv_at hl 1 rfl) ?_
              refine va_get (D := (dC, dI)) (ci := 2) (v := .ref q_s_most) (C := RX2) (T := TX2) (N := 3) hx hb hts w_1 hown hK hP 0 rfl rfl 0 (by decide) w_0 (fun _ h9 => h9) rfl dX2_offer_56 ?_
              refine lv_iload hx hb dX2_offer_59 (lv_at hl 0 rfl) ?_
              obtain ⟨b_8, h⟩ := chk_of h
              refine va_iald hx hb hK hP 1 0 rfl rfl (i := (v5_h4 - v2)) b_8 dX2_offer_61 ?_
              refine lv_iload_n hx hb dX2_offer_62 rfl (lv_at hl 4 rfl) ?_
              refine lv_iadd hx hb dX2_offer_63 ?_
              obtain ⟨b_9, h⟩ := chk_of h
              refine va_iast hx hb hK hP hD hS 1 0 rfl rfl (i := v5_h4) (x := ((s_most_h4 (v5_h4 - v2).toNatClampNeg) + v3)) b_9 dX2_offer_64 (fun H locs hP hD hS => ?_)
              have hP : va_P (dC, dI) vwCl ((W_Basket cI cZ q_s q_s_most q_s_which (upd s_most_h4 v5_h4.toNatClampNeg ((s_most_h4 (v5_h4 - v2).toNatClampNeg) + v3)) s_which_h4 s_best)) H := hP
              have hD : va_D A ((W_Basket cI cZ q_s q_s_most q_s_which (upd s_most_h4 v5_h4.toNatClampNeg ((s_most_h4 (v5_h4 - v2).toNatClampNeg) + v3)) s_which_h4 s_best)) := hD
              refine lv_aload_n hx hb dX2_offer_65 rfl (lv_at hl 1 rfl) ?_
              refine va_get (D := (dC, dI)) (ci := 2) (v := .ref q_s_which) (C := RX2) (T := TX2) (N := 3) hx hb hts w_1 hown hK hP 0 rfl rfl 1 (by decide) w_2 (fun _ h9 => h9) rfl dX2_offer_66 ?_
              refine lv_iload hx hb dX2_offer_69 (lv_at hl 5 rfl) ?_
              refine lv_aload_n hx hb dX2_offer_71 rfl (lv_at hl 1 rfl) ?_
              refine va_get (D := (dC, dI)) (ci := 2) (v := .ref q_s_which) (C := RX2) (T := TX2) (N := 3) hx hb hts w_1 hown hK hP 0 rfl rfl 1 (by decide) w_2 (fun _ h9 => h9) rfl dX2_offer_72 ?_
              refine lv_iload hx hb dX2_offer_75 (lv_at hl 0 rfl) ?_
              obtain ⟨b_10, h⟩ := chk_of h
              refine va_iald hx hb hK hP 2 0 rfl rfl (i := (v5_h4 - v2)) b_10 dX2_offer_77 ?_
              refine lv_iload_n hx hb dX2_offer_78 rfl (lv_at hl 2 rfl) ?_
              refine lv_ior hx hb dX2_offer_79 ?_
              obtain ⟨b_11, h⟩ := chk_of h
              refine va_iast hx hb hK hP hD hS 2 0 rfl rfl (i := v5_h4) (x := ((s_which_h4 (v5_h4 - v2).toNatClampNeg) ||| v1)) b_11 dX2_offer_80 (fun H locs hP hD hS => ?_)
              have hP : va_P (dC, dI) vwCl ((W_Basket cI cZ q_s q_s_most q_s_which (upd s_most_h4 v5_h4.toNatClampNeg ((s_most_h4 (v5_h4 - v2).toNatClampNeg) + v3)) (upd s_which_h4 v5_h4.toNatClampNeg ((s_which_h4 (v5_h4 - v2).toNatClampNeg) ||| v1)) s_best)) H := hP
              have hD : va_D A ((W_Basket cI cZ q_s q_s_most q_s_which (upd s_most_h4 v5_h4.toNatClampNeg ((s_most_h4 (v5_h4 - v2).toNatClampNeg) + v3)) (upd s_which_h4 v5_h4.toNatClampNeg ((s_which_h4 (v5_h4 - v2).toNatClampNeg) ||| v1)) s_best)) := hD
              refine lv_iinc (v := (v5_h4 + (-1))) (lv' := [(5, .int (v5_h4 + (-1))), (6, .int (v5_h4 - v2)), (0, .ref q_s), (1, .int v1), (2, .int v2), (3, .int v3)]) hx hb dX2_offer_81 hl (k := 5) rfl rfl (by decide) rfl (fun ls hl => ?_)
              refine lv_goto (tgt := 4) hx hb dX2_offer_84 (by decide) ?_
              exact ih (v5_h4 + (-1)) (upd s_most_h4 v5_h4.toNatClampNeg ((s_most_h4 (v5_h4 - v2).toNatClampNeg) + v3)) (upd s_which_h4 v5_h4.toNatClampNeg ((s_which_h4 (v5_h4 - v2).toNatClampNeg) ||| v1)) _ _ _ hP hD hS (lv_sub hl [2, 3, 4, 5, 0] rfl) h
  exact KL4 FU v4 s_most s_which _ _ _ hP hD hS (lv_sub hl [1, 2, 3, 4, 0] rfl) h
def fX2_fill_L18 (k18_56 : (Nat → Int32) → (Nat → Int32) → Option ((Nat → Int32) × (Nat → Int32) × Int32)) : Nat → Int32 → (Nat → Int32) → (Nat → Int32) → Option ((Nat → Int32) × (Nat → Int32) × Int32)
  | 0, _, _, _ => none
  | n + 1, v4_h18, s_most_h18, s_which_h18 => (if 99 < v4_h18 then (k18_56 s_most_h18 s_which_h18) else (if v4_h18 = 0 then chk (¬ (v4_h18 < 0 ∨ 100 ≤ v4_h18.toNatClampNeg)) (chk (¬ (v4_h18 < 0 ∨ 100 ≤ v4_h18.toNatClampNeg)) (((fX2_fill_L18 k18_56 n) (v4_h18 + 1) (upd s_most_h18 v4_h18.toNatClampNeg 0) (upd s_which_h18 v4_h18.toNatClampNeg 0)))) else chk (¬ (v4_h18 < 0 ∨ 100 ≤ v4_h18.toNatClampNeg)) (chk (¬ (v4_h18 < 0 ∨ 100 ≤ v4_h18.toNatClampNeg)) (((fX2_fill_L18 k18_56 n) (v4_h18 + 1) (upd s_most_h18 v4_h18.toNatClampNeg (-1)) (upd s_which_h18 v4_h18.toNatClampNeg 0))))))
def fX2_fill_L69 (o_price : Int32) (o_heights : (Nat → Int32)) (o_kinds : (Nat → Int32)) (v2 : Int32) (r_1 : Int32) (r_8 : Int32) (k69_130 : Int32 → (Nat → Int32) → (Nat → Int32) → Option ((Nat → Int32) × (Nat → Int32) × Int32)) : Nat → Int32 → Int32 → (Nat → Int32) → (Nat → Int32) → Option ((Nat → Int32) × (Nat → Int32) × Int32)
  | 0, _, _, _, _ => none
  | n + 1, v5_h69, v6_h69, s_most_h69, s_which_h69 => (if 15 ≤ v6_h69 then (k69_130 v5_h69 s_most_h69 s_which_h69) else (if (r_8 &&& (1 <<< (v6_h69 &&& 31))) = 0 then ((fX2_fill_L69 o_price o_heights o_kinds v2 r_1 r_8 k69_130 n) v5_h69 (v6_h69 + 1) s_most_h69 s_which_h69) else bd1 (fX3_costTo o_price o_heights o_kinds v2 v6_h69) (fun r_11 => bd1 (fX3_height o_heights v6_h69) (fun r_12 => bd2 (fX2_offer s_most_h69 s_which_h69 (1 <<< (v6_h69 &&& 31)) r_11 r_12 (imin (imax 0 (imin 99 r_1)) (v5_h69 + r_11))) (fun s_most_13 s_which_13 => ((fX2_fill_L69 o_price o_heights o_kinds v2 r_1 r_8 k69_130 n) (imin (imax 0 (imin 99 r_1)) (v5_h69 + r_11)) (v6_h69 + 1) s_most_13 s_which_13))))))
def fX2_fill_L138 (v5_e130 : Int32) (s_most_e130 : (Nat → Int32)) (s_which_e130 : (Nat → Int32)) : Nat → Int32 → Int32 → Option ((Nat → Int32) × (Nat → Int32) × Int32)
  | 0, _, _ => none
  | n + 1, v6_h138, s_best_h138 => (if v5_e130 < v6_h138 then some (s_most_e130, s_which_e130, s_best_h138) else chk (¬ (v6_h138 < 0 ∨ 100 ≤ v6_h138.toNatClampNeg)) (chk (¬ (s_best_h138 < 0 ∨ 100 ≤ s_best_h138.toNatClampNeg)) ((if (s_most_e130 v6_h138.toNatClampNeg) ≤ (s_most_e130 s_best_h138.toNatClampNeg) then ((fX2_fill_L138 v5_e130 s_most_e130 s_which_e130 n) (v6_h138 + 1) s_best_h138) else ((fX2_fill_L138 v5_e130 s_most_e130 s_which_e130 n) (v6_h138 + 1) v6_h138)))))
def fX2_fill (s_most : (Nat → Int32)) (s_which : (Nat → Int32)) (o_low : Int32) (o_high : Int32) (o_price : Int32) (o_hour : Int32) (o_heights : (Nat → Int32)) (o_holders : (Nat → Int32)) (o_kinds : (Nat → Int32)) (o_purses : (Nat → Int32)) (v2 : Int32) : Option ((Nat → Int32) × (Nat → Int32) × Int32) :=
  bd1 (fX3_purse o_purses v2) (fun r_1 => (fX2_fill_L18 (fun s_most_e56 s_which_e56 => bd1 (fX3_freeFor o_low o_high o_hour o_heights o_holders o_kinds v2) (fun r_8 => (fX2_fill_L69 o_price o_heights o_kinds v2 r_1 r_8 (fun v5_e130 s_most_e130 s_which_e130 => (fX2_fill_L138 v5_e130 s_most_e130 s_which_e130 FU 1 0)) FU 0 0 s_most_e56 s_which_e56))) FU 0 s_most s_which))
abbrev rmX2_fill : Room := { frames := 4, cells := 0, slots := 0, locals := 90 }
theorem ddX2_fill : yX2_fill.cls ≠ "java/lang/invoke/MethodHandle" ∧ yX2_fill.cls ≠ "java/lang/invoke/VarHandle" ∧ (parseMethodDescriptor yX2_fill.desc).map (fun d => d.parameters.length) = some 2 := by decide +kernel
set_option maxHeartbeats 4000000 in
set_option maxRecDepth 100000 in
theorem m_X2_fill (l : Launch) (dC : Nat → ClassId) (dI : Nat → Nat → Nat) (cI cZ : ClassId) (q_s q_s_most q_s_which q_o q_o_heights q_o_holders q_o_kinds q_o_purses q_o_homes : Nat) (s_most : (Nat → Int32)) (s_which : (Nat → Int32)) (s_best : Int32) (o_told : Int32) (o_low : Int32) (o_high : Int32) (o_price : Int32) (o_hour : Int32) (o_bidders : Int32) (o_heights : (Nat → Int32)) (o_holders : (Nat → Int32)) (o_kinds : (Nat → Int32)) (o_purses : (Nat → Int32)) (o_homes : (Nat → Int32)) (v2 : Int32) (sz : Nat) (res : (Nat → Int32) × (Nat → Int32) × Int32) (hf : fX2_fill s_most s_which o_low o_high o_price o_hour o_heights o_holders o_kinds o_purses v2 = some res) : Met l yX2_fill wsX2_fill rmX2_fill (mtPc (dC, dI) (tyZ cI cZ) ((W_Basket cI cZ q_s q_s_most q_s_which s_most s_which s_best) ++ ((W_Isle cI cZ q_o q_o_heights q_o_holders q_o_kinds q_o_purses q_o_homes o_told o_low o_high o_price o_hour o_bidders o_heights o_holders o_kinds o_purses o_homes))) [.ref q_s, .ref q_o, .int v2] sz) (mtQv (dC, dI) (tyZ cI cZ) ((W_Basket cI cZ q_s q_s_most q_s_which s_most s_which s_best) ++ ((W_Isle cI cZ q_o q_o_heights q_o_holders q_o_kinds q_o_purses q_o_homes o_told o_low o_high o_price o_hour o_bidders o_heights o_holders o_kinds o_purses o_homes))) ((W_Basket cI cZ q_s q_s_most q_s_which res.1 res.2.1 res.2.2) ++ ((W_Isle cI cZ q_o q_o_heights q_o_holders q_o_kinds q_o_purses q_o_homes o_told o_low o_high o_price o_hour o_bidders o_heights o_holders o_kinds o_purses o_homes))) sz) 0 0 (va_A ((W_Basket cI cZ q_s q_s_most q_s_which s_most s_which s_best) ++ ((W_Isle cI cZ q_o q_o_heights q_o_holders q_o_kinds q_o_purses q_o_homes o_told o_low o_high o_price o_hour o_bidders o_heights o_holders o_kinds o_purses o_homes))) sz) := by
  refine Met.ofW (cc := cX2_fill) (maxL := 8) (ret := none) (by decide) rfl ?_
  intro p e s m args below meth c s₁ B hml hv
  obtain ⟨rfl, hsz, hP, hK, hD0⟩ := hv
  have hx := B.exec
  have hb := B.bytes
  have hr := B.returns
  have hts := atoms_spec (ws := wsX2_fill) B.pre
  have hown : s.vm.findClass RX2 = some m.cls := findClass_of_methodNamed B.named
  have hlocks := B.notSynchronized
  subst hsz
  have hD := hD0.self (sz := s.heap.size)
  obtain ⟨A, hAe⟩ : ∃ A, A = va_A ((W_Basket cI cZ q_s q_s_most q_s_which s_most s_which s_best) ++ ((W_Isle cI cZ q_o q_o_heights q_o_holders q_o_kinds q_o_purses q_o_homes o_told o_low o_high o_price o_hour o_bidders o_heights o_holders o_kinds o_purses o_homes))) s.heap.size := ⟨_, rfl⟩
  rw [← hAe] at hD
  have hA : ∀ q : Nat, s.heap.size ≤ q → A q := fun q h => by rw [hAe]; exact Or.inr h
  have hS : va_S A s.heap s.heap [] := va_S.rf
  have hl := lv_entry ([.ref q_s, .ref q_o, .int v2]) (n := 8) (Nat.le_of_ble_eq_true rfl)
  rw [lg_entry_eq]
  generalize (lg_sl ([.ref q_s, .ref q_o, .int v2]) ++ List.replicate (8 - (lg_sl ([.ref q_s, .ref q_o, .int v2])).length) Slot.unset).toArray = ls at hl ⊢
  have hl : lv_has ls 8 [(0, .ref q_s), (1, .ref q_o), (2, .int v2)] := hl
  obtain ⟨QQ, hQQ⟩ : ∃ Q, Q = MQ below (mtQv (dC, dI) (tyZ cI cZ) ((W_Basket cI cZ q_s q_s_most q_s_which s_most s_which s_best) ++ ((W_Isle cI cZ q_o q_o_heights q_o_holders q_o_kinds q_o_purses q_o_homes o_told o_low o_high o_price o_hour o_bidders o_heights o_holders o_kinds o_purses o_homes))) ((W_Basket cI cZ q_s q_s_most q_s_which res.1 res.2.1 res.2.2) ++ ((W_Isle cI cZ q_o q_o_heights q_o_holders q_o_kinds q_o_purses q_o_homes o_told o_low o_high o_price o_hour o_bidders o_heights o_holders o_kinds o_purses o_homes))) s.heap.size) ([.ref q_s, .ref q_o, .int v2] : List Value).toArray s 0 0 (va_A ((W_Basket cI cZ q_s q_s_most q_s_which s_most s_which s_best) ++ ((W_Isle cI cZ q_o q_o_heights q_o_holders q_o_kinds q_o_purses q_o_homes o_told o_low o_high o_price o_hour o_bidders o_heights o_holders o_kinds o_purses o_homes))) s.heap.size) := ⟨_, rfl⟩
  rw [← hQQ]
  have w_0 := hts (Cond.methodLink RX2 28 Lib.Math.min.name) (List.mem_of_getElem? (i := 1) rfl)
  have w_1 := hts (Cond.static Lib.Math.min.name) (List.mem_of_getElem? (i := 2) rfl)
  have w_2 := hts (Cond.initialized "java/lang/Math") (List.mem_of_getElem? (i := 3) rfl)
  have w_3 := hts (Cond.code Lib.Math.min.name Lib.Math.min.code 2 (some .int)) (List.mem_of_getElem? (i := 4) rfl)
  have w_4 := hts (Cond.methodLink RX2 34 Lib.Math.max.name) (List.mem_of_getElem? (i := 5) rfl)
  have w_5 := hts (Cond.static Lib.Math.max.name) (List.mem_of_getElem? (i := 6) rfl)
  have w_6 := hts (Cond.code Lib.Math.max.name Lib.Math.max.code 2 (some .int)) (List.mem_of_getElem? (i := 7) rfl)
  have w_7 := hts (Cond.fieldLink RX2 9 "TideInches$Basket" "most" "[I") (List.mem_of_getElem? (i := 8) rfl)
  have w_8 := (fun w hw => List.mem_cons_of_mem _ (List.mem_append_left _ (List.mem_append_right _ hw)) : ∀ w ∈ wsX20, w ∈ wsX2_fill)
  have w_9 := hts (Cond.fieldLink RX2 15 "TideInches$Basket" "which" "[I") (List.mem_of_getElem? (i := 9) rfl)
  have w_10 := hts (Cond.fieldLink RX2 18 "TideInches$Basket" "best" "I") (List.mem_of_getElem? (i := 10) rfl)
  have h := hf
  unfold fX2_fill at h
  refine lv_iconst (v := 0) hx hb dX2_fill_0 (by decide) ?_
  refine lv_bipush (v := 99) hx hb dX2_fill_1 (by decide) ?_
  refine lv_aload_n hx hb dX2_fill_3 rfl (lv_at hl 1 rfl) ?_
  refine lv_iload_n hx hb dX2_fill_4 rfl (lv_at hl 2 rfl) ?_
  obtain ⟨r_1, hc_1, h⟩ := bd1_of h
  refine cl_rV (As := [.int v2]) (rest := [.int 99, .int 0]) ⟨hx, hb, hml, hown, hts⟩ (m_X3_purse l dC dI cI cZ q_o q_o_heights q_o_holders q_o_kinds q_o_purses q_o_homes o_told o_low o_high o_price o_hour o_bidders o_heights o_holders o_kinds o_purses o_homes v2 (r_1) hc_1) (cwV 1 hts gX2_fill_X3_purse rfl rfl rfl ⟨rfl, ddX3_purse⟩ ⟨Nat.le_of_ble_eq_true rfl, Nat.le_of_ble_eq_true rfl⟩) hK hP [3, 4, 5, 6, 7, 8] rfl rfl rfl rfl rfl hl.1 (Nat.le_of_ble_eq_true rfl) ⟨Nat.zero_le _, Nat.zero_le _⟩ dX2_fill_5 ?_
  refine va_mmin hx hb (hml.trans hl.1.symm) hown w_0 w_1 w_2 w_3 (Nat.le_of_ble_eq_true rfl) (Nat.le_of_ble_eq_true rfl) (Nat.zero_le _) (Nat.zero_le _) dX2_fill_8 ?_
  refine va_mmax hx hb (hml.trans hl.1.symm) hown w_4 w_5 w_2 w_6 (Nat.le_of_ble_eq_true rfl) (Nat.le_of_ble_eq_true rfl) (Nat.zero_le _) (Nat.zero_le _) dX2_fill_11 ?_
  refine lv_istore_n (lv' := [(3, .int (imax 0 (imin 99 r_1))), (0, .ref q_s), (1, .ref q_o), (2, .int v2)]) hx hb dX2_fill_14 rfl hl (by decide) rfl (fun ls hl => ?_)
  refine lv_iconst (v := 0) hx hb dX2_fill_15 (by decide) ?_
  refine lv_istore (lv' := [(4, .int 0), (3, .int (imax 0 (imin 99 r_1))), (0, .ref q_s), (1, .ref q_o), (2, .int v2)]) hx hb dX2_fill_16 hl (by decide) rfl (fun ls hl => ?_)
  have KL18 : ∀ (k18_56 : (Nat → Int32) → (Nat → Int32) → Option ((Nat → Int32) × (Nat → Int32) × Int32)) , (∀ (s_most_e56 : (Nat → Int32)) (s_which_e56 : (Nat → Int32)) (H : Heap) (locs : List Loc) (ls : Array Slot), va_P (dC, dI) vwCl ((W_Basket cI cZ q_s q_s_most q_s_which s_most_e56 s_which_e56 s_best) ++ ((W_Isle cI cZ q_o q_o_heights q_o_holders q_o_kinds q_o_purses q_o_homes o_told o_low o_high o_price o_hour o_bidders o_heights o_holders o_kinds o_purses o_homes))) H → va_D A ((W_Basket cI cZ q_s q_s_most q_s_which s_most_e56 s_which_e56 s_best) ++ ((W_Isle cI cZ q_o q_o_heights q_o_holders q_o_kinds q_o_purses q_o_homes o_told o_low o_high o_price o_hour o_bidders o_heights o_holders o_kinds o_purses o_homes))) → va_S A s.heap H locs → lv_has ls 8 [(0, .ref q_s), (1, .ref q_o), (2, .int v2), (3, .int (imax 0 (imin 99 r_1)))] → k18_56 s_most_e56 s_which_e56 = some res → W p l e (headSpec wsX2_fill rmX2_fill).room s m ([.ref q_s, .ref q_o, .int v2] : List Value).toArray below meth c H locs 0 0 QQ (F0 m 56 ls [])) → ∀ (n : Nat) (v4_h18 : Int32) (s_most_h18 : (Nat → Int32)) (s_which_h18 : (Nat → Int32)) (H : Heap) (locs : List Loc) (ls : Array Slot), va_P (dC, dI) vwCl ((W_Basket cI cZ q_s q_s_most q_s_which s_most_h18 s_which_h18 s_best) ++ ((W_Isle cI cZ q_o q_o_heights q_o_holders q_o_kinds q_o_purses q_o_homes o_told o_low o_high o_price o_hour o_bidders o_heights o_holders o_kinds o_purses o_homes))) H → va_D A ((W_Basket cI cZ q_s q_s_most q_s_which s_most_h18 s_which_h18 s_best) ++ ((W_Isle cI cZ q_o q_o_heights q_o_holders q_o_kinds q_o_purses q_o_homes o_told o_low o_high o_price o_hour o_bidders o_heights o_holders o_kinds o_purses o_homes))) → va_S A s.heap H locs → lv_has ls 8 [(0, .ref q_s), (1, .ref q_o), (2, .int v2), (3, .int (imax 0 (imin 99 r_1))), (4, .int v4_h18)] → fX2_fill_L18 k18_56 n v4_h18 s_most_h18 s_which_h18 = some res → W p l e (headSpec wsX2_fill rmX2_fill).room s m ([.ref q_s, .ref q_o, .int v2] : List Value).toArray below meth c H locs 0 0 QQ (F0 m 18 ls []) := by
    intro k18_56 Kk18_56 n
    induction n with
    | zero => intro v4_h18 s_most_h18 s_which_h18 H locs ls hP hD hS hl h; rw [fX2_fill_L18.eq_1] at h; cases h
    | succ n ih =>
      intro v4_h18 s_most_h18 s_which_h18 H locs ls hP hD hS hl h
      rw [fX2_fill_L18.eq_2] at h
      refine lv_iload hx hb dX2_fill_18 (lv_at hl 4 rfl) ?_
      refine lv_bipush (v := 99) hx hb dX2_fill_20 (by decide) ?_
      refine lv_icmp_gt (tgt := 56) hx hb dX2_fill_22 (by decide) (fun c_2 => ?_) (fun c_2 => ?_)
      · have h := (if_pos c_2).symm.trans h
        exact Kk18_56 s_most_h18 s_which_h18 _ _ _ hP hD hS (lv_sub hl [0, 1, 2, 3] rfl) h
      · have h := (if_neg c_2).symm.trans h
        refine lv_aload_n hx hb dX2_fill_25 rfl (lv_at hl 0 rfl) ?_
        refine va_get (D := (dC, dI)) (ci := 2) (v := .ref q_s_most) (C := RX2) (T := TX2) (N := 3) hx hb hts w_8 hown hK hP 0 rfl rfl 0 (by decide) w_7 (fun _ h9 => h9) rfl dX2_fill_26 ?_
        refine lv_iload hx hb dX2_fill_29 (lv_at hl 4 rfl) ?_
        refine lv_iload hx hb dX2_fill_31 (lv_at hl 4 rfl) ?_
        refine lv_if_ne (tgt := 40) hx hb dX2_fill_33 (by decide) (fun c_3 => ?_) (fun c_3 => ?_)
        · have h := (if_neg c_3).symm.trans h
          refine lv_iconst (v := (-1)) hx hb dX2_fill_40 (by decide) ?_
          obtain ⟨b_4, h⟩ := chk_of h
          refine va_iast hx hb hK hP hD hS 1 0 rfl rfl (i := v4_h18) (x := (-1)) b_4 dX2_fill_41 (fun H locs hP hD hS => ?_)
          have hP : va_P (dC, dI) vwCl ((W_Basket cI cZ q_s q_s_most q_s_which (upd s_most_h18 v4_h18.toNatClampNeg (-1)) s_which_h18 s_best) ++ ((W_Isle cI cZ q_o q_o_heights q_o_holders q_o_kinds q_o_purses q_o_homes o_told o_low o_high o_price o_hour o_bidders o_heights o_holders o_kinds o_purses o_homes))) H := hP
          have hD : va_D A ((W_Basket cI cZ q_s q_s_most q_s_which (upd s_most_h18 v4_h18.toNatClampNeg (-1)) s_which_h18 s_best) ++ ((W_Isle cI cZ q_o q_o_heights q_o_holders q_o_kinds q_o_purses q_o_homes o_told o_low o_high o_price o_hour o_bidders o_heights o_holders o_kinds o_purses o_homes))) := hD
          refine lv_aload_n hx hb dX2_fill_42 rfl (lv_at hl 0 rfl) ?_
          refine va_get (D := (dC, dI)) (ci := 2) (v := .ref q_s_which) (C := RX2) (T := TX2) (N := 3) hx hb hts w_8 hown hK hP 0 rfl rfl 1 (by decide) w_9 (fun _ h9 => h9) rfl dX2_fill_43 ?_
          refine lv_iload hx hb dX2_fill_46 (lv_at hl 4 rfl) ?_
          refine lv_iconst (v := 0) hx hb dX2_fill_48 (by decide) ?_
          obtain ⟨b_5, h⟩ := chk_of h
          refine va_iast hx hb hK hP hD hS 2 0 rfl rfl (i := v4_h18) (x := 0) b_5 dX2_fill_49 (fun H locs hP hD hS => ?_)
          have hP : va_P (dC, dI) vwCl ((W_Basket cI cZ q_s q_s_most q_s_which (upd s_most_h18 v4_h18.toNatClampNeg (-1)) (upd s_which_h18 v4_h18.toNatClampNeg 0) s_best) ++ ((W_Isle cI cZ q_o q_o_heights q_o_holders q_o_kinds q_o_purses q_o_homes o_told o_low o_high o_price o_hour o_bidders o_heights o_holders o_kinds o_purses o_homes))) H := hP
          have hD : va_D A ((W_Basket cI cZ q_s q_s_most q_s_which (upd s_most_h18 v4_h18.toNatClampNeg (-1)) (upd s_which_h18 v4_h18.toNatClampNeg 0) s_best) ++ ((W_Isle cI cZ q_o q_o_heights q_o_holders q_o_kinds q_o_purses q_o_homes o_told o_low o_high o_price o_hour o_bidders o_heights o_holders o_kinds o_purses o_homes))) := hD
          refine lv_iinc (v := (v4_h18 + 1)) (lv' := [(4, .int (v4_h18 + 1)), (0, .ref q_s), (1, .ref q_o), (2, .int v2), (3, .int (imax 0 (imin 99 r_1)))]) hx hb dX2_fill_50 hl (k := 4) rfl rfl (by decide) rfl (fun ls hl => ?_)
          refine lv_goto (tgt := 18) hx hb dX2_fill_53 (by decide) ?_
          exact ih (v4_h18 + 1) (upd s_most_h18 v4_h18.toNatClampNeg (-1)) (upd s_which_h18 v4_h18.toNatClampNeg 0) _ _ _ hP hD hS (lv_sub hl [1, 2, 3, 4, 0] rfl) h
        · have h := (if_pos c_3).symm.trans h
          refine lv_iconst (v := 0) hx hb dX2_fill_36 (by decide) ?_
          refine lv_goto (tgt := 41) hx hb dX2_fill_37 (by decide) ?_
          obtain ⟨b_6, h⟩ := chk_of h
          refine va_iast hx hb hK hP hD hS 1 0 rfl rfl (i := v4_h18) (x := 0) b_6 dX2_fill_41 (fun H locs hP hD hS => ?_)
          have hP : va_P (dC, dI) vwCl ((W_Basket cI cZ q_s q_s_most q_s_which (upd s_most_h18 v4_h18.toNatClampNeg 0) s_which_h18 s_best) ++ ((W_Isle cI cZ q_o q_o_heights q_o_holders q_o_kinds q_o_purses q_o_homes o_told o_low o_high o_price o_hour o_bidders o_heights o_holders o_kinds o_purses o_homes))) H := hP
          have hD : va_D A ((W_Basket cI cZ q_s q_s_most q_s_which (upd s_most_h18 v4_h18.toNatClampNeg 0) s_which_h18 s_best) ++ ((W_Isle cI cZ q_o q_o_heights q_o_holders q_o_kinds q_o_purses q_o_homes o_told o_low o_high o_price o_hour o_bidders o_heights o_holders o_kinds o_purses o_homes))) := hD
          refine lv_aload_n hx hb dX2_fill_42 rfl (lv_at hl 0 rfl) ?_
          refine va_get (D := (dC, dI)) (ci := 2) (v := .ref q_s_which) (C := RX2) (T := TX2) (N := 3) hx hb hts w_8 hown hK hP 0 rfl rfl 1 (by decide) w_9 (fun _ h9 => h9) rfl dX2_fill_43 ?_
          refine lv_iload hx hb dX2_fill_46 (lv_at hl 4 rfl) ?_
          refine lv_iconst (v := 0) hx hb dX2_fill_48 (by decide) ?_
          obtain ⟨b_7, h⟩ := chk_of h
          refine va_iast hx hb hK hP hD hS 2 0 rfl rfl (i := v4_h18) (x := 0) b_7 dX2_fill_49 (fun H locs hP hD hS => ?_)
          have hP : va_P (dC, dI) vwCl ((W_Basket cI cZ q_s q_s_most q_s_which (upd s_most_h18 v4_h18.toNatClampNeg 0) (upd s_which_h18 v4_h18.toNatClampNeg 0) s_best) ++ ((W_Isle cI cZ q_o q_o_heights q_o_holders q_o_kinds q_o_purses q_o_homes o_told o_low o_high o_price o_hour o_bidders o_heights o_holders o_kinds o_purses o_homes))) H := hP
          have hD : va_D A ((W_Basket cI cZ q_s q_s_most q_s_which (upd s_most_h18 v4_h18.toNatClampNeg 0) (upd s_which_h18 v4_h18.toNatClampNeg 0) s_best) ++ ((W_Isle cI cZ q_o q_o_heights q_o_holders q_o_kinds q_o_purses q_o_homes o_told o_low o_high o_price o_hour o_bidders o_heights o_holders o_kinds o_purses o_homes))) := hD
          refine lv_iinc (v := (v4_h18 + 1)) (lv' := [(4, .int (v4_h18 + 1)), (0, .ref q_s), (1, .ref q_o), (2, .int v2), (3, .int (imax 0 (imin 99 r_1)))]) hx hb dX2_fill_50 hl (k := 4) rfl rfl (by decide) rfl (fun ls hl => ?_)
          refine lv_goto (tgt := 18) hx hb dX2_fill_53 (by decide) ?_
          exact ih (v4_h18 + 1) (upd s_most_h18 v4_h18.toNatClampNeg 0) (upd s_which_h18 v4_h18.toNatClampNeg 0) _ _ _ hP hD hS (lv_sub hl [1, 2, 3, 4, 0] rfl) h
  refine KL18 _ (fun s_most_e56 s_which_e56 H locs ls hP hD hS hl h => ?_) FU 0 s_most s_which _ _ _ hP hD hS (lv_sub hl [2, 3, 4, 1, 0] rfl) h
  refine lv_aload_n hx hb dX2_fill_56 rfl (lv_at hl 1 rfl) ?_
  refine lv_iload_n hx hb dX2_fill_57 rfl (lv_at hl 2 rfl) ?_
  obtain ⟨r_8, hc_8, h⟩ := bd1_of h
  refine cl_rV (As := [.int v2]) (rest := []) ⟨hx, hb, hml, hown, hts⟩ (m_X3_freeFor l dC dI cI cZ q_o q_o_heights q_o_holders q_o_kinds q_o_purses q_o_homes o_told o_low o_high o_price o_hour o_bidders o_heights o_holders o_kinds o_purses o_homes v2 (r_8) hc_8) (cwV 1 hts gX2_fill_X3_freeFor rfl rfl rfl ⟨rfl, ddX3_freeFor⟩ ⟨Nat.le_of_ble_eq_true rfl, Nat.le_of_ble_eq_true rfl⟩) hK hP [3, 4, 5, 6, 7, 8] rfl rfl rfl rfl rfl hl.1 (Nat.le_of_ble_eq_true rfl) ⟨Nat.zero_le _, Nat.zero_le _⟩ dX2_fill_58 ?_
  refine lv_istore (lv' := [(4, .int r_8), (0, .ref q_s), (1, .ref q_o), (2, .int v2), (3, .int (imax 0 (imin 99 r_1)))]) hx hb dX2_fill_61 hl (by decide) rfl (fun ls hl => ?_)
  refine lv_iconst (v := 0) hx hb dX2_fill_63 (by decide) ?_
  refine lv_istore (lv' := [(5, .int 0), (4, .int r_8), (0, .ref q_s), (1, .ref q_o), (2, .int v2), (3, .int (imax 0 (imin 99 r_1)))]) hx hb dX2_fill_64 hl (by decide) rfl (fun ls hl => ?_)
  refine lv_iconst (v := 0) hx hb dX2_fill_66 (by decide) ?_
  refine lv_istore (lv' := [(6, .int 0), (5, .int 0), (4, .int r_8), (0, .ref q_s), (1, .ref q_o), (2, .int v2), (3, .int (imax 0 (imin 99 r_1)))]) hx hb dX2_fill_67 hl (by decide) rfl (fun ls hl => ?_)
  have KL69 : ∀ (k69_130 : Int32 → (Nat → Int32) → (Nat → Int32) → Option ((Nat → Int32) × (Nat → Int32) × Int32)) , (∀ (v5_e130 : Int32) (s_most_e130 : (Nat → Int32)) (s_which_e130 : (Nat → Int32)) (H : Heap) (locs : List Loc) (ls : Array Slot), va_P (dC, dI) vwCl ((W_Basket cI cZ q_s q_s_most q_s_which s_most_e130 s_which_e130 s_best) ++ ((W_Isle cI cZ q_o q_o_heights q_o_holders q_o_kinds q_o_purses q_o_homes o_told o_low o_high o_price o_hour o_bidders o_heights o_holders o_kinds o_purses o_homes))) H → va_D A ((W_Basket cI cZ q_s q_s_most q_s_which s_most_e130 s_which_e130 s_best) ++ ((W_Isle cI cZ q_o q_o_heights q_o_holders q_o_kinds q_o_purses q_o_homes o_told o_low o_high o_price o_hour o_bidders o_heights o_holders o_kinds o_purses o_homes))) → va_S A s.heap H locs → lv_has ls 8 [(0, .ref q_s), (5, .int v5_e130)] → k69_130 v5_e130 s_most_e130 s_which_e130 = some res → W p l e (headSpec wsX2_fill rmX2_fill).room s m ([.ref q_s, .ref q_o, .int v2] : List Value).toArray below meth c H locs 0 0 QQ (F0 m 130 ls [])) → ∀ (n : Nat) (v5_h69 : Int32) (v6_h69 : Int32) (s_most_h69 : (Nat → Int32)) (s_which_h69 : (Nat → Int32)) (H : Heap) (locs : List Loc) (ls : Array Slot), va_P (dC, dI) vwCl ((W_Basket cI cZ q_s q_s_most q_s_which s_most_h69 s_which_h69 s_best) ++ ((W_Isle cI cZ q_o q_o_heights q_o_holders q_o_kinds q_o_purses q_o_homes o_told o_low o_high o_price o_hour o_bidders o_heights o_holders o_kinds o_purses o_homes))) H → va_D A ((W_Basket cI cZ q_s q_s_most q_s_which s_most_h69 s_which_h69 s_best) ++ ((W_Isle cI cZ q_o q_o_heights q_o_holders q_o_kinds q_o_purses q_o_homes o_told o_low o_high o_price o_hour o_bidders o_heights o_holders o_kinds o_purses o_homes))) → va_S A s.heap H locs → lv_has ls 8 [(0, .ref q_s), (1, .ref q_o), (2, .int v2), (3, .int (imax 0 (imin 99 r_1))), (4, .int r_8), (5, .int v5_h69), (6, .int v6_h69)] → fX2_fill_L69 o_price o_heights o_kinds v2 r_1 r_8 k69_130 n v5_h69 v6_h69 s_most_h69 s_which_h69 = some res → W p l e (headSpec wsX2_fill rmX2_fill).room s m ([.ref q_s, .ref q_o, .int v2] : List Value).toArray below meth c H locs 0 0 QQ (F0 m 69 ls []) := by
    intro k69_130 Kk69_130 n
    induction n with
    | zero => intro v5_h69 v6_h69 s_most_h69 s_which_h69 H locs ls hP hD hS hl h; rw [fX2_fill_L69.eq_1] at h; cases h
    | succ n ih =>
      intro v5_h69 v6_h69 s_most_h69 s_which_h69 H locs ls hP hD hS hl h
      rw [fX2_fill_L69.eq_2] at h
      refine lv_iload hx hb dX2_fill_69 (lv_at hl 6 rfl) ?_
      refine lv_bipush (v := 15) hx hb dX2_fill_71 (by decide) ?_
      refine lv_icmp_ge (tgt := 130) hx hb dX2_fill_73 (by decide) (fun c_9 => ?_) (fun c_9 => ?_)
      · have h := (if_pos c_9).symm.trans h
        exact Kk69_130 v5_h69 s_most_h69 s_which_h69 _ _ _ hP hD hS (lv_sub hl [0, 5] rfl) h
      · have h := (if_neg c_9).symm.trans h
        refine lv_iload hx hb dX2_fill_76 (lv_at hl 4 rfl) ?_
        refine lv_iconst (v := 1) hx hb dX2_fill_78 (by decide) ?_
        refine lv_iload hx hb dX2_fill_79 (lv_at hl 6 rfl) ?_
        refine lv_ishl hx hb dX2_fill_81 ?_
        refine lv_iand hx hb dX2_fill_82 ?_
        refine lv_if_eq (tgt := 124) hx hb dX2_fill_83 (by decide) (fun c_10 => ?_) (fun c_10 => ?_)
        · have h := (if_pos c_10).symm.trans h
          refine lv_iinc (v := (v6_h69 + 1)) (lv' := [(6, .int (v6_h69 + 1)), (0, .ref q_s), (1, .ref q_o), (2, .int v2), (3, .int (imax 0 (imin 99 r_1))), (4, .int r_8), (5, .int v5_h69)]) hx hb dX2_fill_124 hl (k := 6) rfl rfl (by decide) rfl (fun ls hl => ?_)
          refine lv_goto (tgt := 69) hx hb dX2_fill_127 (by decide) ?_
          exact ih v5_h69 (v6_h69 + 1) s_most_h69 s_which_h69 _ _ _ hP hD hS (lv_sub hl [1, 2, 3, 4, 5, 6, 0] rfl) h
        · have h := (if_neg c_10).symm.trans h
          refine lv_aload_n hx hb dX2_fill_86 rfl (lv_at hl 1 rfl) ?_
          refine lv_iload_n hx hb dX2_fill_87 rfl (lv_at hl 2 rfl) ?_
          refine lv_iload hx hb dX2_fill_88 (lv_at hl 6 rfl) ?_
          obtain ⟨r_11, hc_11, h⟩ := bd1_of h
          refine cl_rV (As := [.int v2, .int v6_h69]) (rest := []) ⟨hx, hb, hml, hown, hts⟩ (m_X3_costTo l dC dI cI cZ q_o q_o_heights q_o_holders q_o_kinds q_o_purses q_o_homes o_told o_low o_high o_price o_hour o_bidders o_heights o_holders o_kinds o_purses o_homes v2 v6_h69 (r_11) hc_11) (cwV 2 hts gX2_fill_X3_costTo rfl rfl rfl ⟨rfl, ddX3_costTo⟩ ⟨Nat.le_of_ble_eq_true rfl, Nat.le_of_ble_eq_true rfl⟩) hK hP [3, 4, 5, 6, 7, 8] rfl rfl rfl rfl rfl hl.1 (Nat.le_of_ble_eq_true rfl) ⟨Nat.zero_le _, Nat.zero_le _⟩ dX2_fill_90 ?_
          refine lv_istore (lv' := [(7, .int r_11), (0, .ref q_s), (1, .ref q_o), (2, .int v2), (3, .int (imax 0 (imin 99 r_1))), (4, .int r_8), (5, .int v5_h69), (6, .int v6_h69)]) hx hb dX2_fill_93 hl (by decide) rfl (fun ls hl => ?_)
          refine lv_iload_n hx hb dX2_fill_95 rfl (lv_at hl 4 rfl) ?_
          refine lv_iload hx hb dX2_fill_96 (lv_at hl 6 rfl) ?_
          refine lv_iload hx hb dX2_fill_98 (lv_at hl 0 rfl) ?_
          refine lv_iadd hx hb dX2_fill_100 ?_
          refine va_mmin hx hb (hml.trans hl.1.symm) hown w_0 w_1 w_2 w_3 (Nat.le_of_ble_eq_true rfl) (Nat.le_of_ble_eq_true rfl) (Nat.zero_le _) (Nat.zero_le _) dX2_fill_101 ?_
          refine lv_istore (lv' := [(5, .int (imin (imax 0 (imin 99 r_1)) (v5_h69 + r_11))), (7, .int r_11), (0, .ref q_s), (1, .ref q_o), (2, .int v2), (3, .int (imax 0 (imin 99 r_1))), (4, .int r_8), (6, .int v6_h69)]) hx hb dX2_fill_104 hl (by decide) rfl (fun ls hl => ?_)
          refine lv_aload_n hx hb dX2_fill_106 rfl (lv_at hl 2 rfl) ?_
          refine lv_iconst (v := 1) hx hb dX2_fill_107 (by decide) ?_
          refine lv_iload hx hb dX2_fill_108 (lv_at hl 7 rfl) ?_
          refine lv_ishl hx hb dX2_fill_110 ?_
          refine lv_iload hx hb dX2_fill_111 (lv_at hl 1 rfl) ?_
          refine lv_aload_n hx hb dX2_fill_113 rfl (lv_at hl 3 rfl) ?_
          refine lv_iload hx hb dX2_fill_114 (lv_at hl 7 rfl) ?_
          obtain ⟨r_12, hc_12, h⟩ := bd1_of h
          refine cl_rV (As := [.int v6_h69]) (rest := [.int r_11, .int (1 <<< (v6_h69 &&& 31)), .ref q_s]) ⟨hx, hb, hml, hown, hts⟩ (m_X3_height l dC dI cI cZ q_o q_o_heights q_o_holders q_o_kinds q_o_purses q_o_homes o_told o_low o_high o_price o_hour o_bidders o_heights o_holders o_kinds o_purses o_homes v6_h69 (r_12) hc_12) (cwV 1 hts gX2_fill_X3_height rfl rfl rfl ⟨rfl, ddX3_height⟩ ⟨Nat.le_of_ble_eq_true rfl, Nat.le_of_ble_eq_true rfl⟩) hK hP [3, 4, 5, 6, 7, 8] rfl rfl rfl rfl rfl hl.1 (Nat.le_of_ble_eq_true rfl) ⟨Nat.zero_le _, Nat.zero_le _⟩ dX2_fill_116 ?_
          refine lv_iload hx hb dX2_fill_119 (lv_at hl 0 rfl) ?_
          obtain ⟨s_most_13, s_which_13, hc_13, h⟩ := bd2_of h
          refine cl_mVv (As := [.int (1 <<< (v6_h69 &&& 31)), .int r_11, .int r_12, .int (imin (imax 0 (imin 99 r_1)) (v5_h69 + r_11))]) (rest := []) (ws' := (W_Basket cI cZ q_s q_s_most q_s_which s_most_13 s_which_13 s_best) ++ ((W_Isle cI cZ q_o q_o_heights q_o_holders q_o_kinds q_o_purses q_o_homes o_told o_low o_high o_price o_hour o_bidders o_heights o_holders o_kinds o_purses o_homes))) (wr := (W_Isle cI cZ q_o q_o_heights q_o_holders q_o_kinds q_o_purses q_o_homes o_told o_low o_high o_price o_hour o_bidders o_heights o_holders o_kinds o_purses o_homes)) ⟨hx, hb, hml, hown, hts⟩ (m_X2_offer l dC dI cI cZ q_s q_s_most q_s_which s_most_h69 s_which_h69 s_best (1 <<< (v6_h69 &&& 31)) r_11 r_12 (imin (imax 0 (imin 99 r_1)) (v5_h69 + r_11)) _ (s_most_13, s_which_13) hc_13) (cwV 4 hts gX2_fill_X2_offer rfl rfl rfl ⟨rfl, ddX2_offer⟩ ⟨Nat.le_of_ble_eq_true rfl, Nat.le_of_ble_eq_true rfl⟩) hK hP hD hS hA [0, 1, 2] [3, 4, 5, 6, 7, 8] rfl rfl rfl rfl (by decide) [6, 7, 8, 0, 1, 2, 3, 4, 5] rfl rfl rfl rfl rfl rfl rfl hl.1 (Nat.le_of_ble_eq_true rfl) ⟨Nat.zero_le _, Nat.zero_le _⟩ dX2_fill_121 (fun H locs hP hD hS => ?_)
          refine lv_iinc (v := (v6_h69 + 1)) (lv' := [(6, .int (v6_h69 + 1)), (5, .int (imin (imax 0 (imin 99 r_1)) (v5_h69 + r_11))), (7, .int r_11), (0, .ref q_s), (1, .ref q_o), (2, .int v2), (3, .int (imax 0 (imin 99 r_1))), (4, .int r_8)]) hx hb dX2_fill_124 hl (k := 7) rfl rfl (by decide) rfl (fun ls hl => ?_)
          refine lv_goto (tgt := 69) hx hb dX2_fill_127 (by decide) ?_
          exact ih (imin (imax 0 (imin 99 r_1)) (v5_h69 + r_11)) (v6_h69 + 1) s_most_13 s_which_13 _ _ _ hP hD hS (lv_sub hl [3, 4, 5, 6, 7, 1, 0] rfl) h
  refine KL69 _ (fun v5_e130 s_most_e130 s_which_e130 H locs ls hP hD hS hl h => ?_) FU 0 0 s_most_e56 s_which_e56 _ _ _ hP hD hS (lv_sub hl [3, 4, 5, 6, 2, 1, 0] rfl) h
  refine lv_aload_n hx hb dX2_fill_130 rfl (lv_at hl 0 rfl) ?_
  refine lv_iconst (v := 0) hx hb dX2_fill_131 (by decide) ?_
  refine va_put (D := (dC, dI)) (ci := 2) (v := .int 0) (ty := .int) (C := RX2) (T := TX2) (N := 3) hx hb hts w_8 tyX2 tyX2_ok nmX2 hown hK hP hD hS 0 rfl rfl 2 (by decide) w_10 (fun _ h9 => h9) rfl (by decide +kernel) rfl rfl (Nat.le_of_ble_eq_true rfl) dX2_fill_132 (fun H locs hP hD hS => ?_)
  have hP : va_P (dC, dI) vwCl ((W_Basket cI cZ q_s q_s_most q_s_which s_most_e130 s_which_e130 0) ++ ((W_Isle cI cZ q_o q_o_heights q_o_holders q_o_kinds q_o_purses q_o_homes o_told o_low o_high o_price o_hour o_bidders o_heights o_holders o_kinds o_purses o_homes))) H := hP
  have hD : va_D A ((W_Basket cI cZ q_s q_s_most q_s_which s_most_e130 s_which_e130 0) ++ ((W_Isle cI cZ q_o q_o_heights q_o_holders q_o_kinds q_o_purses q_o_homes o_told o_low o_high o_price o_hour o_bidders o_heights o_holders o_kinds o_purses o_homes))) := hD
  refine lv_iconst (v := 1) hx hb dX2_fill_135 (by decide) ?_
  refine lv_istore (lv' := [(6, .int 1), (0, .ref q_s), (5, .int v5_e130)]) hx hb dX2_fill_136 hl (by decide) rfl (fun ls hl => ?_)
  have KL138 : ∀ (n : Nat) (v6_h138 : Int32) (s_best_h138 : Int32) (H : Heap) (locs : List Loc) (ls : Array Slot), va_P (dC, dI) vwCl ((W_Basket cI cZ q_s q_s_most q_s_which s_most_e130 s_which_e130 s_best_h138) ++ ((W_Isle cI cZ q_o q_o_heights q_o_holders q_o_kinds q_o_purses q_o_homes o_told o_low o_high o_price o_hour o_bidders o_heights o_holders o_kinds o_purses o_homes))) H → va_D A ((W_Basket cI cZ q_s q_s_most q_s_which s_most_e130 s_which_e130 s_best_h138) ++ ((W_Isle cI cZ q_o q_o_heights q_o_holders q_o_kinds q_o_purses q_o_homes o_told o_low o_high o_price o_hour o_bidders o_heights o_holders o_kinds o_purses o_homes))) → va_S A s.heap H locs → lv_has ls 8 [(0, .ref q_s), (5, .int v5_e130), (6, .int v6_h138)] → fX2_fill_L138 v5_e130 s_most_e130 s_which_e130 n v6_h138 s_best_h138 = some res → W p l e (headSpec wsX2_fill rmX2_fill).room s m ([.ref q_s, .ref q_o, .int v2] : List Value).toArray below meth c H locs 0 0 QQ (F0 m 138 ls []) := by
    intro  n
    induction n with
    | zero => intro v6_h138 s_best_h138 H locs ls hP hD hS hl h; rw [fX2_fill_L138.eq_1] at h; cases h
    | succ n ih =>
      intro v6_h138 s_best_h138 H locs ls hP hD hS hl h
      rw [fX2_fill_L138.eq_2] at h
      refine lv_iload hx hb dX2_fill_138 (lv_at hl 2 rfl) ?_
      refine lv_iload hx hb dX2_fill_140 (lv_at hl 1 rfl) ?_
      refine lv_icmp_gt (tgt := 176) hx hb dX2_fill_142 (by decide) (fun c_14 => ?_) (fun c_14 => ?_)
      · have h := (if_pos c_14).symm.trans h
        have h := Option.some.inj h
        subst h
        rw [hQQ]
        subst hAe
        exact W.vret hx hb hr (fun t ht hW => ⟨⟨(), rfl, trivial, by rw [ht]; exact hP, va_K.moved hW.alike hK, hD⟩, hS.F ht⟩) hS.2.2 dX2_fill_176
      · have h := (if_neg c_14).symm.trans h
        refine lv_aload_n hx hb dX2_fill_145 rfl (lv_at hl 0 rfl) ?_
        refine va_get (D := (dC, dI)) (ci := 2) (v := .ref q_s_most) (C := RX2) (T := TX2) (N := 3) hx hb hts w_8 hown hK hP 0 rfl rfl 0 (by decide) w_7 (fun _ h9 => h9) rfl dX2_fill_146 ?_
        refine lv_iload hx hb dX2_fill_149 (lv_at hl 2 rfl) ?_
        obtain ⟨b_15, h⟩ := chk_of h
        refine va_iald hx hb hK hP 1 0 rfl rfl (i := v6_h138) b_15 dX2_fill_151 ?_
        refine lv_aload_n hx hb dX2_fill_152 rfl (lv_at hl 0 rfl) ?_
        refine va_get (D := (dC, dI)) (ci := 2) (v := .ref q_s_most) (C := RX2) (T := TX2) (N := 3) hx hb hts w_8 hown hK hP 0 rfl rfl 0 (by decide) w_7 (fun _ h9 => h9) rfl dX2_fill_153 ?_
        refine lv_aload_n hx hb dX2_fill_156 rfl (lv_at hl 0 rfl) ?_
        refine va_get (D := (dC, dI)) (ci := 2) (v := .int s_best_h138) (C := RX2) (T := TX2) (N := 3) hx hb hts w_8 hown hK hP 0 rfl rfl 2 (by decide) w_10 (fun _ h9 => h9) rfl dX2_fill_157 ?_
        obtain ⟨b_16, h⟩ := chk_of h
        refine va_iald hx hb hK hP 1 0 rfl rfl (i := s_best_h138) b_16 dX2_fill_160 ?_
        refine lv_icmp_le (tgt := 170) hx hb dX2_fill_161 (by decide) (fun c_17 => ?_) (fun c_17 => ?_)
        · have h := (if_pos c_17).symm.trans h
          refine lv_iinc (v := (v6_h138 + 1)) (lv' := [(6, .int (v6_h138 + 1)), (0, .ref q_s), (5, .int v5_e130)]) hx hb dX2_fill_170 hl (k := 2) rfl rfl (by decide) rfl (fun ls hl => ?_)
          refine lv_goto (tgt := 138) hx hb dX2_fill_173 (by decide) ?_
          exact ih (v6_h138 + 1) s_best_h138 _ _ _ hP hD hS (lv_sub hl [1, 2, 0] rfl) h
        · have h := (if_neg c_17).symm.trans h
          refine lv_aload_n hx hb dX2_fill_164 rfl (lv_at hl 0 rfl) ?_
          refine lv_iload hx hb dX2_fill_165 (lv_at hl 2 rfl) ?_
          refine va_put (D := (dC, dI)) (ci := 2) (v := .int v6_h138) (ty := .int) (C := RX2) (T := TX2) (N := 3) hx hb hts w_8 tyX2 tyX2_ok nmX2 hown hK hP hD hS 0 rfl rfl 2 (by decide) w_10 (fun _ h9 => h9) rfl (by decide +kernel) rfl rfl (Nat.le_of_ble_eq_true rfl) dX2_fill_167 (fun H locs hP hD hS => ?_)
          have hP : va_P (dC, dI) vwCl ((W_Basket cI cZ q_s q_s_most q_s_which s_most_e130 s_which_e130 v6_h138) ++ ((W_Isle cI cZ q_o q_o_heights q_o_holders q_o_kinds q_o_purses q_o_homes o_told o_low o_high o_price o_hour o_bidders o_heights o_holders o_kinds o_purses o_homes))) H := hP
          have hD : va_D A ((W_Basket cI cZ q_s q_s_most q_s_which s_most_e130 s_which_e130 v6_h138) ++ ((W_Isle cI cZ q_o q_o_heights q_o_holders q_o_kinds q_o_purses q_o_homes o_told o_low o_high o_price o_hour o_bidders o_heights o_holders o_kinds o_purses o_homes))) := hD
          refine lv_iinc (v := (v6_h138 + 1)) (lv' := [(6, .int (v6_h138 + 1)), (0, .ref q_s), (5, .int v5_e130)]) hx hb dX2_fill_170 hl (k := 2) rfl rfl (by decide) rfl (fun ls hl => ?_)
          refine lv_goto (tgt := 138) hx hb dX2_fill_173 (by decide) ?_
          exact ih (v6_h138 + 1) v6_h138 _ _ _ hP hD hS (lv_sub hl [1, 2, 0] rfl) h
  exact KL138 FU 1 0 _ _ _ hP hD hS (lv_sub hl [1, 2, 0] rfl) h

