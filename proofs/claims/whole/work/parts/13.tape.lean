def fX7_length (s_length : Int32) : Option (Int32) :=
  some (s_length)
abbrev rmX7_length : Room := { frames := 0, cells := 0, slots := 0, locals := 0 }
theorem ddX7_length : yX7_length.cls ≠ "java/lang/invoke/MethodHandle" ∧ yX7_length.cls ≠ "java/lang/invoke/VarHandle" ∧ (parseMethodDescriptor yX7_length.desc).map (fun d => d.parameters.length) = some 0 := by decide +kernel
set_option maxHeartbeats 4000000 in
set_option maxRecDepth 100000 in
theorem m_X7_length (l : Launch) (dC : Nat → ClassId) (dI : Nat → Nat → Nat) (cI cZ : ClassId) (q_s q_s_bytes : Nat) (s_bytes : (Nat → Int32)) (s_length : Int32) (s_at : Int32) (s_number : Int32) (s_faultNumber : Int32) (res : Int32) (hf : fX7_length s_length = some res) : Met l yX7_length wsX7_length rmX7_length (rdPc (dC, dI) (tyZ cI cZ) ((W_Tape cI cZ q_s q_s_bytes s_bytes s_length s_at s_number s_faultNumber)) [.ref q_s]) (rdQ res) 0 0 (fun _ => False) := by
  refine Met.ofW (cc := cX7_length) (maxL := 1) (ret := (some .int)) (by decide) rfl ?_
  intro p e s m args below meth c s₁ B hml hv
  obtain ⟨rfl, hP, hK⟩ := hv
  have hx := B.exec
  have hb := B.bytes
  have hr := B.returns
  have hts := atoms_spec (ws := wsX7_length) B.pre
  have hown : s.vm.findClass RX7 = some m.cls := findClass_of_methodNamed B.named
  have hlocks := B.notSynchronized
  have hl := lv_entry ([.ref q_s]) (n := 1) (Nat.le_of_ble_eq_true rfl)
  rw [lg_entry_eq]
  generalize (lg_sl ([.ref q_s]) ++ List.replicate (1 - (lg_sl ([.ref q_s])).length) Slot.unset).toArray = ls at hl ⊢
  have hl : lv_has ls 1 [(0, .ref q_s)] := hl
  obtain ⟨QQ, hQQ⟩ : ∃ Q, Q = MQ below (rdQ res) ([.ref q_s] : List Value).toArray s 0 0 (fun _ => False) := ⟨_, rfl⟩
  rw [← hQQ]
  have w_0 := hts (Cond.fieldLink RX7 15 "TideInches$Tape" "length" "I") (List.mem_of_getElem? (i := 1) rfl)
  have w_1 := (fun w hw => List.mem_cons_of_mem _ (List.mem_append_right _ hw) : ∀ w ∈ wsX70, w ∈ wsX7_length)
  have h := hf
  unfold fX7_length at h
  refine lv_aload_n hx hb dX7_length_0 rfl (lv_at hl 0 rfl) ?_
  refine va_get (D := (dC, dI)) (ci := 5) (v := .int s_length) (C := RX7) (T := TX7) (N := 5) hx hb hts w_1 hown hK hP 0 rfl rfl 1 (by decide) w_0 (fun _ h9 => h9) rfl dX7_length_1 ?_
  rw [hQQ]
  exact W.iret (v := s_length) hx hb hr (fun t ht hW => ⟨_, rfl, Option.some.inj h, ht⟩) (fun q hq => by cases hq) dX7_length_4
def fX7_faultNumber (s_faultNumber : Int32) : Option (Int32) :=
  some (s_faultNumber)
abbrev rmX7_faultNumber : Room := { frames := 0, cells := 0, slots := 0, locals := 0 }
theorem ddX7_faultNumber : yX7_faultNumber.cls ≠ "java/lang/invoke/MethodHandle" ∧ yX7_faultNumber.cls ≠ "java/lang/invoke/VarHandle" ∧ (parseMethodDescriptor yX7_faultNumber.desc).map (fun d => d.parameters.length) = some 0 := by decide +kernel
set_option maxHeartbeats 4000000 in
set_option maxRecDepth 100000 in
theorem m_X7_faultNumber (l : Launch) (dC : Nat → ClassId) (dI : Nat → Nat → Nat) (cI cZ : ClassId) (q_s q_s_bytes : Nat) (s_bytes : (Nat → Int32)) (s_length : Int32) (s_at : Int32) (s_number : Int32) (s_faultNumber : Int32) (res : Int32) (hf : fX7_faultNumber s_faultNumber = some res) : Met l yX7_faultNumber wsX7_faultNumber rmX7_faultNumber (rdPc (dC, dI) (tyZ cI cZ) ((W_Tape cI cZ q_s q_s_bytes s_bytes s_length s_at s_number s_faultNumber)) [.ref q_s]) (rdQ res) 0 0 (fun _ => False) := by
  refine Met.ofW (cc := cX7_faultNumber) (maxL := 1) (ret := (some .int)) (by decide) rfl ?_
  intro p e s m args below meth c s₁ B hml hv
  obtain ⟨rfl, hP, hK⟩ := hv
  have hx := B.exec
  have hb := B.bytes
  have hr := B.returns
  have hts := atoms_spec (ws := wsX7_faultNumber) B.pre
  have hown : s.vm.findClass RX7 = some m.cls := findClass_of_methodNamed B.named
  have hlocks := B.notSynchronized
  have hl := lv_entry ([.ref q_s]) (n := 1) (Nat.le_of_ble_eq_true rfl)
  rw [lg_entry_eq]
  generalize (lg_sl ([.ref q_s]) ++ List.replicate (1 - (lg_sl ([.ref q_s])).length) Slot.unset).toArray = ls at hl ⊢
  have hl : lv_has ls 1 [(0, .ref q_s)] := hl
  obtain ⟨QQ, hQQ⟩ : ∃ Q, Q = MQ below (rdQ res) ([.ref q_s] : List Value).toArray s 0 0 (fun _ => False) := ⟨_, rfl⟩
  rw [← hQQ]
  have w_0 := hts (Cond.fieldLink RX7 19 "TideInches$Tape" "faultNumber" "I") (List.mem_of_getElem? (i := 1) rfl)
  have w_1 := (fun w hw => List.mem_cons_of_mem _ (List.mem_append_right _ hw) : ∀ w ∈ wsX70, w ∈ wsX7_faultNumber)
  have h := hf
  unfold fX7_faultNumber at h
  refine lv_aload_n hx hb dX7_faultNumber_0 rfl (lv_at hl 0 rfl) ?_
  refine va_get (D := (dC, dI)) (ci := 5) (v := .int s_faultNumber) (C := RX7) (T := TX7) (N := 5) hx hb hts w_1 hown hK hP 0 rfl rfl 4 (by decide) w_0 (fun _ h9 => h9) rfl dX7_faultNumber_1 ?_
  rw [hQQ]
  exact W.iret (v := s_faultNumber) hx hb hr (fun t ht hW => ⟨_, rfl, Option.some.inj h, ht⟩) (fun q hq => by cases hq) dX7_faultNumber_4
def fX7_faultPlace (s_at : Int32) : Option (Int32) :=
  some (s_at)
abbrev rmX7_faultPlace : Room := { frames := 0, cells := 0, slots := 0, locals := 0 }
theorem ddX7_faultPlace : yX7_faultPlace.cls ≠ "java/lang/invoke/MethodHandle" ∧ yX7_faultPlace.cls ≠ "java/lang/invoke/VarHandle" ∧ (parseMethodDescriptor yX7_faultPlace.desc).map (fun d => d.parameters.length) = some 0 := by decide +kernel
set_option maxHeartbeats 4000000 in
set_option maxRecDepth 100000 in
theorem m_X7_faultPlace (l : Launch) (dC : Nat → ClassId) (dI : Nat → Nat → Nat) (cI cZ : ClassId) (q_s q_s_bytes : Nat) (s_bytes : (Nat → Int32)) (s_length : Int32) (s_at : Int32) (s_number : Int32) (s_faultNumber : Int32) (res : Int32) (hf : fX7_faultPlace s_at = some res) : Met l yX7_faultPlace wsX7_faultPlace rmX7_faultPlace (rdPc (dC, dI) (tyZ cI cZ) ((W_Tape cI cZ q_s q_s_bytes s_bytes s_length s_at s_number s_faultNumber)) [.ref q_s]) (rdQ res) 0 0 (fun _ => False) := by
  refine Met.ofW (cc := cX7_faultPlace) (maxL := 1) (ret := (some .int)) (by decide) rfl ?_
  intro p e s m args below meth c s₁ B hml hv
  obtain ⟨rfl, hP, hK⟩ := hv
  have hx := B.exec
  have hb := B.bytes
  have hr := B.returns
  have hts := atoms_spec (ws := wsX7_faultPlace) B.pre
  have hown : s.vm.findClass RX7 = some m.cls := findClass_of_methodNamed B.named
  have hlocks := B.notSynchronized
  have hl := lv_entry ([.ref q_s]) (n := 1) (Nat.le_of_ble_eq_true rfl)
  rw [lg_entry_eq]
  generalize (lg_sl ([.ref q_s]) ++ List.replicate (1 - (lg_sl ([.ref q_s])).length) Slot.unset).toArray = ls at hl ⊢
  have hl : lv_has ls 1 [(0, .ref q_s)] := hl
  obtain ⟨QQ, hQQ⟩ : ∃ Q, Q = MQ below (rdQ res) ([.ref q_s] : List Value).toArray s 0 0 (fun _ => False) := ⟨_, rfl⟩
  rw [← hQQ]
  have w_0 := hts (Cond.fieldLink RX7 22 "TideInches$Tape" "at" "I") (List.mem_of_getElem? (i := 1) rfl)
  have w_1 := (fun w hw => List.mem_cons_of_mem _ (List.mem_append_right _ hw) : ∀ w ∈ wsX70, w ∈ wsX7_faultPlace)
  have h := hf
  unfold fX7_faultPlace at h
  refine lv_aload_n hx hb dX7_faultPlace_0 rfl (lv_at hl 0 rfl) ?_
  refine va_get (D := (dC, dI)) (ci := 5) (v := .int s_at) (C := RX7) (T := TX7) (N := 5) hx hb hts w_1 hown hK hP 0 rfl rfl 2 (by decide) w_0 (fun _ h9 => h9) rfl dX7_faultPlace_1 ?_
  rw [hQQ]
  exact W.iret (v := s_at) hx hb hr (fun t ht hW => ⟨_, rfl, Option.some.inj h, ht⟩) (fun q hq => by cases hq) dX7_faultPlace_4
def fX7_add (s_bytes : (Nat → Int32)) (s_length : Int32) (v1 : Int32) : Option (Int32 × (Nat → Int32) × Int32) :=
  (if s_length < 100 then chk (¬ (s_length < 0 ∨ 100 ≤ s_length.toNatClampNeg)) (some (1, (upd s_bytes s_length.toNatClampNeg v1), (s_length + 1))) else some (0, s_bytes, s_length))
abbrev rmX7_add : Room := { frames := 0, cells := 0, slots := 0, locals := 0 }
theorem ddX7_add : yX7_add.cls ≠ "java/lang/invoke/MethodHandle" ∧ yX7_add.cls ≠ "java/lang/invoke/VarHandle" ∧ (parseMethodDescriptor yX7_add.desc).map (fun d => d.parameters.length) = some 1 := by decide +kernel
set_option maxHeartbeats 4000000 in
set_option maxRecDepth 100000 in
theorem m_X7_add (l : Launch) (dC : Nat → ClassId) (dI : Nat → Nat → Nat) (cI cZ : ClassId) (q_s q_s_bytes : Nat) (s_bytes : (Nat → Int32)) (s_length : Int32) (s_at : Int32) (s_number : Int32) (s_faultNumber : Int32) (v1 : Int32) (sz : Nat) (res : Int32 × (Nat → Int32) × Int32) (hf : fX7_add s_bytes s_length v1 = some res) : Met l yX7_add wsX7_add rmX7_add (mtPc (dC, dI) (tyZ cI cZ) ((W_Tape cI cZ q_s q_s_bytes s_bytes s_length s_at s_number s_faultNumber)) [.ref q_s, .int v1] sz) (mtQi (dC, dI) (tyZ cI cZ) ((W_Tape cI cZ q_s q_s_bytes s_bytes s_length s_at s_number s_faultNumber)) ((W_Tape cI cZ q_s q_s_bytes res.2.1 res.2.2 s_at s_number s_faultNumber)) res.1 sz) 0 0 (va_A ((W_Tape cI cZ q_s q_s_bytes s_bytes s_length s_at s_number s_faultNumber)) sz) := by
  refine Met.ofW (cc := cX7_add) (maxL := 2) (ret := (some .boolean)) (by decide) rfl ?_
  intro p e s m args below meth c s₁ B hml hv
  obtain ⟨rfl, hsz, hP, hK, hD0⟩ := hv
  have hx := B.exec
  have hb := B.bytes
  have hr := B.returns
  have hts := atoms_spec (ws := wsX7_add) B.pre
  have hown : s.vm.findClass RX7 = some m.cls := findClass_of_methodNamed B.named
  have hlocks := B.notSynchronized
  subst hsz
  have hD := hD0.self (sz := s.heap.size)
  obtain ⟨A, hAe⟩ : ∃ A, A = va_A ((W_Tape cI cZ q_s q_s_bytes s_bytes s_length s_at s_number s_faultNumber)) s.heap.size := ⟨_, rfl⟩
  rw [← hAe] at hD
  have hA : ∀ q : Nat, s.heap.size ≤ q → A q := fun q h => by rw [hAe]; exact Or.inr h
  have hS : va_S A s.heap s.heap [] := va_S.rf
  have hl := lv_entry ([.ref q_s, .int v1]) (n := 2) (Nat.le_of_ble_eq_true rfl)
  rw [lg_entry_eq]
  generalize (lg_sl ([.ref q_s, .int v1]) ++ List.replicate (2 - (lg_sl ([.ref q_s, .int v1])).length) Slot.unset).toArray = ls at hl ⊢
  have hl : lv_has ls 2 [(0, .ref q_s), (1, .int v1)] := hl
  obtain ⟨QQ, hQQ⟩ : ∃ Q, Q = MQ below (mtQi (dC, dI) (tyZ cI cZ) ((W_Tape cI cZ q_s q_s_bytes s_bytes s_length s_at s_number s_faultNumber)) ((W_Tape cI cZ q_s q_s_bytes res.2.1 res.2.2 s_at s_number s_faultNumber)) res.1 s.heap.size) ([.ref q_s, .int v1] : List Value).toArray s 0 0 (va_A ((W_Tape cI cZ q_s q_s_bytes s_bytes s_length s_at s_number s_faultNumber)) s.heap.size) := ⟨_, rfl⟩
  rw [← hQQ]
  have w_0 := hts (Cond.fieldLink RX7 15 "TideInches$Tape" "length" "I") (List.mem_of_getElem? (i := 1) rfl)
  have w_1 := (fun w hw => List.mem_cons_of_mem _ (List.mem_append_right _ hw) : ∀ w ∈ wsX70, w ∈ wsX7_add)
  have w_2 := hts (Cond.fieldLink RX7 11 "TideInches$Tape" "bytes" "[I") (List.mem_of_getElem? (i := 2) rfl)
  have h := hf
  unfold fX7_add at h
  refine lv_aload_n hx hb dX7_add_0 rfl (lv_at hl 0 rfl) ?_
  refine va_get (D := (dC, dI)) (ci := 5) (v := .int s_length) (C := RX7) (T := TX7) (N := 5) hx hb hts w_1 hown hK hP 0 rfl rfl 1 (by decide) w_0 (fun _ h9 => h9) rfl dX7_add_1 ?_
  refine lv_bipush (v := 100) hx hb dX7_add_4 (by decide) ?_
  refine lv_icmp_lt (tgt := 11) hx hb dX7_add_6 (by decide) (fun c_1 => ?_) (fun c_1 => ?_)
  · have h := (if_pos c_1).symm.trans h
    refine lv_aload_n hx hb dX7_add_11 rfl (lv_at hl 0 rfl) ?_
    refine va_get (D := (dC, dI)) (ci := 5) (v := .ref q_s_bytes) (C := RX7) (T := TX7) (N := 5) hx hb hts w_1 hown hK hP 0 rfl rfl 0 (by decide) w_2 (fun _ h9 => h9) rfl dX7_add_12 ?_
    refine lv_aload_n hx hb dX7_add_15 rfl (lv_at hl 0 rfl) ?_
    refine va_get (D := (dC, dI)) (ci := 5) (v := .int s_length) (C := RX7) (T := TX7) (N := 5) hx hb hts w_1 hown hK hP 0 rfl rfl 1 (by decide) w_0 (fun _ h9 => h9) rfl dX7_add_16 ?_
    refine lv_iload_n hx hb dX7_add_19 rfl (lv_at hl 1 rfl) ?_
    obtain ⟨b_2, h⟩ := chk_of h
    refine va_iast hx hb hK hP hD hS 1 0 rfl rfl (i := s_length) (x := v1) b_2 dX7_add_20 (fun H locs hP hD hS => ?_)
    have hP : va_P (dC, dI) vwCl ((W_Tape cI cZ q_s q_s_bytes (upd s_bytes s_length.toNatClampNeg v1) s_length s_at s_number s_faultNumber)) H := hP
    have hD : va_D A ((W_Tape cI cZ q_s q_s_bytes (upd s_bytes s_length.toNatClampNeg v1) s_length s_at s_number s_faultNumber)) := hD
    refine lv_aload_n hx hb dX7_add_21 rfl (lv_at hl 0 rfl) ?_
    refine lv_dup hx hb dX7_add_22 rfl ?_
    refine va_get (D := (dC, dI)) (ci := 5) (v := .int s_length) (C := RX7) (T := TX7) (N := 5) hx hb hts w_1 hown hK hP 0 rfl rfl 1 (by decide) w_0 (fun _ h9 => h9) rfl dX7_add_23 ?_
    refine lv_iconst (v := 1) hx hb dX7_add_26 (by decide) ?_
    refine lv_iadd hx hb dX7_add_27 ?_
    refine va_put (D := (dC, dI)) (ci := 5) (v := .int (s_length + 1)) (ty := .int) (C := RX7) (T := TX7) (N := 5) hx hb hts w_1 tyX7 tyX7_ok nmX7 hown hK hP hD hS 0 rfl rfl 1 (by decide) w_0 (fun _ h9 => h9) rfl (by decide +kernel) rfl rfl (Nat.le_of_ble_eq_true rfl) dX7_add_28 (fun H locs hP hD hS => ?_)
    have hP : va_P (dC, dI) vwCl ((W_Tape cI cZ q_s q_s_bytes (upd s_bytes s_length.toNatClampNeg v1) (s_length + 1) s_at s_number s_faultNumber)) H := hP
    have hD : va_D A ((W_Tape cI cZ q_s q_s_bytes (upd s_bytes s_length.toNatClampNeg v1) (s_length + 1) s_at s_number s_faultNumber)) := hD
    refine lv_iconst (v := 1) hx hb dX7_add_31 (by decide) ?_
    have h := Option.some.inj h
    subst h
    rw [hQQ]
    subst hAe
    exact W.zret (v := 1) (ty := .boolean) hx hb hr rfl (fun t ht hW => ⟨⟨_, (), rfl, rfl, by rw [ht]; exact hP, va_K.moved hW.alike hK, hD⟩, hS.F ht⟩) hS.2.2 dX7_add_32
  · have h := (if_neg c_1).symm.trans h
    refine lv_iconst (v := 0) hx hb dX7_add_9 (by decide) ?_
    have h := Option.some.inj h
    subst h
    rw [hQQ]
    subst hAe
    exact W.zret (v := 0) (ty := .boolean) hx hb hr rfl (fun t ht hW => ⟨⟨_, (), rfl, rfl, by rw [ht]; exact hP, va_K.moved hW.alike hK, hD⟩, hS.F ht⟩) hS.2.2 dX7_add_10
def fX7_empty : Option (Int32) :=
  some (0)
abbrev rmX7_empty : Room := { frames := 0, cells := 0, slots := 0, locals := 0 }
theorem ddX7_empty : yX7_empty.cls ≠ "java/lang/invoke/MethodHandle" ∧ yX7_empty.cls ≠ "java/lang/invoke/VarHandle" ∧ (parseMethodDescriptor yX7_empty.desc).map (fun d => d.parameters.length) = some 0 := by decide +kernel
set_option maxHeartbeats 4000000 in
set_option maxRecDepth 100000 in
theorem m_X7_empty (l : Launch) (dC : Nat → ClassId) (dI : Nat → Nat → Nat) (cI cZ : ClassId) (q_s q_s_bytes : Nat) (s_bytes : (Nat → Int32)) (s_length : Int32) (s_at : Int32) (s_number : Int32) (s_faultNumber : Int32) (sz : Nat) (res : Int32) (hf : fX7_empty  = some res) : Met l yX7_empty wsX7_empty rmX7_empty (mtPc (dC, dI) (tyZ cI cZ) ((W_Tape cI cZ q_s q_s_bytes s_bytes s_length s_at s_number s_faultNumber)) [.ref q_s] sz) (mtQv (dC, dI) (tyZ cI cZ) ((W_Tape cI cZ q_s q_s_bytes s_bytes s_length s_at s_number s_faultNumber)) ((W_Tape cI cZ q_s q_s_bytes s_bytes res s_at s_number s_faultNumber)) sz) 0 0 (va_A ((W_Tape cI cZ q_s q_s_bytes s_bytes s_length s_at s_number s_faultNumber)) sz) := by
  refine Met.ofW (cc := cX7_empty) (maxL := 1) (ret := none) (by decide) rfl ?_
  intro p e s m args below meth c s₁ B hml hv
  obtain ⟨rfl, hsz, hP, hK, hD0⟩ := hv
  have hx := B.exec
  have hb := B.bytes
  have hr := B.returns
  have hts := atoms_spec (ws := wsX7_empty) B.pre
  have hown : s.vm.findClass RX7 = some m.cls := findClass_of_methodNamed B.named
  have hlocks := B.notSynchronized
  subst hsz
  have hD := hD0.self (sz := s.heap.size)
  obtain ⟨A, hAe⟩ : ∃ A, A = va_A ((W_Tape cI cZ q_s q_s_bytes s_bytes s_length s_at s_number s_faultNumber)) s.heap.size := ⟨_, rfl⟩
  rw [← hAe] at hD
  have hA : ∀ q : Nat, s.heap.size ≤ q → A q := fun q h => by rw [hAe]; exact Or.inr h
  have hS : va_S A s.heap s.heap [] := va_S.rf
  have hl := lv_entry ([.ref q_s]) (n := 1) (Nat.le_of_ble_eq_true rfl)
  rw [lg_entry_eq]
  generalize (lg_sl ([.ref q_s]) ++ List.replicate (1 - (lg_sl ([.ref q_s])).length) Slot.unset).toArray = ls at hl ⊢
  have hl : lv_has ls 1 [(0, .ref q_s)] := hl
  obtain ⟨QQ, hQQ⟩ : ∃ Q, Q = MQ below (mtQv (dC, dI) (tyZ cI cZ) ((W_Tape cI cZ q_s q_s_bytes s_bytes s_length s_at s_number s_faultNumber)) ((W_Tape cI cZ q_s q_s_bytes s_bytes res s_at s_number s_faultNumber)) s.heap.size) ([.ref q_s] : List Value).toArray s 0 0 (va_A ((W_Tape cI cZ q_s q_s_bytes s_bytes s_length s_at s_number s_faultNumber)) s.heap.size) := ⟨_, rfl⟩
  rw [← hQQ]
  have w_0 := hts (Cond.fieldLink RX7 15 "TideInches$Tape" "length" "I") (List.mem_of_getElem? (i := 1) rfl)
  have w_1 := (fun w hw => List.mem_cons_of_mem _ (List.mem_append_right _ hw) : ∀ w ∈ wsX70, w ∈ wsX7_empty)
  have h := hf
  unfold fX7_empty at h
  refine lv_aload_n hx hb dX7_empty_0 rfl (lv_at hl 0 rfl) ?_
  refine lv_iconst (v := 0) hx hb dX7_empty_1 (by decide) ?_
  refine va_put (D := (dC, dI)) (ci := 5) (v := .int 0) (ty := .int) (C := RX7) (T := TX7) (N := 5) hx hb hts w_1 tyX7 tyX7_ok nmX7 hown hK hP hD hS 0 rfl rfl 1 (by decide) w_0 (fun _ h9 => h9) rfl (by decide +kernel) rfl rfl (Nat.le_of_ble_eq_true rfl) dX7_empty_2 (fun H locs hP hD hS => ?_)
  have hP : va_P (dC, dI) vwCl ((W_Tape cI cZ q_s q_s_bytes s_bytes 0 s_at s_number s_faultNumber)) H := hP
  have hD : va_D A ((W_Tape cI cZ q_s q_s_bytes s_bytes 0 s_at s_number s_faultNumber)) := hD
  have h := Option.some.inj h
  subst h
  rw [hQQ]
  subst hAe
  exact W.vret hx hb hr (fun t ht hW => ⟨⟨(), rfl, trivial, by rw [ht]; exact hP, va_K.moved hW.alike hK, hD⟩, hS.F ht⟩) hS.2.2 dX7_empty_5
def fX7_next (s_bytes : (Nat → Int32)) (s_length : Int32) (s_at : Int32) : Option (Int32) :=
  (if s_length ≤ s_at then some ((-1)) else chk (¬ (s_at < 0 ∨ 100 ≤ s_at.toNatClampNeg)) (some ((s_bytes s_at.toNatClampNeg))))
abbrev rmX7_next : Room := { frames := 0, cells := 0, slots := 0, locals := 0 }
theorem ddX7_next : yX7_next.cls ≠ "java/lang/invoke/MethodHandle" ∧ yX7_next.cls ≠ "java/lang/invoke/VarHandle" ∧ (parseMethodDescriptor yX7_next.desc).map (fun d => d.parameters.length) = some 0 := by decide +kernel
set_option maxHeartbeats 4000000 in
set_option maxRecDepth 100000 in
theorem m_X7_next (l : Launch) (dC : Nat → ClassId) (dI : Nat → Nat → Nat) (cI cZ : ClassId) (q_s q_s_bytes : Nat) (s_bytes : (Nat → Int32)) (s_length : Int32) (s_at : Int32) (s_number : Int32) (s_faultNumber : Int32) (res : Int32) (hf : fX7_next s_bytes s_length s_at = some res) : Met l yX7_next wsX7_next rmX7_next (rdPc (dC, dI) (tyZ cI cZ) ((W_Tape cI cZ q_s q_s_bytes s_bytes s_length s_at s_number s_faultNumber)) [.ref q_s]) (rdQ res) 0 0 (fun _ => False) := by
  refine Met.ofW (cc := cX7_next) (maxL := 1) (ret := (some .int)) (by decide) rfl ?_
  intro p e s m args below meth c s₁ B hml hv
  obtain ⟨rfl, hP, hK⟩ := hv
  have hx := B.exec
  have hb := B.bytes
  have hr := B.returns
  have hts := atoms_spec (ws := wsX7_next) B.pre
  have hown : s.vm.findClass RX7 = some m.cls := findClass_of_methodNamed B.named
  have hlocks := B.notSynchronized
  have hl := lv_entry ([.ref q_s]) (n := 1) (Nat.le_of_ble_eq_true rfl)
  rw [lg_entry_eq]
  generalize (lg_sl ([.ref q_s]) ++ List.replicate (1 - (lg_sl ([.ref q_s])).length) Slot.unset).toArray = ls at hl ⊢
  have hl : lv_has ls 1 [(0, .ref q_s)] := hl
  obtain ⟨QQ, hQQ⟩ : ∃ Q, Q = MQ below (rdQ res) ([.ref q_s] : List Value).toArray s 0 0 (fun _ => False) := ⟨_, rfl⟩
  rw [← hQQ]
  have w_0 := hts (Cond.fieldLink RX7 22 "TideInches$Tape" "at" "I") (List.mem_of_getElem? (i := 1) rfl)
  have w_1 := (fun w hw => List.mem_cons_of_mem _ (List.mem_append_right _ hw) : ∀ w ∈ wsX70, w ∈ wsX7_next)
  have w_2 := hts (Cond.fieldLink RX7 15 "TideInches$Tape" "length" "I") (List.mem_of_getElem? (i := 2) rfl)
  have w_3 := hts (Cond.fieldLink RX7 11 "TideInches$Tape" "bytes" "[I") (List.mem_of_getElem? (i := 3) rfl)
  have h := hf
  unfold fX7_next at h
  refine lv_aload_n hx hb dX7_next_0 rfl (lv_at hl 0 rfl) ?_
  refine va_get (D := (dC, dI)) (ci := 5) (v := .int s_at) (C := RX7) (T := TX7) (N := 5) hx hb hts w_1 hown hK hP 0 rfl rfl 2 (by decide) w_0 (fun _ h9 => h9) rfl dX7_next_1 ?_
  refine lv_aload_n hx hb dX7_next_4 rfl (lv_at hl 0 rfl) ?_
  refine va_get (D := (dC, dI)) (ci := 5) (v := .int s_length) (C := RX7) (T := TX7) (N := 5) hx hb hts w_1 hown hK hP 0 rfl rfl 1 (by decide) w_2 (fun _ h9 => h9) rfl dX7_next_5 ?_
  refine lv_icmp_ge (tgt := 23) hx hb dX7_next_8 (by decide) (fun c_1 => ?_) (fun c_1 => ?_)
  · have h := (if_pos c_1).symm.trans h
    refine lv_iconst (v := (-1)) hx hb dX7_next_23 (by decide) ?_
    rw [hQQ]
    exact W.iret (v := (-1)) hx hb hr (fun t ht hW => ⟨_, rfl, Option.some.inj h, ht⟩) (fun q hq => by cases hq) dX7_next_24
  · have h := (if_neg c_1).symm.trans h
    refine lv_aload_n hx hb dX7_next_11 rfl (lv_at hl 0 rfl) ?_
    refine va_get (D := (dC, dI)) (ci := 5) (v := .ref q_s_bytes) (C := RX7) (T := TX7) (N := 5) hx hb hts w_1 hown hK hP 0 rfl rfl 0 (by decide) w_3 (fun _ h9 => h9) rfl dX7_next_12 ?_
    refine lv_aload_n hx hb dX7_next_15 rfl (lv_at hl 0 rfl) ?_
    refine va_get (D := (dC, dI)) (ci := 5) (v := .int s_at) (C := RX7) (T := TX7) (N := 5) hx hb hts w_1 hown hK hP 0 rfl rfl 2 (by decide) w_0 (fun _ h9 => h9) rfl dX7_next_16 ?_
    obtain ⟨b_2, h⟩ := chk_of h
    refine va_iald hx hb hK hP 1 0 rfl rfl (i := s_at) b_2 dX7_next_19 ?_
    refine lv_goto (tgt := 24) hx hb dX7_next_20 (by decide) ?_
    rw [hQQ]
    exact W.iret (v := (s_bytes s_at.toNatClampNeg)) hx hb hr (fun t ht hW => ⟨_, rfl, Option.some.inj h, ht⟩) (fun q hq => by cases hq) dX7_next_24
def fX7_fails (v1 : Int32) : Option (Int32 × Int32) :=
  some (0, v1)
abbrev rmX7_fails : Room := { frames := 0, cells := 0, slots := 0, locals := 0 }
theorem ddX7_fails : yX7_fails.cls ≠ "java/lang/invoke/MethodHandle" ∧ yX7_fails.cls ≠ "java/lang/invoke/VarHandle" ∧ (parseMethodDescriptor yX7_fails.desc).map (fun d => d.parameters.length) = some 1 := by decide +kernel
set_option maxHeartbeats 4000000 in
set_option maxRecDepth 100000 in
theorem m_X7_fails (l : Launch) (dC : Nat → ClassId) (dI : Nat → Nat → Nat) (cI cZ : ClassId) (q_s q_s_bytes : Nat) (s_bytes : (Nat → Int32)) (s_length : Int32) (s_at : Int32) (s_number : Int32) (s_faultNumber : Int32) (v1 : Int32) (sz : Nat) (res : Int32 × Int32) (hf : fX7_fails v1 = some res) : Met l yX7_fails wsX7_fails rmX7_fails (mtPc (dC, dI) (tyZ cI cZ) ((W_Tape cI cZ q_s q_s_bytes s_bytes s_length s_at s_number s_faultNumber)) [.ref q_s, .int v1] sz) (mtQi (dC, dI) (tyZ cI cZ) ((W_Tape cI cZ q_s q_s_bytes s_bytes s_length s_at s_number s_faultNumber)) ((W_Tape cI cZ q_s q_s_bytes s_bytes s_length s_at s_number res.2)) res.1 sz) 0 0 (va_A ((W_Tape cI cZ q_s q_s_bytes s_bytes s_length s_at s_number s_faultNumber)) sz) := by
  refine Met.ofW (cc := cX7_fails) (maxL := 2) (ret := (some .boolean)) (by decide) rfl ?_
  intro p e s m args below meth c s₁ B hml hv
  obtain ⟨rfl, hsz, hP, hK, hD0⟩ := hv
  have hx := B.exec
  have hb := B.bytes
  have hr := B.returns
  have hts := atoms_spec (ws := wsX7_fails) B.pre
  have hown : s.vm.findClass RX7 = some m.cls := findClass_of_methodNamed B.named
  have hlocks := B.notSynchronized
  subst hsz
  have hD := hD0.self (sz := s.heap.size)
  obtain ⟨A, hAe⟩ : ∃ A, A = va_A ((W_Tape cI cZ q_s q_s_bytes s_bytes s_length s_at s_number s_faultNumber)) s.heap.size := ⟨_, rfl⟩
  rw [← hAe] at hD
  have hA : ∀ q : Nat, s.heap.size ≤ q → A q := fun q h => by rw [hAe]; exact Or.inr h
  have hS : va_S A s.heap s.heap [] := va_S.rf
  have hl := lv_entry ([.ref q_s, .int v1]) (n := 2) (Nat.le_of_ble_eq_true rfl)
  rw [lg_entry_eq]
  generalize (lg_sl ([.ref q_s, .int v1]) ++ List.replicate (2 - (lg_sl ([.ref q_s, .int v1])).length) Slot.unset).toArray = ls at hl ⊢
  have hl : lv_has ls 2 [(0, .ref q_s), (1, .int v1)] := hl
  obtain ⟨QQ, hQQ⟩ : ∃ Q, Q = MQ below (mtQi (dC, dI) (tyZ cI cZ) ((W_Tape cI cZ q_s q_s_bytes s_bytes s_length s_at s_number s_faultNumber)) ((W_Tape cI cZ q_s q_s_bytes s_bytes s_length s_at s_number res.2)) res.1 s.heap.size) ([.ref q_s, .int v1] : List Value).toArray s 0 0 (va_A ((W_Tape cI cZ q_s q_s_bytes s_bytes s_length s_at s_number s_faultNumber)) s.heap.size) := ⟨_, rfl⟩
  rw [← hQQ]
  have w_0 := hts (Cond.fieldLink RX7 19 "TideInches$Tape" "faultNumber" "I") (List.mem_of_getElem? (i := 1) rfl)
  have w_1 := (fun w hw => List.mem_cons_of_mem _ (List.mem_append_right _ hw) : ∀ w ∈ wsX70, w ∈ wsX7_fails)
  have h := hf
  unfold fX7_fails at h
  refine lv_aload_n hx hb dX7_fails_0 rfl (lv_at hl 0 rfl) ?_
  refine lv_iload_n hx hb dX7_fails_1 rfl (lv_at hl 1 rfl) ?_
  refine va_put (D := (dC, dI)) (ci := 5) (v := .int v1) (ty := .int) (C := RX7) (T := TX7) (N := 5) hx hb hts w_1 tyX7 tyX7_ok nmX7 hown hK hP hD hS 0 rfl rfl 4 (by decide) w_0 (fun _ h9 => h9) rfl (by decide +kernel) rfl rfl (Nat.le_of_ble_eq_true rfl) dX7_fails_2 (fun H locs hP hD hS => ?_)
  have hP : va_P (dC, dI) vwCl ((W_Tape cI cZ q_s q_s_bytes s_bytes s_length s_at s_number v1)) H := hP
  have hD : va_D A ((W_Tape cI cZ q_s q_s_bytes s_bytes s_length s_at s_number v1)) := hD
  refine lv_iconst (v := 0) hx hb dX7_fails_5 (by decide) ?_
  have h := Option.some.inj h
  subst h
  rw [hQQ]
  subst hAe
  exact W.zret (v := 0) (ty := .boolean) hx hb hr rfl (fun t ht hW => ⟨⟨_, (), rfl, rfl, by rw [ht]; exact hP, va_K.moved hW.alike hK, hD⟩, hS.F ht⟩) hS.2.2 dX7_fails_6
def fX7_readSign (s_bytes : (Nat → Int32)) (s_length : Int32) (s_at : Int32) (s_faultNumber : Int32) (v1 : Int32) : Option (Int32 × Int32 × Int32) :=
  bd1 (fX7_next s_bytes s_length s_at) (fun r_1 => (if r_1 = v1 then some (1, (s_at + 1), s_faultNumber) else bd2 (fX7_fails 1) (fun r_3 s_faultNumber_3 => chk (r_3 = 0 ∨ r_3 = 1) (some (r_3, s_at, s_faultNumber_3)))))
abbrev rmX7_readSign : Room := { frames := 1, cells := 0, slots := 0, locals := 21 }
theorem ddX7_readSign : yX7_readSign.cls ≠ "java/lang/invoke/MethodHandle" ∧ yX7_readSign.cls ≠ "java/lang/invoke/VarHandle" ∧ (parseMethodDescriptor yX7_readSign.desc).map (fun d => d.parameters.length) = some 1 := by decide +kernel
set_option maxHeartbeats 4000000 in
set_option maxRecDepth 100000 in
theorem m_X7_readSign (l : Launch) (dC : Nat → ClassId) (dI : Nat → Nat → Nat) (cI cZ : ClassId) (q_s q_s_bytes : Nat) (s_bytes : (Nat → Int32)) (s_length : Int32) (s_at : Int32) (s_number : Int32) (s_faultNumber : Int32) (v1 : Int32) (sz : Nat) (res : Int32 × Int32 × Int32) (hf : fX7_readSign s_bytes s_length s_at s_faultNumber v1 = some res) : Met l yX7_readSign wsX7_readSign rmX7_readSign (mtPc (dC, dI) (tyZ cI cZ) ((W_Tape cI cZ q_s q_s_bytes s_bytes s_length s_at s_number s_faultNumber)) [.ref q_s, .int v1] sz) (mtQi (dC, dI) (tyZ cI cZ) ((W_Tape cI cZ q_s q_s_bytes s_bytes s_length s_at s_number s_faultNumber)) ((W_Tape cI cZ q_s q_s_bytes s_bytes s_length res.2.1 s_number res.2.2)) res.1 sz) 0 0 (va_A ((W_Tape cI cZ q_s q_s_bytes s_bytes s_length s_at s_number s_faultNumber)) sz) := by
  refine Met.ofW (cc := cX7_readSign) (maxL := 2) (ret := (some .boolean)) (by decide) rfl ?_
  intro p e s m args below meth c s₁ B hml hv
  obtain ⟨rfl, hsz, hP, hK, hD0⟩ := hv
  have hx := B.exec
  have hb := B.bytes
  have hr := B.returns
  have hts := atoms_spec (ws := wsX7_readSign) B.pre
  have hown : s.vm.findClass RX7 = some m.cls := findClass_of_methodNamed B.named
  have hlocks := B.notSynchronized
  subst hsz
  have hD := hD0.self (sz := s.heap.size)
  obtain ⟨A, hAe⟩ : ∃ A, A = va_A ((W_Tape cI cZ q_s q_s_bytes s_bytes s_length s_at s_number s_faultNumber)) s.heap.size := ⟨_, rfl⟩
  rw [← hAe] at hD
  have hA : ∀ q : Nat, s.heap.size ≤ q → A q := fun q h => by rw [hAe]; exact Or.inr h
  have hS : va_S A s.heap s.heap [] := va_S.rf
  have hl := lv_entry ([.ref q_s, .int v1]) (n := 2) (Nat.le_of_ble_eq_true rfl)
  rw [lg_entry_eq]
  generalize (lg_sl ([.ref q_s, .int v1]) ++ List.replicate (2 - (lg_sl ([.ref q_s, .int v1])).length) Slot.unset).toArray = ls at hl ⊢
  have hl : lv_has ls 2 [(0, .ref q_s), (1, .int v1)] := hl
  obtain ⟨QQ, hQQ⟩ : ∃ Q, Q = MQ below (mtQi (dC, dI) (tyZ cI cZ) ((W_Tape cI cZ q_s q_s_bytes s_bytes s_length s_at s_number s_faultNumber)) ((W_Tape cI cZ q_s q_s_bytes s_bytes s_length res.2.1 s_number res.2.2)) res.1 s.heap.size) ([.ref q_s, .int v1] : List Value).toArray s 0 0 (va_A ((W_Tape cI cZ q_s q_s_bytes s_bytes s_length s_at s_number s_faultNumber)) s.heap.size) := ⟨_, rfl⟩
  rw [← hQQ]
  have w_0 := hts (Cond.fieldLink RX7 22 "TideInches$Tape" "at" "I") (List.mem_of_getElem? (i := 1) rfl)
  have w_1 := (fun w hw => List.mem_cons_of_mem _ (List.mem_append_right _ hw) : ∀ w ∈ wsX70, w ∈ wsX7_readSign)
  have h := hf
  unfold fX7_readSign at h
  refine lv_aload_n hx hb dX7_readSign_0 rfl (lv_at hl 0 rfl) ?_
  obtain ⟨r_1, hc_1, h⟩ := bd1_of h
  refine cl_rV (As := []) (rest := []) ⟨hx, hb, hml, hown, hts⟩ (m_X7_next l dC dI cI cZ q_s q_s_bytes s_bytes s_length s_at s_number s_faultNumber (r_1) hc_1) (cwV 0 hts gX7_readSign_X7_next rfl rfl rfl ⟨rfl, ddX7_next⟩ ⟨Nat.le_of_ble_eq_true rfl, Nat.le_of_ble_eq_true rfl⟩) hK hP [0, 1] rfl rfl rfl rfl rfl hl.1 (Nat.le_of_ble_eq_true rfl) ⟨Nat.zero_le _, Nat.zero_le _⟩ dX7_readSign_1 ?_
  refine lv_iload_n hx hb dX7_readSign_4 rfl (lv_at hl 1 rfl) ?_
  refine lv_icmp_eq (tgt := 14) hx hb dX7_readSign_5 (by decide) (fun c_2 => ?_) (fun c_2 => ?_)
  · have h := (if_pos c_2).symm.trans h
    refine lv_aload_n hx hb dX7_readSign_14 rfl (lv_at hl 0 rfl) ?_
    refine lv_dup hx hb dX7_readSign_15 rfl ?_
    refine va_get (D := (dC, dI)) (ci := 5) (v := .int s_at) (C := RX7) (T := TX7) (N := 5) hx hb hts w_1 hown hK hP 0 rfl rfl 2 (by decide) w_0 (fun _ h9 => h9) rfl dX7_readSign_16 ?_
    refine lv_iconst (v := 1) hx hb dX7_readSign_19 (by decide) ?_
    refine lv_iadd hx hb dX7_readSign_20 ?_
    refine va_put (D := (dC, dI)) (ci := 5) (v := .int (s_at + 1)) (ty := .int) (C := RX7) (T := TX7) (N := 5) hx hb hts w_1 tyX7 tyX7_ok nmX7 hown hK hP hD hS 0 rfl rfl 2 (by decide) w_0 (fun _ h9 => h9) rfl (by decide +kernel) rfl rfl (Nat.le_of_ble_eq_true rfl) dX7_readSign_21 (fun H locs hP hD hS => ?_)
    have hP : va_P (dC, dI) vwCl ((W_Tape cI cZ q_s q_s_bytes s_bytes s_length (s_at + 1) s_number s_faultNumber)) H := hP
    have hD : va_D A ((W_Tape cI cZ q_s q_s_bytes s_bytes s_length (s_at + 1) s_number s_faultNumber)) := hD
    refine lv_iconst (v := 1) hx hb dX7_readSign_24 (by decide) ?_
    have h := Option.some.inj h
    subst h
    rw [hQQ]
    subst hAe
    exact W.zret (v := 1) (ty := .boolean) hx hb hr rfl (fun t ht hW => ⟨⟨_, (), rfl, rfl, by rw [ht]; exact hP, va_K.moved hW.alike hK, hD⟩, hS.F ht⟩) hS.2.2 dX7_readSign_25
  · have h := (if_neg c_2).symm.trans h
    refine lv_aload_n hx hb dX7_readSign_8 rfl (lv_at hl 0 rfl) ?_
    refine lv_iconst (v := 1) hx hb dX7_readSign_9 (by decide) ?_
    obtain ⟨r_3, s_faultNumber_3, hc_3, h⟩ := bd2_of h
    refine cl_mVi (As := [.int 1]) (rest := []) (ws' := (W_Tape cI cZ q_s q_s_bytes s_bytes s_length s_at s_number s_faultNumber_3)) (wr := []) ⟨hx, hb, hml, hown, hts⟩ (m_X7_fails l dC dI cI cZ q_s q_s_bytes s_bytes s_length s_at s_number s_faultNumber 1 _ (r_3, s_faultNumber_3) hc_3) (cwV 1 hts gX7_readSign_X7_fails rfl rfl rfl ⟨rfl, ddX7_fails⟩ ⟨Nat.le_of_ble_eq_true rfl, Nat.le_of_ble_eq_true rfl⟩) hK hP hD hS hA [0, 1] [] rfl rfl rfl rfl (by decide) [0, 1] rfl rfl rfl rfl rfl rfl rfl hl.1 (Nat.le_of_ble_eq_true rfl) ⟨Nat.zero_le _, Nat.zero_le _⟩ dX7_readSign_10 (fun H locs hP hD hS => ?_)
    obtain ⟨b_4, h⟩ := chk_of h
    have h := Option.some.inj h
    subst h
    rw [hQQ]
    subst hAe
    exact W.zret (v := r_3) (ty := .boolean) hx hb hr (zb_nar b_4) (fun t ht hW => ⟨⟨_, (), rfl, rfl, by rw [ht]; exact hP, va_K.moved hW.alike hK, hD⟩, hS.F ht⟩) hS.2.2 dX7_readSign_13
def fX7_isFigure (v0 : Int32) : Option (Int32) :=
  (if v0 < 48 then some (0) else (if 57 < v0 then some (0) else some (1)))
abbrev rmX7_isFigure : Room := { frames := 0, cells := 0, slots := 0, locals := 0 }
theorem ddX7_isFigure : yX7_isFigure.cls ≠ "java/lang/invoke/MethodHandle" ∧ yX7_isFigure.cls ≠ "java/lang/invoke/VarHandle" ∧ (parseMethodDescriptor yX7_isFigure.desc).map (fun d => d.parameters.length) = some 1 := by decide +kernel
set_option maxHeartbeats 4000000 in
set_option maxRecDepth 100000 in
theorem m_X7_isFigure (l : Launch) (v0 : Int32) (res : Int32) (hf : fX7_isFigure v0 = some res) : Met l yX7_isFigure wsX7_isFigure rmX7_isFigure (psPc [.int v0]) (rdQ res) 0 0 (fun _ => False) := by
  refine Met.ofW (cc := cX7_isFigure) (maxL := 1) (ret := (some .boolean)) (by decide) rfl ?_
  intro p e s m args below meth c s₁ B hml hv
  obtain rfl := hv
  have hx := B.exec
  have hb := B.bytes
  have hr := B.returns
  have hts := atoms_spec (ws := wsX7_isFigure) B.pre
  have hown : s.vm.findClass RX7 = some m.cls := findClass_of_methodNamed B.named
  have hlocks := B.notSynchronized
  have hl := lv_entry ([.int v0]) (n := 1) (Nat.le_of_ble_eq_true rfl)
  rw [lg_entry_eq]
  generalize (lg_sl ([.int v0]) ++ List.replicate (1 - (lg_sl ([.int v0])).length) Slot.unset).toArray = ls at hl ⊢
  have hl : lv_has ls 1 [(0, .int v0)] := hl
  obtain ⟨QQ, hQQ⟩ : ∃ Q, Q = MQ below (rdQ res) ([.int v0] : List Value).toArray s 0 0 (fun _ => False) := ⟨_, rfl⟩
  rw [← hQQ]
  have h := hf
  unfold fX7_isFigure at h
  refine lv_iload_n hx hb dX7_isFigure_0 rfl (lv_at hl 0 rfl) ?_
  refine lv_bipush (v := 48) hx hb dX7_isFigure_1 (by decide) ?_
  refine lv_icmp_lt (tgt := 16) hx hb dX7_isFigure_3 (by decide) (fun c_1 => ?_) (fun c_1 => ?_)
  · have h := (if_pos c_1).symm.trans h
    refine lv_iconst (v := 0) hx hb dX7_isFigure_16 (by decide) ?_
    rw [hQQ]
    exact W.zret (v := 0) (ty := .boolean) hx hb hr rfl (fun t ht hW => ⟨_, rfl, Option.some.inj h, ht⟩) (fun q hq => by cases hq) dX7_isFigure_17
  · have h := (if_neg c_1).symm.trans h
    refine lv_iload_n hx hb dX7_isFigure_6 rfl (lv_at hl 0 rfl) ?_
    refine lv_bipush (v := 57) hx hb dX7_isFigure_7 (by decide) ?_
    refine lv_icmp_gt (tgt := 16) hx hb dX7_isFigure_9 (by decide) (fun c_2 => ?_) (fun c_2 => ?_)
    · have h := (if_pos c_2).symm.trans h
      refine lv_iconst (v := 0) hx hb dX7_isFigure_16 (by decide) ?_
      rw [hQQ]
      exact W.zret (v := 0) (ty := .boolean) hx hb hr rfl (fun t ht hW => ⟨_, rfl, Option.some.inj h, ht⟩) (fun q hq => by cases hq) dX7_isFigure_17
    · have h := (if_neg c_2).symm.trans h
      refine lv_iconst (v := 1) hx hb dX7_isFigure_12 (by decide) ?_
      refine lv_goto (tgt := 17) hx hb dX7_isFigure_13 (by decide) ?_
      rw [hQQ]
      exact W.zret (v := 1) (ty := .boolean) hx hb hr rfl (fun t ht hW => ⟨_, rfl, Option.some.inj h, ht⟩) (fun q hq => by cases hq) dX7_isFigure_17
def fX7_readNumber_L5 (s_bytes : (Nat → Int32)) (s_length : Int32) (s_at : Int32) (k5_69 : Int32 → Int32 → Option (Int32 × Int32 × Int32 × Int32)) : Nat → Int32 → Int32 → Option (Int32 × Int32 × Int32 × Int32)
  | 0, _, _ => none
  | n + 1, v3_h5, v4_h5 => (if s_length ≤ (s_at + v3_h5) then (k5_69 v3_h5 v4_h5) else chk (¬ ((s_at + v3_h5) < 0 ∨ 100 ≤ (s_at + v3_h5).toNatClampNeg)) (bd1 (fX7_isFigure (s_bytes (s_at + v3_h5).toNatClampNeg)) (fun r_3 => (if r_3 = 0 then (k5_69 v3_h5 v4_h5) else chk (¬ ((s_at + v3_h5) < 0 ∨ 100 ≤ (s_at + v3_h5).toNatClampNeg)) (((fX7_readNumber_L5 s_bytes s_length s_at k5_69 n) (v3_h5 + 1) (imin 1000 (((10 * v4_h5) + (s_bytes (s_at + v3_h5).toNatClampNeg)) - 48))))))))
def fX7_readNumber (s_bytes : (Nat → Int32)) (s_length : Int32) (s_at : Int32) (s_number : Int32) (s_faultNumber : Int32) (v1 : Int32) (v2 : Int32) : Option (Int32 × Int32 × Int32 × Int32) :=
  (fX7_readNumber_L5 s_bytes s_length s_at (fun v3_e69 v4_e69 => (if v3_e69 < 1 then bd2 (fX7_fails 1) (fun r_7 s_faultNumber_7 => chk (r_7 = 0 ∨ r_7 = 1) (some (r_7, s_at, s_number, s_faultNumber_7))) else (if v3_e69 ≤ 2 then (if v4_e69 < v1 then bd2 (fX7_fails 2) (fun r_11 s_faultNumber_11 => chk (r_11 = 0 ∨ r_11 = 1) (some (r_11, s_at, s_number, s_faultNumber_11))) else (if v4_e69 ≤ v2 then some (1, (s_at + v3_e69), v4_e69, s_faultNumber) else bd2 (fX7_fails 2) (fun r_14 s_faultNumber_14 => chk (r_14 = 0 ∨ r_14 = 1) (some (r_14, s_at, s_number, s_faultNumber_14))))) else bd2 (fX7_fails 1) (fun r_16 s_faultNumber_16 => chk (r_16 = 0 ∨ r_16 = 1) (some (r_16, s_at, s_number, s_faultNumber_16)))))) FU 0 0)
abbrev rmX7_readNumber : Room := { frames := 1, cells := 0, slots := 0, locals := 40 }
theorem ddX7_readNumber : yX7_readNumber.cls ≠ "java/lang/invoke/MethodHandle" ∧ yX7_readNumber.cls ≠ "java/lang/invoke/VarHandle" ∧ (parseMethodDescriptor yX7_readNumber.desc).map (fun d => d.parameters.length) = some 2 := by decide +kernel
set_option maxHeartbeats 4000000 in
set_option maxRecDepth 100000 in
theorem m_X7_readNumber (l : Launch) (dC : Nat → ClassId) (dI : Nat → Nat → Nat) (cI cZ : ClassId) (q_s q_s_bytes : Nat) (s_bytes : (Nat → Int32)) (s_length : Int32) (s_at : Int32) (s_number : Int32) (s_faultNumber : Int32) (v1 : Int32) (v2 : Int32) (sz : Nat) (res : Int32 × Int32 × Int32 × Int32) (hf : fX7_readNumber s_bytes s_length s_at s_number s_faultNumber v1 v2 = some res) : Met l yX7_readNumber wsX7_readNumber rmX7_readNumber (mtPc (dC, dI) (tyZ cI cZ) ((W_Tape cI cZ q_s q_s_bytes s_bytes s_length s_at s_number s_faultNumber)) [.ref q_s, .int v1, .int v2] sz) (mtQi (dC, dI) (tyZ cI cZ) ((W_Tape cI cZ q_s q_s_bytes s_bytes s_length s_at s_number s_faultNumber)) ((W_Tape cI cZ q_s q_s_bytes s_bytes s_length res.2.1 res.2.2.1 res.2.2.2)) res.1 sz) 0 0 (va_A ((W_Tape cI cZ q_s q_s_bytes s_bytes s_length s_at s_number s_faultNumber)) sz) := by
  refine Met.ofW (cc := cX7_readNumber) (maxL := 5) (ret := (some .boolean)) (by decide) rfl ?_
  intro p e s m args below meth c s₁ B hml hv
  obtain ⟨rfl, hsz, hP, hK, hD0⟩ := hv
  have hx := B.exec
  have hb := B.bytes
  have hr := B.returns
  have hts := atoms_spec (ws := wsX7_readNumber) B.pre
  have hown : s.vm.findClass RX7 = some m.cls := findClass_of_methodNamed B.named
  have hlocks := B.notSynchronized
  subst hsz
  have hD := hD0.self (sz := s.heap.size)
  obtain ⟨A, hAe⟩ : ∃ A, A = va_A ((W_Tape cI cZ q_s q_s_bytes s_bytes s_length s_at s_number s_faultNumber)) s.heap.size := ⟨_, rfl⟩
  rw [← hAe] at hD
  have hA : ∀ q : Nat, s.heap.size ≤ q → A q := fun q h => by rw [hAe]; exact Or.inr h
  have hS : va_S A s.heap s.heap [] := va_S.rf
  have hl := lv_entry ([.ref q_s, .int v1, .int v2]) (n := 5) (Nat.le_of_ble_eq_true rfl)
  rw [lg_entry_eq]
  generalize (lg_sl ([.ref q_s, .int v1, .int v2]) ++ List.replicate (5 - (lg_sl ([.ref q_s, .int v1, .int v2])).length) Slot.unset).toArray = ls at hl ⊢
  have hl : lv_has ls 5 [(0, .ref q_s), (1, .int v1), (2, .int v2)] := hl
  obtain ⟨QQ, hQQ⟩ : ∃ Q, Q = MQ below (mtQi (dC, dI) (tyZ cI cZ) ((W_Tape cI cZ q_s q_s_bytes s_bytes s_length s_at s_number s_faultNumber)) ((W_Tape cI cZ q_s q_s_bytes s_bytes s_length res.2.1 res.2.2.1 res.2.2.2)) res.1 s.heap.size) ([.ref q_s, .int v1, .int v2] : List Value).toArray s 0 0 (va_A ((W_Tape cI cZ q_s q_s_bytes s_bytes s_length s_at s_number s_faultNumber)) s.heap.size) := ⟨_, rfl⟩
  rw [← hQQ]
  have w_0 := hts (Cond.fieldLink RX7 22 "TideInches$Tape" "at" "I") (List.mem_of_getElem? (i := 1) rfl)
  have w_1 := (fun w hw => List.mem_cons_of_mem _ (List.mem_append_right _ hw) : ∀ w ∈ wsX70, w ∈ wsX7_readNumber)
  have w_2 := hts (Cond.fieldLink RX7 15 "TideInches$Tape" "length" "I") (List.mem_of_getElem? (i := 2) rfl)
  have w_3 := hts (Cond.fieldLink RX7 11 "TideInches$Tape" "bytes" "[I") (List.mem_of_getElem? (i := 3) rfl)
  have w_4 := hts (Cond.methodLink RX7 84 Lib.Math.min.name) (List.mem_of_getElem? (i := 4) rfl)
  have w_5 := hts (Cond.static Lib.Math.min.name) (List.mem_of_getElem? (i := 5) rfl)
  have w_6 := hts (Cond.initialized "java/lang/Math") (List.mem_of_getElem? (i := 6) rfl)
  have w_7 := hts (Cond.code Lib.Math.min.name Lib.Math.min.code 2 (some .int)) (List.mem_of_getElem? (i := 7) rfl)
  have w_8 := hts (Cond.fieldLink RX7 48 "TideInches$Tape" "number" "I") (List.mem_of_getElem? (i := 8) rfl)
  have h := hf
  unfold fX7_readNumber at h
  refine lv_iconst (v := 0) hx hb dX7_readNumber_0 (by decide) ?_
  refine lv_istore_n (lv' := [(3, .int 0), (0, .ref q_s), (1, .int v1), (2, .int v2)]) hx hb dX7_readNumber_1 rfl hl (by decide) rfl (fun ls hl => ?_)
  refine lv_iconst (v := 0) hx hb dX7_readNumber_2 (by decide) ?_
  refine lv_istore (lv' := [(4, .int 0), (3, .int 0), (0, .ref q_s), (1, .int v1), (2, .int v2)]) hx hb dX7_readNumber_3 hl (by decide) rfl (fun ls hl => ?_)
  have KL5 : ∀ (k5_69 : Int32 → Int32 → Option (Int32 × Int32 × Int32 × Int32)) , (∀ (v3_e69 : Int32) (v4_e69 : Int32) (H : Heap) (locs : List Loc) (ls : Array Slot), va_P (dC, dI) vwCl ((W_Tape cI cZ q_s q_s_bytes s_bytes s_length s_at s_number s_faultNumber)) H → va_D A ((W_Tape cI cZ q_s q_s_bytes s_bytes s_length s_at s_number s_faultNumber)) → va_S A s.heap H locs → lv_has ls 5 [(0, .ref q_s), (1, .int v1), (2, .int v2), (3, .int v3_e69), (4, .int v4_e69)] → k5_69 v3_e69 v4_e69 = some res → W p l e (headSpec wsX7_readNumber rmX7_readNumber).room s m ([.ref q_s, .int v1, .int v2] : List Value).toArray below meth c H locs 0 0 QQ (F0 m 69 ls [])) → ∀ (n : Nat) (v3_h5 : Int32) (v4_h5 : Int32) (H : Heap) (locs : List Loc) (ls : Array Slot), va_P (dC, dI) vwCl ((W_Tape cI cZ q_s q_s_bytes s_bytes s_length s_at s_number s_faultNumber)) H → va_D A ((W_Tape cI cZ q_s q_s_bytes s_bytes s_length s_at s_number s_faultNumber)) → va_S A s.heap H locs → lv_has ls 5 [(0, .ref q_s), (1, .int v1), (2, .int v2), (3, .int v3_h5), (4, .int v4_h5)] → fX7_readNumber_L5 s_bytes s_length s_at k5_69 n v3_h5 v4_h5 = some res → W p l e (headSpec wsX7_readNumber rmX7_readNumber).room s m ([.ref q_s, .int v1, .int v2] : List Value).toArray below meth c H locs 0 0 QQ (F0 m 5 ls []) := by
    intro k5_69 Kk5_69 n
    induction n with
    | zero => intro v3_h5 v4_h5 H locs ls hP hD hS hl h; rw [fX7_readNumber_L5.eq_1] at h; cases h
    | succ n ih =>
      intro v3_h5 v4_h5 H locs ls hP hD hS hl h
      rw [fX7_readNumber_L5.eq_2] at h
      refine lv_aload_n hx hb dX7_readNumber_5 rfl (lv_at hl 0 rfl) ?_
      refine va_get (D := (dC, dI)) (ci := 5) (v := .int s_at) (C := RX7) (T := TX7) (N := 5) hx hb hts w_1 hown hK hP 0 rfl rfl 2 (by decide) w_0 (fun _ h9 => h9) rfl dX7_readNumber_6 ?_
      refine lv_iload_n hx hb dX7_readNumber_9 rfl (lv_at hl 3 rfl) ?_
      refine lv_iadd hx hb dX7_readNumber_10 ?_
      refine lv_aload_n hx hb dX7_readNumber_11 rfl (lv_at hl 0 rfl) ?_
      refine va_get (D := (dC, dI)) (ci := 5) (v := .int s_length) (C := RX7) (T := TX7) (N := 5) hx hb hts w_1 hown hK hP 0 rfl rfl 1 (by decide) w_2 (fun _ h9 => h9) rfl dX7_readNumber_12 ?_
      refine lv_icmp_ge (tgt := 69) hx hb dX7_readNumber_15 (by decide) (fun c_1 => ?_) (fun c_1 => ?_)
      · have h := (if_pos c_1).symm.trans h
        exact Kk5_69 v3_h5 v4_h5 _ _ _ hP hD hS (lv_sub hl [0, 1, 2, 3, 4] rfl) h
      · have h := (if_neg c_1).symm.trans h
        refine lv_aload_n hx hb dX7_readNumber_18 rfl (lv_at hl 0 rfl) ?_
        refine va_get (D := (dC, dI)) (ci := 5) (v := .ref q_s_bytes) (C := RX7) (T := TX7) (N := 5) hx hb hts w_1 hown hK hP 0 rfl rfl 0 (by decide) w_3 (fun _ h9 => h9) rfl dX7_readNumber_19 ?_
        refine lv_aload_n hx hb dX7_readNumber_22 rfl (lv_at hl 0 rfl) ?_
        refine va_get (D := (dC, dI)) (ci := 5) (v := .int s_at) (C := RX7) (T := TX7) (N := 5) hx hb hts w_1 hown hK hP 0 rfl rfl 2 (by decide) w_0 (fun _ h9 => h9) rfl dX7_readNumber_23 ?_
        refine lv_iload_n hx hb dX7_readNumber_26 rfl (lv_at hl 3 rfl) ?_
        refine lv_iadd hx hb dX7_readNumber_27 ?_
        obtain ⟨b_2, h⟩ := chk_of h
        refine va_iald hx hb hK hP 1 0 rfl rfl (i := (s_at + v3_h5)) b_2 dX7_readNumber_28 ?_
        obtain ⟨r_3, hc_3, h⟩ := bd1_of h
        refine cl_pS (As := [.int (s_bytes (s_at + v3_h5).toNatClampNeg)]) (rest := []) ⟨hx, hb, hml, hown, hts⟩ (m_X7_isFigure l (s_bytes (s_at + v3_h5).toNatClampNeg) (r_3) hc_3) (va_cwS 1 hts gX7_readNumber_X7_isFigure rfl rfl rfl ddX7_isFigure ⟨Nat.le_of_ble_eq_true rfl, Nat.le_of_ble_eq_true rfl⟩) rfl rfl hl.1 (Nat.le_of_ble_eq_true rfl) ⟨Nat.zero_le _, Nat.zero_le _⟩ dX7_readNumber_29 ?_
        refine lv_if_eq (tgt := 69) hx hb dX7_readNumber_32 (by decide) (fun c_4 => ?_) (fun c_4 => ?_)
        · have h := (if_pos c_4).symm.trans h
          exact Kk5_69 v3_h5 v4_h5 _ _ _ hP hD hS (lv_sub hl [0, 1, 2, 3, 4] rfl) h
        · have h := (if_neg c_4).symm.trans h
          refine lv_sipush (v := 1000) hx hb dX7_readNumber_35 (by decide) ?_
          refine lv_bipush (v := 10) hx hb dX7_readNumber_38 (by decide) ?_
          refine lv_iload hx hb dX7_readNumber_40 (lv_at hl 4 rfl) ?_
          refine lv_imul hx hb dX7_readNumber_42 ?_
          refine lv_aload_n hx hb dX7_readNumber_43 rfl (lv_at hl 0 rfl) ?_
          refine va_get (D := (dC, dI)) (ci := 5) (v := .ref q_s_bytes) (C := RX7) (T := TX7) (N := 5) hx hb hts w_1 hown hK hP 0 rfl rfl 0 (by decide) w_3 (fun _ h9 => h9) rfl dX7_readNumber_44 ?_
          refine lv_aload_n hx hb dX7_readNumber_47 rfl (lv_at hl 0 rfl) ?_
          refine va_get (D := (dC, dI)) (ci := 5) (v := .int s_at) (C := RX7) (T := TX7) (N := 5) hx hb hts w_1 hown hK hP 0 rfl rfl 2 (by decide) w_0 (fun _ h9 => h9) rfl dX7_readNumber_48 ?_
          refine lv_iload_n hx hb dX7_readNumber_51 rfl (lv_at hl 3 rfl) ?_
          refine lv_iadd hx hb dX7_readNumber_52 ?_
          obtain ⟨b_5, h⟩ := chk_of h
          refine va_iald hx hb hK hP 1 0 rfl rfl (i := (s_at + v3_h5)) b_5 dX7_readNumber_53 ?_
          refine lv_iadd hx hb dX7_readNumber_54 ?_
          refine lv_bipush (v := 48) hx hb dX7_readNumber_55 (by decide) ?_
          refine lv_isub hx hb dX7_readNumber_57 ?_
          refine va_mmin hx hb (hml.trans hl.1.symm) hown w_4 w_5 w_6 w_7 (Nat.le_of_ble_eq_true rfl) (Nat.le_of_ble_eq_true rfl) (Nat.zero_le _) (Nat.zero_le _) dX7_readNumber_58 ?_
          refine lv_istore (lv' := [(4, .int (imin 1000 (((10 * v4_h5) + (s_bytes (s_at + v3_h5).toNatClampNeg)) - 48))), (0, .ref q_s), (1, .int v1), (2, .int v2), (3, .int v3_h5)]) hx hb dX7_readNumber_61 hl (by decide) rfl (fun ls hl => ?_)
          refine lv_iinc (v := (v3_h5 + 1)) (lv' := [(3, .int (v3_h5 + 1)), (4, .int (imin 1000 (((10 * v4_h5) + (s_bytes (s_at + v3_h5).toNatClampNeg)) - 48))), (0, .ref q_s), (1, .int v1), (2, .int v2)]) hx hb dX7_readNumber_63 hl (k := 4) rfl rfl (by decide) rfl (fun ls hl => ?_)
          refine lv_goto (tgt := 5) hx hb dX7_readNumber_66 (by decide) ?_
          exact ih (v3_h5 + 1) (imin 1000 (((10 * v4_h5) + (s_bytes (s_at + v3_h5).toNatClampNeg)) - 48)) _ _ _ hP hD hS (lv_sub hl [2, 3, 4, 0, 1] rfl) h
  refine KL5 _ (fun v3_e69 v4_e69 H locs ls hP hD hS hl h => ?_) FU 0 0 _ _ _ hP hD hS (lv_sub hl [2, 3, 4, 1, 0] rfl) h
  refine lv_iload_n hx hb dX7_readNumber_69 rfl (lv_at hl 3 rfl) ?_
  refine lv_iconst (v := 1) hx hb dX7_readNumber_70 (by decide) ?_
  refine lv_icmp_lt (tgt := 79) hx hb dX7_readNumber_71 (by decide) (fun c_6 => ?_) (fun c_6 => ?_)
  · have h := (if_pos c_6).symm.trans h
    refine lv_aload_n hx hb dX7_readNumber_79 rfl (lv_at hl 0 rfl) ?_
    refine lv_iconst (v := 1) hx hb dX7_readNumber_80 (by decide) ?_
    obtain ⟨r_7, s_faultNumber_7, hc_7, h⟩ := bd2_of h
    refine cl_mVi (As := [.int 1]) (rest := []) (ws' := (W_Tape cI cZ q_s q_s_bytes s_bytes s_length s_at s_number s_faultNumber_7)) (wr := []) ⟨hx, hb, hml, hown, hts⟩ (m_X7_fails l dC dI cI cZ q_s q_s_bytes s_bytes s_length s_at s_number s_faultNumber 1 _ (r_7, s_faultNumber_7) hc_7) (cwV 1 hts gX7_readNumber_X7_fails rfl rfl rfl ⟨rfl, ddX7_fails⟩ ⟨Nat.le_of_ble_eq_true rfl, Nat.le_of_ble_eq_true rfl⟩) hK hP hD hS hA [0, 1] [] rfl rfl rfl rfl (by decide) [0, 1] rfl rfl rfl rfl rfl rfl rfl hl.1 (Nat.le_of_ble_eq_true rfl) ⟨Nat.zero_le _, Nat.zero_le _⟩ dX7_readNumber_81 (fun H locs hP hD hS => ?_)
    obtain ⟨b_8, h⟩ := chk_of h
    have h := Option.some.inj h
    subst h
    rw [hQQ]
    subst hAe
    exact W.zret (v := r_7) (ty := .boolean) hx hb hr (zb_nar b_8) (fun t ht hW => ⟨⟨_, (), rfl, rfl, by rw [ht]; exact hP, va_K.moved hW.alike hK, hD⟩, hS.F ht⟩) hS.2.2 dX7_readNumber_84
  · have h := (if_neg c_6).symm.trans h
    refine lv_iload_n hx hb dX7_readNumber_74 rfl (lv_at hl 3 rfl) ?_
    refine lv_iconst (v := 2) hx hb dX7_readNumber_75 (by decide) ?_
    refine lv_icmp_le (tgt := 85) hx hb dX7_readNumber_76 (by decide) (fun c_9 => ?_) (fun c_9 => ?_)
    · have h := (if_pos c_9).symm.trans h
      refine lv_iload hx hb dX7_readNumber_85 (lv_at hl 4 rfl) ?_
      refine lv_iload_n hx hb dX7_readNumber_87 rfl (lv_at hl 1 rfl) ?_
      refine lv_icmp_lt (tgt := 97) hx hb dX7_readNumber_88 (by decide) (fun c_10 => ?_) (fun c_10 => ?_)
      · have h := (if_pos c_10).symm.trans h
        refine lv_aload_n hx hb dX7_readNumber_97 rfl (lv_at hl 0 rfl) ?_
        refine lv_iconst (v := 2) hx hb dX7_readNumber_98 (by decide) ?_
        obtain ⟨r_11, s_faultNumber_11, hc_11, h⟩ := bd2_of h
        refine cl_mVi (As := [.int 2]) (rest := []) (ws' := (W_Tape cI cZ q_s q_s_bytes s_bytes s_length s_at s_number s_faultNumber_11)) (wr := []) ⟨hx, hb, hml, hown, hts⟩ (m_X7_fails l dC dI cI cZ q_s q_s_bytes s_bytes s_length s_at s_number s_faultNumber 2 _ (r_11, s_faultNumber_11) hc_11) (cwV 1 hts gX7_readNumber_X7_fails rfl rfl rfl ⟨rfl, ddX7_fails⟩ ⟨Nat.le_of_ble_eq_true rfl, Nat.le_of_ble_eq_true rfl⟩) hK hP hD hS hA [0, 1] [] rfl rfl rfl rfl (by decide) [0, 1] rfl rfl rfl rfl rfl rfl rfl hl.1 (Nat.le_of_ble_eq_true rfl) ⟨Nat.zero_le _, Nat.zero_le _⟩ dX7_readNumber_99 (fun H locs hP hD hS => ?_)
        obtain ⟨b_12, h⟩ := chk_of h
        have h := Option.some.inj h
        subst h
        rw [hQQ]
        subst hAe
        exact W.zret (v := r_11) (ty := .boolean) hx hb hr (zb_nar b_12) (fun t ht hW => ⟨⟨_, (), rfl, rfl, by rw [ht]; exact hP, va_K.moved hW.alike hK, hD⟩, hS.F ht⟩) hS.2.2 dX7_readNumber_102
      · have h := (if_neg c_10).symm.trans h
        refine lv_iload hx hb dX7_readNumber_91 (lv_at hl 4 rfl) ?_
        refine lv_iload_n hx hb dX7_readNumber_93 rfl (lv_at hl 2 rfl) ?_
        refine lv_icmp_le (tgt := 103) hx hb dX7_readNumber_94 (by decide) (fun c_13 => ?_) (fun c_13 => ?_)
        · have h := (if_pos c_13).symm.trans h
          refine lv_aload_n hx hb dX7_readNumber_103 rfl (lv_at hl 0 rfl) ?_
          refine lv_iload hx hb dX7_readNumber_104 (lv_at hl 4 rfl) ?_
          refine va_put (D := (dC, dI)) (ci := 5) (v := .int v4_e69) (ty := .int) (C := RX7) (T := TX7) (N := 5) hx hb hts w_1 tyX7 tyX7_ok nmX7 hown hK hP hD hS 0 rfl rfl 3 (by decide) w_8 (fun _ h9 => h9) rfl (by decide +kernel) rfl rfl (Nat.le_of_ble_eq_true rfl) dX7_readNumber_106 (fun H locs hP hD hS => ?_)
          have hP : va_P (dC, dI) vwCl ((W_Tape cI cZ q_s q_s_bytes s_bytes s_length s_at v4_e69 s_faultNumber)) H := hP
          have hD : va_D A ((W_Tape cI cZ q_s q_s_bytes s_bytes s_length s_at v4_e69 s_faultNumber)) := hD
          refine lv_aload_n hx hb dX7_readNumber_109 rfl (lv_at hl 0 rfl) ?_
          refine lv_dup hx hb dX7_readNumber_110 rfl ?_
          refine va_get (D := (dC, dI)) (ci := 5) (v := .int s_at) (C := RX7) (T := TX7) (N := 5) hx hb hts w_1 hown hK hP 0 rfl rfl 2 (by decide) w_0 (fun _ h9 => h9) rfl dX7_readNumber_111 ?_
          refine lv_iload_n hx hb dX7_readNumber_114 rfl (lv_at hl 3 rfl) ?_
          refine lv_iadd hx hb dX7_readNumber_115 ?_
          refine va_put (D := (dC, dI)) (ci := 5) (v := .int (s_at + v3_e69)) (ty := .int) (C := RX7) (T := TX7) (N := 5) hx hb hts w_1 tyX7 tyX7_ok nmX7 hown hK hP hD hS 0 rfl rfl 2 (by decide) w_0 (fun _ h9 => h9) rfl (by decide +kernel) rfl rfl (Nat.le_of_ble_eq_true rfl) dX7_readNumber_116 (fun H locs hP hD hS => ?_)
          have hP : va_P (dC, dI) vwCl ((W_Tape cI cZ q_s q_s_bytes s_bytes s_length (s_at + v3_e69) v4_e69 s_faultNumber)) H := hP
          have hD : va_D A ((W_Tape cI cZ q_s q_s_bytes s_bytes s_length (s_at + v3_e69) v4_e69 s_faultNumber)) := hD
          refine lv_iconst (v := 1) hx hb dX7_readNumber_119 (by decide) ?_
          have h := Option.some.inj h
          subst h
          rw [hQQ]
          subst hAe
          exact W.zret (v := 1) (ty := .boolean) hx hb hr rfl (fun t ht hW => ⟨⟨_, (), rfl, rfl, by rw [ht]; exact hP, va_K.moved hW.alike hK, hD⟩, hS.F ht⟩) hS.2.2 dX7_readNumber_120
        · have h := (if_neg c_13).symm.trans h
          refine lv_aload_n hx hb dX7_readNumber_97 rfl (lv_at hl 0 rfl) ?_
          refine lv_iconst (v := 2) hx hb dX7_readNumber_98 (by decide) ?_
          obtain ⟨r_14, s_faultNumber_14, hc_14, h⟩ := bd2_of h
          refine cl_mVi (As := [.int 2]) (rest := []) (ws' := (W_Tape cI cZ q_s q_s_bytes s_bytes s_length s_at s_number s_faultNumber_14)) (wr := []) ⟨hx, hb, hml, hown, hts⟩ (m_X7_fails l dC dI cI cZ q_s q_s_bytes s_bytes s_length s_at s_number s_faultNumber 2 _ (r_14, s_faultNumber_14) hc_14) (cwV 1 hts gX7_readNumber_X7_fails rfl rfl rfl ⟨rfl, ddX7_fails⟩ ⟨Nat.le_of_ble_eq_true rfl, Nat.le_of_ble_eq_true rfl⟩) hK hP hD hS hA [0, 1] [] rfl rfl rfl rfl (by decide) [0, 1] rfl rfl rfl rfl rfl rfl rfl hl.1 (Nat.le_of_ble_eq_true rfl) ⟨Nat.zero_le _, Nat.zero_le _⟩ dX7_readNumber_99 (fun H locs hP hD hS => ?_)
          obtain ⟨b_15, h⟩ := chk_of h
          have h := Option.some.inj h
          subst h
          rw [hQQ]
          subst hAe
          exact W.zret (v := r_14) (ty := .boolean) hx hb hr (zb_nar b_15) (fun t ht hW => ⟨⟨_, (), rfl, rfl, by rw [ht]; exact hP, va_K.moved hW.alike hK, hD⟩, hS.F ht⟩) hS.2.2 dX7_readNumber_102
    · have h := (if_neg c_9).symm.trans h
      refine lv_aload_n hx hb dX7_readNumber_79 rfl (lv_at hl 0 rfl) ?_
      refine lv_iconst (v := 1) hx hb dX7_readNumber_80 (by decide) ?_
      obtain ⟨r_16, s_faultNumber_16, hc_16, h⟩ := bd2_of h
      refine cl_mVi (As := [.int 1]) (rest := []) (ws' := (W_Tape cI cZ q_s q_s_bytes s_bytes s_length s_at s_number s_faultNumber_16)) (wr := []) ⟨hx, hb, hml, hown, hts⟩ (m_X7_fails l dC dI cI cZ q_s q_s_bytes s_bytes s_length s_at s_number s_faultNumber 1 _ (r_16, s_faultNumber_16) hc_16) (cwV 1 hts gX7_readNumber_X7_fails rfl rfl rfl ⟨rfl, ddX7_fails⟩ ⟨Nat.le_of_ble_eq_true rfl, Nat.le_of_ble_eq_true rfl⟩) hK hP hD hS hA [0, 1] [] rfl rfl rfl rfl (by decide) [0, 1] rfl rfl rfl rfl rfl rfl rfl hl.1 (Nat.le_of_ble_eq_true rfl) ⟨Nat.zero_le _, Nat.zero_le _⟩ dX7_readNumber_81 (fun H locs hP hD hS => ?_)
      obtain ⟨b_17, h⟩ := chk_of h
      have h := Option.some.inj h
      subst h
      rw [hQQ]
      subst hAe
      exact W.zret (v := r_16) (ty := .boolean) hx hb hr (zb_nar b_17) (fun t ht hW => ⟨⟨_, (), rfl, rfl, by rw [ht]; exact hP, va_K.moved hW.alike hK, hD⟩, hS.F ht⟩) hS.2.2 dX7_readNumber_84
def fX7_readLaw (s_bytes : (Nat → Int32)) (s_length : Int32) (s_at : Int32) (s_number : Int32) (s_faultNumber : Int32) (o_told : Int32) (o_low : Int32) (o_high : Int32) (o_price : Int32) : Option (Int32 × Int32 × Int32 × Int32 × Int32 × Int32 × Int32 × Int32) :=
  bd3 (fX7_readSign s_bytes s_length s_at s_faultNumber 105) (fun r_1 s_at_1 s_faultNumber_1 => (if r_1 = 0 then some (0, s_at_1, s_number, s_faultNumber_1, o_told, o_low, o_high, o_price) else bd4 (fX7_readNumber s_bytes s_length s_at_1 s_number s_faultNumber_1 0 9) (fun r_3 s_at_3 s_number_3 s_faultNumber_3 => (if r_3 = 0 then some (0, s_at_3, s_number_3, s_faultNumber_3, o_told, o_low, o_high, o_price) else bd3 (fX7_readSign s_bytes s_length s_at_3 s_faultNumber_3 44) (fun r_5 s_at_5 s_faultNumber_5 => (if r_5 = 0 then some (0, s_at_5, s_number_3, s_faultNumber_5, o_told, o_low, o_high, o_price) else bd4 (fX7_readNumber s_bytes s_length s_at_5 s_number_3 s_faultNumber_5 s_number_3 9) (fun r_7 s_at_7 s_number_7 s_faultNumber_7 => (if r_7 = 0 then some (0, s_at_7, s_number_7, s_faultNumber_7, o_told, o_low, o_high, o_price) else bd3 (fX7_readSign s_bytes s_length s_at_7 s_faultNumber_7 44) (fun r_9 s_at_9 s_faultNumber_9 => (if r_9 = 0 then some (0, s_at_9, s_number_7, s_faultNumber_9, o_told, o_low, o_high, o_price) else bd4 (fX7_readNumber s_bytes s_length s_at_9 s_number_7 s_faultNumber_9 1 9) (fun r_11 s_at_11 s_number_11 s_faultNumber_11 => (if r_11 = 0 then some (0, s_at_11, s_number_11, s_faultNumber_11, o_told, o_low, o_high, o_price) else bd4 (fX3_tellLaw s_number_3 s_number_7 s_number_11) (fun o_told_13 o_low_13 o_high_13 o_price_13 => bd3 (fX7_readSign s_bytes s_length s_at_11 s_faultNumber_11 59) (fun r_14 s_at_14 s_faultNumber_14 => chk (r_14 = 0 ∨ r_14 = 1) (some (r_14, s_at_14, s_number_11, s_faultNumber_14, o_told_13, o_low_13, o_high_13, o_price_13))))))))))))))))
abbrev rmX7_readLaw : Room := { frames := 2, cells := 0, slots := 0, locals := 64 }
theorem ddX7_readLaw : yX7_readLaw.cls ≠ "java/lang/invoke/MethodHandle" ∧ yX7_readLaw.cls ≠ "java/lang/invoke/VarHandle" ∧ (parseMethodDescriptor yX7_readLaw.desc).map (fun d => d.parameters.length) = some 1 := by decide +kernel
set_option maxHeartbeats 4000000 in
set_option maxRecDepth 100000 in
theorem m_X7_readLaw (l : Launch) (dC : Nat → ClassId) (dI : Nat → Nat → Nat) (cI cZ : ClassId) (q_s q_s_bytes q_o q_o_heights q_o_holders q_o_kinds q_o_purses q_o_homes : Nat) (s_bytes : (Nat → Int32)) (s_length : Int32) (s_at : Int32) (s_number : Int32) (s_faultNumber : Int32) (o_told : Int32) (o_low : Int32) (o_high : Int32) (o_price : Int32) (o_hour : Int32) (o_bidders : Int32) (o_heights : (Nat → Int32)) (o_holders : (Nat → Int32)) (o_kinds : (Nat → Int32)) (o_purses : (Nat → Int32)) (o_homes : (Nat → Int32)) (sz : Nat) (res : Int32 × Int32 × Int32 × Int32 × Int32 × Int32 × Int32 × Int32) (hf : fX7_readLaw s_bytes s_length s_at s_number s_faultNumber o_told o_low o_high o_price = some res) : Met l yX7_readLaw wsX7_readLaw rmX7_readLaw (mtPc (dC, dI) (tyZ cI cZ) ((W_Tape cI cZ q_s q_s_bytes s_bytes s_length s_at s_number s_faultNumber) ++ ((W_Isle cI cZ q_o q_o_heights q_o_holders q_o_kinds q_o_purses q_o_homes o_told o_low o_high o_price o_hour o_bidders o_heights o_holders o_kinds o_purses o_homes))) [.ref q_s, .ref q_o] sz) (mtQi (dC, dI) (tyZ cI cZ) ((W_Tape cI cZ q_s q_s_bytes s_bytes s_length s_at s_number s_faultNumber) ++ ((W_Isle cI cZ q_o q_o_heights q_o_holders q_o_kinds q_o_purses q_o_homes o_told o_low o_high o_price o_hour o_bidders o_heights o_holders o_kinds o_purses o_homes))) ((W_Tape cI cZ q_s q_s_bytes s_bytes s_length res.2.1 res.2.2.1 res.2.2.2.1) ++ ((W_Isle cI cZ q_o q_o_heights q_o_holders q_o_kinds q_o_purses q_o_homes res.2.2.2.2.1 res.2.2.2.2.2.1 res.2.2.2.2.2.2.1 res.2.2.2.2.2.2.2 o_hour o_bidders o_heights o_holders o_kinds o_purses o_homes))) res.1 sz) 0 0 (va_A ((W_Tape cI cZ q_s q_s_bytes s_bytes s_length s_at s_number s_faultNumber) ++ ((W_Isle cI cZ q_o q_o_heights q_o_holders q_o_kinds q_o_purses q_o_homes o_told o_low o_high o_price o_hour o_bidders o_heights o_holders o_kinds o_purses o_homes))) sz) := by
  refine Met.ofW (cc := cX7_readLaw) (maxL := 4) (ret := (some .boolean)) (by decide) rfl ?_
  intro p e s m args below meth c s₁ B hml hv
  obtain ⟨rfl, hsz, hP, hK, hD0⟩ := hv
  have hx := B.exec
  have hb := B.bytes
  have hr := B.returns
  have hts := atoms_spec (ws := wsX7_readLaw) B.pre
  have hown : s.vm.findClass RX7 = some m.cls := findClass_of_methodNamed B.named
  have hlocks := B.notSynchronized
  subst hsz
  have hD := hD0.self (sz := s.heap.size)
  obtain ⟨A, hAe⟩ : ∃ A, A = va_A ((W_Tape cI cZ q_s q_s_bytes s_bytes s_length s_at s_number s_faultNumber) ++ ((W_Isle cI cZ q_o q_o_heights q_o_holders q_o_kinds q_o_purses q_o_homes o_told o_low o_high o_price o_hour o_bidders o_heights o_holders o_kinds o_purses o_homes))) s.heap.size := ⟨_, rfl⟩
  rw [← hAe] at hD
  have hA : ∀ q : Nat, s.heap.size ≤ q → A q := fun q h => by rw [hAe]; exact Or.inr h
  have hS : va_S A s.heap s.heap [] := va_S.rf
  have hl := lv_entry ([.ref q_s, .ref q_o]) (n := 4) (Nat.le_of_ble_eq_true rfl)
  rw [lg_entry_eq]
  generalize (lg_sl ([.ref q_s, .ref q_o]) ++ List.replicate (4 - (lg_sl ([.ref q_s, .ref q_o])).length) Slot.unset).toArray = ls at hl ⊢
  have hl : lv_has ls 4 [(0, .ref q_s), (1, .ref q_o)] := hl
  obtain ⟨QQ, hQQ⟩ : ∃ Q, Q = MQ below (mtQi (dC, dI) (tyZ cI cZ) ((W_Tape cI cZ q_s q_s_bytes s_bytes s_length s_at s_number s_faultNumber) ++ ((W_Isle cI cZ q_o q_o_heights q_o_holders q_o_kinds q_o_purses q_o_homes o_told o_low o_high o_price o_hour o_bidders o_heights o_holders o_kinds o_purses o_homes))) ((W_Tape cI cZ q_s q_s_bytes s_bytes s_length res.2.1 res.2.2.1 res.2.2.2.1) ++ ((W_Isle cI cZ q_o q_o_heights q_o_holders q_o_kinds q_o_purses q_o_homes res.2.2.2.2.1 res.2.2.2.2.2.1 res.2.2.2.2.2.2.1 res.2.2.2.2.2.2.2 o_hour o_bidders o_heights o_holders o_kinds o_purses o_homes))) res.1 s.heap.size) ([.ref q_s, .ref q_o] : List Value).toArray s 0 0 (va_A ((W_Tape cI cZ q_s q_s_bytes s_bytes s_length s_at s_number s_faultNumber) ++ ((W_Isle cI cZ q_o q_o_heights q_o_holders q_o_kinds q_o_purses q_o_homes o_told o_low o_high o_price o_hour o_bidders o_heights o_holders o_kinds o_purses o_homes))) s.heap.size) := ⟨_, rfl⟩
  rw [← hQQ]
  have w_0 := hts (Cond.fieldLink RX7 48 "TideInches$Tape" "number" "I") (List.mem_of_getElem? (i := 1) rfl)
  have w_1 := (fun w hw => List.mem_cons_of_mem _ (List.mem_append_left _ (List.mem_append_right _ hw)) : ∀ w ∈ wsX70, w ∈ wsX7_readLaw)
  have h := hf
  unfold fX7_readLaw at h
  refine lv_aload_n hx hb dX7_readLaw_0 rfl (lv_at hl 0 rfl) ?_
  refine lv_bipush (v := 105) hx hb dX7_readLaw_1 (by decide) ?_
  obtain ⟨r_1, s_at_1, s_faultNumber_1, hc_1, h⟩ := bd3_of h
  refine cl_mVi (As := [.int 105]) (rest := []) (ws' := (W_Tape cI cZ q_s q_s_bytes s_bytes s_length s_at_1 s_number s_faultNumber_1) ++ ((W_Isle cI cZ q_o q_o_heights q_o_holders q_o_kinds q_o_purses q_o_homes o_told o_low o_high o_price o_hour o_bidders o_heights o_holders o_kinds o_purses o_homes))) (wr := (W_Isle cI cZ q_o q_o_heights q_o_holders q_o_kinds q_o_purses q_o_homes o_told o_low o_high o_price o_hour o_bidders o_heights o_holders o_kinds o_purses o_homes)) ⟨hx, hb, hml, hown, hts⟩ (m_X7_readSign l dC dI cI cZ q_s q_s_bytes s_bytes s_length s_at s_number s_faultNumber 105 _ (r_1, s_at_1, s_faultNumber_1) hc_1) (cwV 1 hts gX7_readLaw_X7_readSign rfl rfl rfl ⟨rfl, ddX7_readSign⟩ ⟨Nat.le_of_ble_eq_true rfl, Nat.le_of_ble_eq_true rfl⟩) hK hP hD hS hA [0, 1] [2, 3, 4, 5, 6, 7] rfl rfl rfl rfl (by decide) [6, 7, 0, 1, 2, 3, 4, 5] rfl rfl rfl rfl rfl rfl rfl hl.1 (Nat.le_of_ble_eq_true rfl) ⟨Nat.zero_le _, Nat.zero_le _⟩ dX7_readLaw_3 (fun H locs hP hD hS => ?_)
  refine lv_if_eq (tgt := 19) hx hb dX7_readLaw_6 (by decide) (fun c_2 => ?_) (fun c_2 => ?_)
  · have h := (if_pos c_2).symm.trans h
    refine lv_iconst (v := 0) hx hb dX7_readLaw_19 (by decide) ?_
    have h := Option.some.inj h
    subst h
    rw [hQQ]
    subst hAe
    exact W.zret (v := 0) (ty := .boolean) hx hb hr rfl (fun t ht hW => ⟨⟨_, (), rfl, rfl, by rw [ht]; exact hP, va_K.moved hW.alike hK, hD⟩, hS.F ht⟩) hS.2.2 dX7_readLaw_20
  · have h := (if_neg c_2).symm.trans h
    refine lv_aload_n hx hb dX7_readLaw_9 rfl (lv_at hl 0 rfl) ?_
    refine lv_iconst (v := 0) hx hb dX7_readLaw_10 (by decide) ?_
    refine lv_bipush (v := 9) hx hb dX7_readLaw_11 (by decide) ?_
    obtain ⟨r_3, s_at_3, s_number_3, s_faultNumber_3, hc_3, h⟩ := bd4_of h
    refine cl_mVi (As := [.int 0, .int 9]) (rest := []) (ws' := (W_Tape cI cZ q_s q_s_bytes s_bytes s_length s_at_3 s_number_3 s_faultNumber_3) ++ ((W_Isle cI cZ q_o q_o_heights q_o_holders q_o_kinds q_o_purses q_o_homes o_told o_low o_high o_price o_hour o_bidders o_heights o_holders o_kinds o_purses o_homes))) (wr := (W_Isle cI cZ q_o q_o_heights q_o_holders q_o_kinds q_o_purses q_o_homes o_told o_low o_high o_price o_hour o_bidders o_heights o_holders o_kinds o_purses o_homes)) ⟨hx, hb, hml, hown, hts⟩ (m_X7_readNumber l dC dI cI cZ q_s q_s_bytes s_bytes s_length s_at_1 s_number s_faultNumber_1 0 9 _ (r_3, s_at_3, s_number_3, s_faultNumber_3) hc_3) (cwV 2 hts gX7_readLaw_X7_readNumber rfl rfl rfl ⟨rfl, ddX7_readNumber⟩ ⟨Nat.le_of_ble_eq_true rfl, Nat.le_of_ble_eq_true rfl⟩) hK hP hD hS hA [0, 1] [2, 3, 4, 5, 6, 7] rfl rfl rfl rfl (by decide) [6, 7, 0, 1, 2, 3, 4, 5] rfl rfl rfl rfl rfl rfl rfl hl.1 (Nat.le_of_ble_eq_true rfl) ⟨Nat.zero_le _, Nat.zero_le _⟩ dX7_readLaw_13 (fun H locs hP hD hS => ?_)
    refine lv_if_ne (tgt := 21) hx hb dX7_readLaw_16 (by decide) (fun c_4 => ?_) (fun c_4 => ?_)
    · have h := (if_neg c_4).symm.trans h
      refine lv_aload_n hx hb dX7_readLaw_21 rfl (lv_at hl 0 rfl) ?_
      refine va_get (D := (dC, dI)) (ci := 5) (v := .int s_number_3) (C := RX7) (T := TX7) (N := 5) hx hb hts w_1 hown hK hP 0 rfl rfl 3 (by decide) w_0 (fun _ h9 => h9) rfl dX7_readLaw_22 ?_
      refine lv_istore_n (lv' := [(2, .int s_number_3), (0, .ref q_s), (1, .ref q_o)]) hx hb dX7_readLaw_25 rfl hl (by decide) rfl (fun ls hl => ?_)
      refine lv_aload_n hx hb dX7_readLaw_26 rfl (lv_at hl 1 rfl) ?_
      refine lv_bipush (v := 44) hx hb dX7_readLaw_27 (by decide) ?_
      obtain ⟨r_5, s_at_5, s_faultNumber_5, hc_5, h⟩ := bd3_of h
      refine cl_mVi (As := [.int 44]) (rest := []) (ws' := (W_Tape cI cZ q_s q_s_bytes s_bytes s_length s_at_5 s_number_3 s_faultNumber_5) ++ ((W_Isle cI cZ q_o q_o_heights q_o_holders q_o_kinds q_o_purses q_o_homes o_told o_low o_high o_price o_hour o_bidders o_heights o_holders o_kinds o_purses o_homes))) (wr := (W_Isle cI cZ q_o q_o_heights q_o_holders q_o_kinds q_o_purses q_o_homes o_told o_low o_high o_price o_hour o_bidders o_heights o_holders o_kinds o_purses o_homes)) ⟨hx, hb, hml, hown, hts⟩ (m_X7_readSign l dC dI cI cZ q_s q_s_bytes s_bytes s_length s_at_3 s_number_3 s_faultNumber_3 44 _ (r_5, s_at_5, s_faultNumber_5) hc_5) (cwV 1 hts gX7_readLaw_X7_readSign rfl rfl rfl ⟨rfl, ddX7_readSign⟩ ⟨Nat.le_of_ble_eq_true rfl, Nat.le_of_ble_eq_true rfl⟩) hK hP hD hS hA [0, 1] [2, 3, 4, 5, 6, 7] rfl rfl rfl rfl (by decide) [6, 7, 0, 1, 2, 3, 4, 5] rfl rfl rfl rfl rfl rfl rfl hl.1 (Nat.le_of_ble_eq_true rfl) ⟨Nat.zero_le _, Nat.zero_le _⟩ dX7_readLaw_29 (fun H locs hP hD hS => ?_)
      refine lv_if_eq (tgt := 45) hx hb dX7_readLaw_32 (by decide) (fun c_6 => ?_) (fun c_6 => ?_)
      · have h := (if_pos c_6).symm.trans h
        refine lv_iconst (v := 0) hx hb dX7_readLaw_45 (by decide) ?_
        have h := Option.some.inj h
        subst h
        rw [hQQ]
        subst hAe
        exact W.zret (v := 0) (ty := .boolean) hx hb hr rfl (fun t ht hW => ⟨⟨_, (), rfl, rfl, by rw [ht]; exact hP, va_K.moved hW.alike hK, hD⟩, hS.F ht⟩) hS.2.2 dX7_readLaw_46
      · have h := (if_neg c_6).symm.trans h
        refine lv_aload_n hx hb dX7_readLaw_35 rfl (lv_at hl 1 rfl) ?_
        refine lv_iload_n hx hb dX7_readLaw_36 rfl (lv_at hl 0 rfl) ?_
        refine lv_bipush (v := 9) hx hb dX7_readLaw_37 (by decide) ?_
        obtain ⟨r_7, s_at_7, s_number_7, s_faultNumber_7, hc_7, h⟩ := bd4_of h
        refine cl_mVi (As := [.int s_number_3, .int 9]) (rest := []) (ws' := (W_Tape cI cZ q_s q_s_bytes s_bytes s_length s_at_7 s_number_7 s_faultNumber_7) ++ ((W_Isle cI cZ q_o q_o_heights q_o_holders q_o_kinds q_o_purses q_o_homes o_told o_low o_high o_price o_hour o_bidders o_heights o_holders o_kinds o_purses o_homes))) (wr := (W_Isle cI cZ q_o q_o_heights q_o_holders q_o_kinds q_o_purses q_o_homes o_told o_low o_high o_price o_hour o_bidders o_heights o_holders o_kinds o_purses o_homes)) ⟨hx, hb, hml, hown, hts⟩ (m_X7_readNumber l dC dI cI cZ q_s q_s_bytes s_bytes s_length s_at_5 s_number_3 s_faultNumber_5 s_number_3 9 _ (r_7, s_at_7, s_number_7, s_faultNumber_7) hc_7) (cwV 2 hts gX7_readLaw_X7_readNumber rfl rfl rfl ⟨rfl, ddX7_readNumber⟩ ⟨Nat.le_of_ble_eq_true rfl, Nat.le_of_ble_eq_true rfl⟩) hK hP hD hS hA [0, 1] [2, 3, 4, 5, 6, 7] rfl rfl rfl rfl (by decide) [6, 7, 0, 1, 2, 3, 4, 5] rfl rfl rfl rfl rfl rfl rfl hl.1 (Nat.le_of_ble_eq_true rfl) ⟨Nat.zero_le _, Nat.zero_le _⟩ dX7_readLaw_39 (fun H locs hP hD hS => ?_)
        refine lv_if_ne (tgt := 47) hx hb dX7_readLaw_42 (by decide) (fun c_8 => ?_) (fun c_8 => ?_)
        · have h := (if_neg c_8).symm.trans h
          refine lv_aload_n hx hb dX7_readLaw_47 rfl (lv_at hl 1 rfl) ?_
          refine va_get (D := (dC, dI)) (ci := 5) (v := .int s_number_7) (C := RX7) (T := TX7) (N := 5) hx hb hts w_1 hown hK hP 0 rfl rfl 3 (by decide) w_0 (fun _ h9 => h9) rfl dX7_readLaw_48 ?_
          refine lv_istore_n (lv' := [(3, .int s_number_7), (2, .int s_number_3), (0, .ref q_s), (1, .ref q_o)]) hx hb dX7_readLaw_51 rfl hl (by decide) rfl (fun ls hl => ?_)
          refine lv_aload_n hx hb dX7_readLaw_52 rfl (lv_at hl 2 rfl) ?_
          refine lv_bipush (v := 44) hx hb dX7_readLaw_53 (by decide) ?_
          obtain ⟨r_9, s_at_9, s_faultNumber_9, hc_9, h⟩ := bd3_of h
          refine cl_mVi (As := [.int 44]) (rest := []) (ws' := (W_Tape cI cZ q_s q_s_bytes s_bytes s_length s_at_9 s_number_7 s_faultNumber_9) ++ ((W_Isle cI cZ q_o q_o_heights q_o_holders q_o_kinds q_o_purses q_o_homes o_told o_low o_high o_price o_hour o_bidders o_heights o_holders o_kinds o_purses o_homes))) (wr := (W_Isle cI cZ q_o q_o_heights q_o_holders q_o_kinds q_o_purses q_o_homes o_told o_low o_high o_price o_hour o_bidders o_heights o_holders o_kinds o_purses o_homes)) ⟨hx, hb, hml, hown, hts⟩ (m_X7_readSign l dC dI cI cZ q_s q_s_bytes s_bytes s_length s_at_7 s_number_7 s_faultNumber_7 44 _ (r_9, s_at_9, s_faultNumber_9) hc_9) (cwV 1 hts gX7_readLaw_X7_readSign rfl rfl rfl ⟨rfl, ddX7_readSign⟩ ⟨Nat.le_of_ble_eq_true rfl, Nat.le_of_ble_eq_true rfl⟩) hK hP hD hS hA [0, 1] [2, 3, 4, 5, 6, 7] rfl rfl rfl rfl (by decide) [6, 7, 0, 1, 2, 3, 4, 5] rfl rfl rfl rfl rfl rfl rfl hl.1 (Nat.le_of_ble_eq_true rfl) ⟨Nat.zero_le _, Nat.zero_le _⟩ dX7_readLaw_55 (fun H locs hP hD hS => ?_)
          refine lv_if_eq (tgt := 71) hx hb dX7_readLaw_58 (by decide) (fun c_10 => ?_) (fun c_10 => ?_)
          · have h := (if_pos c_10).symm.trans h
            refine lv_iconst (v := 0) hx hb dX7_readLaw_71 (by decide) ?_
            have h := Option.some.inj h
            subst h
            rw [hQQ]
            subst hAe
            exact W.zret (v := 0) (ty := .boolean) hx hb hr rfl (fun t ht hW => ⟨⟨_, (), rfl, rfl, by rw [ht]; exact hP, va_K.moved hW.alike hK, hD⟩, hS.F ht⟩) hS.2.2 dX7_readLaw_72
          · have h := (if_neg c_10).symm.trans h
            refine lv_aload_n hx hb dX7_readLaw_61 rfl (lv_at hl 2 rfl) ?_
            refine lv_iconst (v := 1) hx hb dX7_readLaw_62 (by decide) ?_
            refine lv_bipush (v := 9) hx hb dX7_readLaw_63 (by decide) ?_
            obtain ⟨r_11, s_at_11, s_number_11, s_faultNumber_11, hc_11, h⟩ := bd4_of h
            refine cl_mVi (As := [.int 1, .int 9]) (rest := []) (ws' := (W_Tape cI cZ q_s q_s_bytes s_bytes s_length s_at_11 s_number_11 s_faultNumber_11) ++ ((W_Isle cI cZ q_o q_o_heights q_o_holders q_o_kinds q_o_purses q_o_homes o_told o_low o_high o_price o_hour o_bidders o_heights o_holders o_kinds o_purses o_homes))) (wr := (W_Isle cI cZ q_o q_o_heights q_o_holders q_o_kinds q_o_purses q_o_homes o_told o_low o_high o_price o_hour o_bidders o_heights o_holders o_kinds o_purses o_homes)) ⟨hx, hb, hml, hown, hts⟩ (m_X7_readNumber l dC dI cI cZ q_s q_s_bytes s_bytes s_length s_at_9 s_number_7 s_faultNumber_9 1 9 _ (r_11, s_at_11, s_number_11, s_faultNumber_11) hc_11) (cwV 2 hts gX7_readLaw_X7_readNumber rfl rfl rfl ⟨rfl, ddX7_readNumber⟩ ⟨Nat.le_of_ble_eq_true rfl, Nat.le_of_ble_eq_true rfl⟩) hK hP hD hS hA [0, 1] [2, 3, 4, 5, 6, 7] rfl rfl rfl rfl (by decide) [6, 7, 0, 1, 2, 3, 4, 5] rfl rfl rfl rfl rfl rfl rfl hl.1 (Nat.le_of_ble_eq_true rfl) ⟨Nat.zero_le _, Nat.zero_le _⟩ dX7_readLaw_65 (fun H locs hP hD hS => ?_)
            refine lv_if_ne (tgt := 73) hx hb dX7_readLaw_68 (by decide) (fun c_12 => ?_) (fun c_12 => ?_)
            · have h := (if_neg c_12).symm.trans h
              refine lv_aload_n hx hb dX7_readLaw_73 rfl (lv_at hl 3 rfl) ?_
              refine lv_iload_n hx hb dX7_readLaw_74 rfl (lv_at hl 1 rfl) ?_
              refine lv_iload_n hx hb dX7_readLaw_75 rfl (lv_at hl 0 rfl) ?_
              refine lv_aload_n hx hb dX7_readLaw_76 rfl (lv_at hl 2 rfl) ?_
              refine va_get (D := (dC, dI)) (ci := 5) (v := .int s_number_11) (C := RX7) (T := TX7) (N := 5) hx hb hts w_1 hown hK hP 0 rfl rfl 3 (by decide) w_0 (fun _ h9 => h9) rfl dX7_readLaw_77 ?_
              obtain ⟨o_told_13, o_low_13, o_high_13, o_price_13, hc_13, h⟩ := bd4_of h
              refine cl_mVv (As := [.int s_number_3, .int s_number_7, .int s_number_11]) (rest := []) (ws' := (W_Tape cI cZ q_s q_s_bytes s_bytes s_length s_at_11 s_number_11 s_faultNumber_11) ++ ((W_Isle cI cZ q_o q_o_heights q_o_holders q_o_kinds q_o_purses q_o_homes o_told_13 o_low_13 o_high_13 o_price_13 o_hour o_bidders o_heights o_holders o_kinds o_purses o_homes))) (wr := (W_Tape cI cZ q_s q_s_bytes s_bytes s_length s_at_11 s_number_11 s_faultNumber_11)) ⟨hx, hb, hml, hown, hts⟩ (m_X3_tellLaw l dC dI cI cZ q_o q_o_heights q_o_holders q_o_kinds q_o_purses q_o_homes o_told o_low o_high o_price o_hour o_bidders o_heights o_holders o_kinds o_purses o_homes s_number_3 s_number_7 s_number_11 _ (o_told_13, o_low_13, o_high_13, o_price_13) hc_13) (cwV 3 hts gX7_readLaw_X3_tellLaw rfl rfl rfl ⟨rfl, ddX3_tellLaw⟩ ⟨Nat.le_of_ble_eq_true rfl, Nat.le_of_ble_eq_true rfl⟩) hK hP hD hS hA [2, 3, 4, 5, 6, 7] [0, 1] rfl rfl rfl rfl (by decide) [0, 1, 2, 3, 4, 5, 6, 7] rfl rfl rfl rfl rfl rfl rfl hl.1 (Nat.le_of_ble_eq_true rfl) ⟨Nat.zero_le _, Nat.zero_le _⟩ dX7_readLaw_80 (fun H locs hP hD hS => ?_)
              refine lv_aload_n hx hb dX7_readLaw_83 rfl (lv_at hl 2 rfl) ?_
              refine lv_bipush (v := 59) hx hb dX7_readLaw_84 (by decide) ?_
              obtain ⟨r_14, s_at_14, s_faultNumber_14, hc_14, h⟩ := bd3_of h
              refine cl_mVi (As := [.int 59]) (rest := []) (ws' := (W_Tape cI cZ q_s q_s_bytes s_bytes s_length s_at_14 s_number_11 s_faultNumber_14) ++ ((W_Isle cI cZ q_o q_o_heights q_o_holders q_o_kinds q_o_purses q_o_homes o_told_13 o_low_13 o_high_13 o_price_13 o_hour o_bidders o_heights o_holders o_kinds o_purses o_homes))) (wr := (W_Isle cI cZ q_o q_o_heights q_o_holders q_o_kinds q_o_purses q_o_homes o_told_13 o_low_13 o_high_13 o_price_13 o_hour o_bidders o_heights o_holders o_kinds o_purses o_homes)) ⟨hx, hb, hml, hown, hts⟩ (m_X7_readSign l dC dI cI cZ q_s q_s_bytes s_bytes s_length s_at_11 s_number_11 s_faultNumber_11 59 _ (r_14, s_at_14, s_faultNumber_14) hc_14) (cwV 1 hts gX7_readLaw_X7_readSign rfl rfl rfl ⟨rfl, ddX7_readSign⟩ ⟨Nat.le_of_ble_eq_true rfl, Nat.le_of_ble_eq_true rfl⟩) hK hP hD hS hA [0, 1] [2, 3, 4, 5, 6, 7] rfl rfl rfl rfl (by decide) [6, 7, 0, 1, 2, 3, 4, 5] rfl rfl rfl rfl rfl rfl rfl hl.1 (Nat.le_of_ble_eq_true rfl) ⟨Nat.zero_le _, Nat.zero_le _⟩ dX7_readLaw_86 (fun H locs hP hD hS => ?_)
              obtain ⟨b_15, h⟩ := chk_of h
              have h := Option.some.inj h
              subst h
              rw [hQQ]
              subst hAe
              exact W.zret (v := r_14) (ty := .boolean) hx hb hr (zb_nar b_15) (fun t ht hW => ⟨⟨_, (), rfl, rfl, by rw [ht]; exact hP, va_K.moved hW.alike hK, hD⟩, hS.F ht⟩) hS.2.2 dX7_readLaw_89
            · have h := (if_pos c_12).symm.trans h
              refine lv_iconst (v := 0) hx hb dX7_readLaw_71 (by decide) ?_
              have h := Option.some.inj h
              subst h
              rw [hQQ]
              subst hAe
              exact W.zret (v := 0) (ty := .boolean) hx hb hr rfl (fun t ht hW => ⟨⟨_, (), rfl, rfl, by rw [ht]; exact hP, va_K.moved hW.alike hK, hD⟩, hS.F ht⟩) hS.2.2 dX7_readLaw_72
        · have h := (if_pos c_8).symm.trans h
          refine lv_iconst (v := 0) hx hb dX7_readLaw_45 (by decide) ?_
          have h := Option.some.inj h
          subst h
          rw [hQQ]
          subst hAe
          exact W.zret (v := 0) (ty := .boolean) hx hb hr rfl (fun t ht hW => ⟨⟨_, (), rfl, rfl, by rw [ht]; exact hP, va_K.moved hW.alike hK, hD⟩, hS.F ht⟩) hS.2.2 dX7_readLaw_46
    · have h := (if_pos c_4).symm.trans h
      refine lv_iconst (v := 0) hx hb dX7_readLaw_19 (by decide) ?_
      have h := Option.some.inj h
      subst h
      rw [hQQ]
      subst hAe
      exact W.zret (v := 0) (ty := .boolean) hx hb hr rfl (fun t ht hW => ⟨⟨_, (), rfl, rfl, by rw [ht]; exact hP, va_K.moved hW.alike hK, hD⟩, hS.F ht⟩) hS.2.2 dX7_readLaw_20
def fX7_readHeights_L13 (s_bytes : (Nat → Int32)) (s_length : Int32) (k13_67 : Int32 → (Nat → Int32) → Option (Int32 × Int32 × Int32 × (Nat → Int32))) (k13_36 : Int32 → (Nat → Int32) → Option (Int32 × Int32 × Int32 × (Nat → Int32))) : Nat → Int32 → Int32 → (Nat → Int32) → Option (Int32 × Int32 × Int32 × (Nat → Int32))
  | 0, _, _, _ => none
  | n + 1, v2_h13, s_at_h13, o_heights_h13 => (if 15 ≤ v2_h13 then (k13_67 s_at_h13 o_heights_h13) else bd1 (fX7_next s_bytes s_length s_at_h13) (fun r_4 => (if r_4 < 97 then (k13_36 s_at_h13 o_heights_h13) else (if r_4 ≤ 106 then bd1 (fX3_tellHeight o_heights_h13 v2_h13 (r_4 - 97)) (fun o_heights_7 => ((fX7_readHeights_L13 s_bytes s_length k13_67 k13_36 n) (v2_h13 + 1) (s_at_h13 + 1) o_heights_7)) else (k13_36 s_at_h13 o_heights_h13)))))
def fX7_readHeights (s_bytes : (Nat → Int32)) (s_length : Int32) (s_at : Int32) (s_faultNumber : Int32) (o_heights : (Nat → Int32)) : Option (Int32 × Int32 × Int32 × (Nat → Int32)) :=
  bd3 (fX7_readSign s_bytes s_length s_at s_faultNumber 104) (fun r_1 s_at_1 s_faultNumber_1 => (if r_1 = 0 then some (0, s_at_1, s_faultNumber_1, o_heights) else (fX7_readHeights_L13 s_bytes s_length (fun s_at_e67 o_heights_e67 => bd3 (fX7_readSign s_bytes s_length s_at_e67 s_faultNumber_1 59) (fun r_8 s_at_8 s_faultNumber_8 => chk (r_8 = 0 ∨ r_8 = 1) (some (r_8, s_at_8, s_faultNumber_8, o_heights_e67)))) (fun s_at_e36 o_heights_e36 => bd2 (fX7_fails 1) (fun r_10 s_faultNumber_10 => chk (r_10 = 0 ∨ r_10 = 1) (some (r_10, s_at_e36, s_faultNumber_10, o_heights_e36)))) FU 0 s_at_1 o_heights)))
abbrev rmX7_readHeights : Room := { frames := 2, cells := 0, slots := 0, locals := 42 }
theorem ddX7_readHeights : yX7_readHeights.cls ≠ "java/lang/invoke/MethodHandle" ∧ yX7_readHeights.cls ≠ "java/lang/invoke/VarHandle" ∧ (parseMethodDescriptor yX7_readHeights.desc).map (fun d => d.parameters.length) = some 1 := by decide +kernel
set_option maxHeartbeats 4000000 in
set_option maxRecDepth 100000 in
theorem m_X7_readHeights (l : Launch) (dC : Nat → ClassId) (dI : Nat → Nat → Nat) (cI cZ : ClassId) (q_s q_s_bytes q_o q_o_heights q_o_holders q_o_kinds q_o_purses q_o_homes : Nat) (s_bytes : (Nat → Int32)) (s_length : Int32) (s_at : Int32) (s_number : Int32) (s_faultNumber : Int32) (o_told : Int32) (o_low : Int32) (o_high : Int32) (o_price : Int32) (o_hour : Int32) (o_bidders : Int32) (o_heights : (Nat → Int32)) (o_holders : (Nat → Int32)) (o_kinds : (Nat → Int32)) (o_purses : (Nat → Int32)) (o_homes : (Nat → Int32)) (sz : Nat) (res : Int32 × Int32 × Int32 × (Nat → Int32)) (hf : fX7_readHeights s_bytes s_length s_at s_faultNumber o_heights = some res) : Met l yX7_readHeights wsX7_readHeights rmX7_readHeights (mtPc (dC, dI) (tyZ cI cZ) ((W_Tape cI cZ q_s q_s_bytes s_bytes s_length s_at s_number s_faultNumber) ++ ((W_Isle cI cZ q_o q_o_heights q_o_holders q_o_kinds q_o_purses q_o_homes o_told o_low o_high o_price o_hour o_bidders o_heights o_holders o_kinds o_purses o_homes))) [.ref q_s, .ref q_o] sz) (mtQi (dC, dI) (tyZ cI cZ) ((W_Tape cI cZ q_s q_s_bytes s_bytes s_length s_at s_number s_faultNumber) ++ ((W_Isle cI cZ q_o q_o_heights q_o_holders q_o_kinds q_o_purses q_o_homes o_told o_low o_high o_price o_hour o_bidders o_heights o_holders o_kinds o_purses o_homes))) ((W_Tape cI cZ q_s q_s_bytes s_bytes s_length res.2.1 s_number res.2.2.1) ++ ((W_Isle cI cZ q_o q_o_heights q_o_holders q_o_kinds q_o_purses q_o_homes o_told o_low o_high o_price o_hour o_bidders res.2.2.2 o_holders o_kinds o_purses o_homes))) res.1 sz) 0 0 (va_A ((W_Tape cI cZ q_s q_s_bytes s_bytes s_length s_at s_number s_faultNumber) ++ ((W_Isle cI cZ q_o q_o_heights q_o_holders q_o_kinds q_o_purses q_o_homes o_told o_low o_high o_price o_hour o_bidders o_heights o_holders o_kinds o_purses o_homes))) sz) := by
  refine Met.ofW (cc := cX7_readHeights) (maxL := 4) (ret := (some .boolean)) (by decide) rfl ?_
  intro p e s m args below meth c s₁ B hml hv
  obtain ⟨rfl, hsz, hP, hK, hD0⟩ := hv
  have hx := B.exec
  have hb := B.bytes
  have hr := B.returns
  have hts := atoms_spec (ws := wsX7_readHeights) B.pre
  have hown : s.vm.findClass RX7 = some m.cls := findClass_of_methodNamed B.named
  have hlocks := B.notSynchronized
  subst hsz
  have hD := hD0.self (sz := s.heap.size)
  obtain ⟨A, hAe⟩ : ∃ A, A = va_A ((W_Tape cI cZ q_s q_s_bytes s_bytes s_length s_at s_number s_faultNumber) ++ ((W_Isle cI cZ q_o q_o_heights q_o_holders q_o_kinds q_o_purses q_o_homes o_told o_low o_high o_price o_hour o_bidders o_heights o_holders o_kinds o_purses o_homes))) s.heap.size := ⟨_, rfl⟩
  rw [← hAe] at hD
  have hA : ∀ q : Nat, s.heap.size ≤ q → A q := fun q h => by rw [hAe]; exact Or.inr h
  have hS : va_S A s.heap s.heap [] := va_S.rf
  have hl := lv_entry ([.ref q_s, .ref q_o]) (n := 4) (Nat.le_of_ble_eq_true rfl)
  rw [lg_entry_eq]
  generalize (lg_sl ([.ref q_s, .ref q_o]) ++ List.replicate (4 - (lg_sl ([.ref q_s, .ref q_o])).length) Slot.unset).toArray = ls at hl ⊢
  have hl : lv_has ls 4 [(0, .ref q_s), (1, .ref q_o)] := hl
  obtain ⟨QQ, hQQ⟩ : ∃ Q, Q = MQ below (mtQi (dC, dI) (tyZ cI cZ) ((W_Tape cI cZ q_s q_s_bytes s_bytes s_length s_at s_number s_faultNumber) ++ ((W_Isle cI cZ q_o q_o_heights q_o_holders q_o_kinds q_o_purses q_o_homes o_told o_low o_high o_price o_hour o_bidders o_heights o_holders o_kinds o_purses o_homes))) ((W_Tape cI cZ q_s q_s_bytes s_bytes s_length res.2.1 s_number res.2.2.1) ++ ((W_Isle cI cZ q_o q_o_heights q_o_holders q_o_kinds q_o_purses q_o_homes o_told o_low o_high o_price o_hour o_bidders res.2.2.2 o_holders o_kinds o_purses o_homes))) res.1 s.heap.size) ([.ref q_s, .ref q_o] : List Value).toArray s 0 0 (va_A ((W_Tape cI cZ q_s q_s_bytes s_bytes s_length s_at s_number s_faultNumber) ++ ((W_Isle cI cZ q_o q_o_heights q_o_holders q_o_kinds q_o_purses q_o_homes o_told o_low o_high o_price o_hour o_bidders o_heights o_holders o_kinds o_purses o_homes))) s.heap.size) := ⟨_, rfl⟩
  rw [← hQQ]
  have w_0 := hts (Cond.fieldLink RX7 22 "TideInches$Tape" "at" "I") (List.mem_of_getElem? (i := 1) rfl)
  have w_1 := (fun w hw => List.mem_cons_of_mem _ (List.mem_append_left _ (List.mem_append_right _ hw)) : ∀ w ∈ wsX70, w ∈ wsX7_readHeights)
  have h := hf
  unfold fX7_readHeights at h
  refine lv_aload_n hx hb dX7_readHeights_0 rfl (lv_at hl 0 rfl) ?_
  refine lv_bipush (v := 104) hx hb dX7_readHeights_1 (by decide) ?_
  obtain ⟨r_1, s_at_1, s_faultNumber_1, hc_1, h⟩ := bd3_of h
  refine cl_mVi (As := [.int 104]) (rest := []) (ws' := (W_Tape cI cZ q_s q_s_bytes s_bytes s_length s_at_1 s_number s_faultNumber_1) ++ ((W_Isle cI cZ q_o q_o_heights q_o_holders q_o_kinds q_o_purses q_o_homes o_told o_low o_high o_price o_hour o_bidders o_heights o_holders o_kinds o_purses o_homes))) (wr := (W_Isle cI cZ q_o q_o_heights q_o_holders q_o_kinds q_o_purses q_o_homes o_told o_low o_high o_price o_hour o_bidders o_heights o_holders o_kinds o_purses o_homes)) ⟨hx, hb, hml, hown, hts⟩ (m_X7_readSign l dC dI cI cZ q_s q_s_bytes s_bytes s_length s_at s_number s_faultNumber 104 _ (r_1, s_at_1, s_faultNumber_1) hc_1) (cwV 1 hts gX7_readHeights_X7_readSign rfl rfl rfl ⟨rfl, ddX7_readSign⟩ ⟨Nat.le_of_ble_eq_true rfl, Nat.le_of_ble_eq_true rfl⟩) hK hP hD hS hA [0, 1] [2, 3, 4, 5, 6, 7] rfl rfl rfl rfl (by decide) [6, 7, 0, 1, 2, 3, 4, 5] rfl rfl rfl rfl rfl rfl rfl hl.1 (Nat.le_of_ble_eq_true rfl) ⟨Nat.zero_le _, Nat.zero_le _⟩ dX7_readHeights_3 (fun H locs hP hD hS => ?_)
  refine lv_if_ne (tgt := 11) hx hb dX7_readHeights_6 (by decide) (fun c_2 => ?_) (fun c_2 => ?_)
  · have h := (if_neg c_2).symm.trans h
    refine lv_iconst (v := 0) hx hb dX7_readHeights_11 (by decide) ?_
    refine lv_istore_n (lv' := [(2, .int 0), (0, .ref q_s), (1, .ref q_o)]) hx hb dX7_readHeights_12 rfl hl (by decide) rfl (fun ls hl => ?_)
    have KL13 : ∀ (k13_67 : Int32 → (Nat → Int32) → Option (Int32 × Int32 × Int32 × (Nat → Int32))) (k13_36 : Int32 → (Nat → Int32) → Option (Int32 × Int32 × Int32 × (Nat → Int32))) , (∀ (s_at_e67 : Int32) (o_heights_e67 : (Nat → Int32)) (H : Heap) (locs : List Loc) (ls : Array Slot), va_P (dC, dI) vwCl ((W_Tape cI cZ q_s q_s_bytes s_bytes s_length s_at_e67 s_number s_faultNumber_1) ++ ((W_Isle cI cZ q_o q_o_heights q_o_holders q_o_kinds q_o_purses q_o_homes o_told o_low o_high o_price o_hour o_bidders o_heights_e67 o_holders o_kinds o_purses o_homes))) H → va_D A ((W_Tape cI cZ q_s q_s_bytes s_bytes s_length s_at_e67 s_number s_faultNumber_1) ++ ((W_Isle cI cZ q_o q_o_heights q_o_holders q_o_kinds q_o_purses q_o_homes o_told o_low o_high o_price o_hour o_bidders o_heights_e67 o_holders o_kinds o_purses o_homes))) → va_S A s.heap H locs → lv_has ls 4 [(0, .ref q_s)] → k13_67 s_at_e67 o_heights_e67 = some res → W p l e (headSpec wsX7_readHeights rmX7_readHeights).room s m ([.ref q_s, .ref q_o] : List Value).toArray below meth c H locs 0 0 QQ (F0 m 67 ls [])) → (∀ (s_at_e36 : Int32) (o_heights_e36 : (Nat → Int32)) (H : Heap) (locs : List Loc) (ls : Array Slot), va_P (dC, dI) vwCl ((W_Tape cI cZ q_s q_s_bytes s_bytes s_length s_at_e36 s_number s_faultNumber_1) ++ ((W_Isle cI cZ q_o q_o_heights q_o_holders q_o_kinds q_o_purses q_o_homes o_told o_low o_high o_price o_hour o_bidders o_heights_e36 o_holders o_kinds o_purses o_homes))) H → va_D A ((W_Tape cI cZ q_s q_s_bytes s_bytes s_length s_at_e36 s_number s_faultNumber_1) ++ ((W_Isle cI cZ q_o q_o_heights q_o_holders q_o_kinds q_o_purses q_o_homes o_told o_low o_high o_price o_hour o_bidders o_heights_e36 o_holders o_kinds o_purses o_homes))) → va_S A s.heap H locs → lv_has ls 4 [(0, .ref q_s)] → k13_36 s_at_e36 o_heights_e36 = some res → W p l e (headSpec wsX7_readHeights rmX7_readHeights).room s m ([.ref q_s, .ref q_o] : List Value).toArray below meth c H locs 0 0 QQ (F0 m 36 ls [])) → ∀ (n : Nat) (v2_h13 : Int32) (s_at_h13 : Int32) (o_heights_h13 : (Nat → Int32)) (H : Heap) (locs : List Loc) (ls : Array Slot), va_P (dC, dI) vwCl ((W_Tape cI cZ q_s q_s_bytes s_bytes s_length s_at_h13 s_number s_faultNumber_1) ++ ((W_Isle cI cZ q_o q_o_heights q_o_holders q_o_kinds q_o_purses q_o_homes o_told o_low o_high o_price o_hour o_bidders o_heights_h13 o_holders o_kinds o_purses o_homes))) H → va_D A ((W_Tape cI cZ q_s q_s_bytes s_bytes s_length s_at_h13 s_number s_faultNumber_1) ++ ((W_Isle cI cZ q_o q_o_heights q_o_holders q_o_kinds q_o_purses q_o_homes o_told o_low o_high o_price o_hour o_bidders o_heights_h13 o_holders o_kinds o_purses o_homes))) → va_S A s.heap H locs → lv_has ls 4 [(0, .ref q_s), (1, .ref q_o), (2, .int v2_h13)] → fX7_readHeights_L13 s_bytes s_length k13_67 k13_36 n v2_h13 s_at_h13 o_heights_h13 = some res → W p l e (headSpec wsX7_readHeights rmX7_readHeights).room s m ([.ref q_s, .ref q_o] : List Value).toArray below meth c H locs 0 0 QQ (F0 m 13 ls []) := by
      intro k13_67 k13_36 Kk13_67 Kk13_36 n
      induction n with
      | zero => intro v2_h13 s_at_h13 o_heights_h13 H locs ls hP hD hS hl h; rw [fX7_readHeights_L13.eq_1] at h; cases h
      | succ n ih =>
        intro v2_h13 s_at_h13 o_heights_h13 H locs ls hP hD hS hl h
        rw [fX7_readHeights_L13.eq_2] at h
        refine lv_iload_n hx hb dX7_readHeights_13 rfl (lv_at hl 2 rfl) ?_
        refine lv_bipush (v := 15) hx hb dX7_readHeights_14 (by decide) ?_
        refine lv_icmp_ge (tgt := 67) hx hb dX7_readHeights_16 (by decide) (fun c_3 => ?_) (fun c_3 => ?_)
        · have h := (if_pos c_3).symm.trans h
          exact Kk13_67 s_at_h13 o_heights_h13 _ _ _ hP hD hS (lv_sub hl [0] rfl) h
        · have h := (if_neg c_3).symm.trans h
          refine lv_aload_n hx hb dX7_readHeights_19 rfl (lv_at hl 0 rfl) ?_
          obtain ⟨r_4, hc_4, h⟩ := bd1_of h
          refine cl_rV (As := []) (rest := []) ⟨hx, hb, hml, hown, hts⟩ (m_X7_next l dC dI cI cZ q_s q_s_bytes s_bytes s_length s_at_h13 s_number s_faultNumber_1 (r_4) hc_4) (cwV 0 hts gX7_readHeights_X7_next rfl rfl rfl ⟨rfl, ddX7_next⟩ ⟨Nat.le_of_ble_eq_true rfl, Nat.le_of_ble_eq_true rfl⟩) hK hP [0, 1] rfl rfl rfl rfl rfl hl.1 (Nat.le_of_ble_eq_true rfl) ⟨Nat.zero_le _, Nat.zero_le _⟩ dX7_readHeights_20 ?_
          refine lv_istore_n (lv' := [(3, .int r_4), (0, .ref q_s), (1, .ref q_o), (2, .int v2_h13)]) hx hb dX7_readHeights_23 rfl hl (by decide) rfl (fun ls hl => ?_)
          refine lv_iload_n hx hb dX7_readHeights_24 rfl (lv_at hl 0 rfl) ?_
          refine lv_bipush (v := 97) hx hb dX7_readHeights_25 (by decide) ?_
          refine lv_icmp_lt (tgt := 36) hx hb dX7_readHeights_27 (by decide) (fun c_5 => ?_) (fun c_5 => ?_)
          · have h := (if_pos c_5).symm.trans h
            exact Kk13_36 s_at_h13 o_heights_h13 _ _ _ hP hD hS (lv_sub hl [1] rfl) h
          · have h := (if_neg c_5).symm.trans h
            refine lv_iload_n hx hb dX7_readHeights_30 rfl (lv_at hl 0 rfl) ?_
            refine lv_bipush (v := 106) hx hb dX7_readHeights_31 (by decide) ?_
            refine lv_icmp_le (tgt := 42) hx hb dX7_readHeights_33 (by decide) (fun c_6 => ?_) (fun c_6 => ?_)
            · have h := (if_pos c_6).symm.trans h
              refine lv_aload_n hx hb dX7_readHeights_42 rfl (lv_at hl 2 rfl) ?_
              refine lv_iload_n hx hb dX7_readHeights_43 rfl (lv_at hl 3 rfl) ?_
              refine lv_iload_n hx hb dX7_readHeights_44 rfl (lv_at hl 0 rfl) ?_
              refine lv_bipush (v := 97) hx hb dX7_readHeights_45 (by decide) ?_
              refine lv_isub hx hb dX7_readHeights_47 ?_
              obtain ⟨o_heights_7, hc_7, h⟩ := bd1_of h
              refine cl_mVv (As := [.int v2_h13, .int (r_4 - 97)]) (rest := []) (ws' := (W_Tape cI cZ q_s q_s_bytes s_bytes s_length s_at_h13 s_number s_faultNumber_1) ++ ((W_Isle cI cZ q_o q_o_heights q_o_holders q_o_kinds q_o_purses q_o_homes o_told o_low o_high o_price o_hour o_bidders o_heights_7 o_holders o_kinds o_purses o_homes))) (wr := (W_Tape cI cZ q_s q_s_bytes s_bytes s_length s_at_h13 s_number s_faultNumber_1)) ⟨hx, hb, hml, hown, hts⟩ (m_X3_tellHeight l dC dI cI cZ q_o q_o_heights q_o_holders q_o_kinds q_o_purses q_o_homes o_told o_low o_high o_price o_hour o_bidders o_heights_h13 o_holders o_kinds o_purses o_homes v2_h13 (r_4 - 97) _ (o_heights_7) hc_7) (cwV 2 hts gX7_readHeights_X3_tellHeight rfl rfl rfl ⟨rfl, ddX3_tellHeight⟩ ⟨Nat.le_of_ble_eq_true rfl, Nat.le_of_ble_eq_true rfl⟩) hK hP hD hS hA [2, 3, 4, 5, 6, 7] [0, 1] rfl rfl rfl rfl (by decide) [0, 1, 2, 3, 4, 5, 6, 7] rfl rfl rfl rfl rfl rfl rfl hl.1 (Nat.le_of_ble_eq_true rfl) ⟨Nat.zero_le _, Nat.zero_le _⟩ dX7_readHeights_48 (fun H locs hP hD hS => ?_)
              refine lv_aload_n hx hb dX7_readHeights_51 rfl (lv_at hl 1 rfl) ?_
              refine lv_dup hx hb dX7_readHeights_52 rfl ?_
              refine va_get (D := (dC, dI)) (ci := 5) (v := .int s_at_h13) (C := RX7) (T := TX7) (N := 5) hx hb hts w_1 hown hK hP 0 rfl rfl 2 (by decide) w_0 (fun _ h9 => h9) rfl dX7_readHeights_53 ?_
              refine lv_iconst (v := 1) hx hb dX7_readHeights_56 (by decide) ?_
              refine lv_iadd hx hb dX7_readHeights_57 ?_
              refine va_put (D := (dC, dI)) (ci := 5) (v := .int (s_at_h13 + 1)) (ty := .int) (C := RX7) (T := TX7) (N := 5) hx hb hts w_1 tyX7 tyX7_ok nmX7 hown hK hP hD hS 0 rfl rfl 2 (by decide) w_0 (fun _ h9 => h9) rfl (by decide +kernel) rfl rfl (Nat.le_of_ble_eq_true rfl) dX7_readHeights_58 (fun H locs hP hD hS => ?_)
              have hP : va_P (dC, dI) vwCl ((W_Tape cI cZ q_s q_s_bytes s_bytes s_length (s_at_h13 + 1) s_number s_faultNumber_1) ++ ((W_Isle cI cZ q_o q_o_heights q_o_holders q_o_kinds q_o_purses q_o_homes o_told o_low o_high o_price o_hour o_bidders o_heights_7 o_holders o_kinds o_purses o_homes))) H := hP
              have hD : va_D A ((W_Tape cI cZ q_s q_s_bytes s_bytes s_length (s_at_h13 + 1) s_number s_faultNumber_1) ++ ((W_Isle cI cZ q_o q_o_heights q_o_holders q_o_kinds q_o_purses q_o_homes o_told o_low o_high o_price o_hour o_bidders o_heights_7 o_holders o_kinds o_purses o_homes))) := hD
              refine lv_iinc (v := (v2_h13 + 1)) (lv' := [(2, .int (v2_h13 + 1)), (3, .int r_4), (0, .ref q_s), (1, .ref q_o)]) hx hb dX7_readHeights_61 hl (k := 3) rfl rfl (by decide) rfl (fun ls hl => ?_)
              refine lv_goto (tgt := 13) hx hb dX7_readHeights_64 (by decide) ?_
              exact ih (v2_h13 + 1) (s_at_h13 + 1) o_heights_7 _ _ _ hP hD hS (lv_sub hl [2, 3, 0] rfl) h
            · have h := (if_neg c_6).symm.trans h
              exact Kk13_36 s_at_h13 o_heights_h13 _ _ _ hP hD hS (lv_sub hl [1] rfl) h
    refine KL13 _ _ (fun s_at_e67 o_heights_e67 H locs ls hP hD hS hl h => ?_) (fun s_at_e36 o_heights_e36 H locs ls hP hD hS hl h => ?_) FU 0 s_at_1 o_heights _ _ _ hP hD hS (lv_sub hl [1, 2, 0] rfl) h
    · refine lv_aload_n hx hb dX7_readHeights_67 rfl (lv_at hl 0 rfl) ?_
      refine lv_bipush (v := 59) hx hb dX7_readHeights_68 (by decide) ?_
      obtain ⟨r_8, s_at_8, s_faultNumber_8, hc_8, h⟩ := bd3_of h
      refine cl_mVi (As := [.int 59]) (rest := []) (ws' := (W_Tape cI cZ q_s q_s_bytes s_bytes s_length s_at_8 s_number s_faultNumber_8) ++ ((W_Isle cI cZ q_o q_o_heights q_o_holders q_o_kinds q_o_purses q_o_homes o_told o_low o_high o_price o_hour o_bidders o_heights_e67 o_holders o_kinds o_purses o_homes))) (wr := (W_Isle cI cZ q_o q_o_heights q_o_holders q_o_kinds q_o_purses q_o_homes o_told o_low o_high o_price o_hour o_bidders o_heights_e67 o_holders o_kinds o_purses o_homes)) ⟨hx, hb, hml, hown, hts⟩ (m_X7_readSign l dC dI cI cZ q_s q_s_bytes s_bytes s_length s_at_e67 s_number s_faultNumber_1 59 _ (r_8, s_at_8, s_faultNumber_8) hc_8) (cwV 1 hts gX7_readHeights_X7_readSign rfl rfl rfl ⟨rfl, ddX7_readSign⟩ ⟨Nat.le_of_ble_eq_true rfl, Nat.le_of_ble_eq_true rfl⟩) hK hP hD hS hA [0, 1] [2, 3, 4, 5, 6, 7] rfl rfl rfl rfl (by decide) [6, 7, 0, 1, 2, 3, 4, 5] rfl rfl rfl rfl rfl rfl rfl hl.1 (Nat.le_of_ble_eq_true rfl) ⟨Nat.zero_le _, Nat.zero_le _⟩ dX7_readHeights_70 (fun H locs hP hD hS => ?_)
      obtain ⟨b_9, h⟩ := chk_of h
      have h := Option.some.inj h
      subst h
      rw [hQQ]
      subst hAe
      exact W.zret (v := r_8) (ty := .boolean) hx hb hr (zb_nar b_9) (fun t ht hW => ⟨⟨_, (), rfl, rfl, by rw [ht]; exact hP, va_K.moved hW.alike hK, hD⟩, hS.F ht⟩) hS.2.2 dX7_readHeights_73
    · refine lv_aload_n hx hb dX7_readHeights_36 rfl (lv_at hl 0 rfl) ?_
      refine lv_iconst (v := 1) hx hb dX7_readHeights_37 (by decide) ?_
      obtain ⟨r_10, s_faultNumber_10, hc_10, h⟩ := bd2_of h
      refine cl_mVi (As := [.int 1]) (rest := []) (ws' := (W_Tape cI cZ q_s q_s_bytes s_bytes s_length s_at_e36 s_number s_faultNumber_10) ++ ((W_Isle cI cZ q_o q_o_heights q_o_holders q_o_kinds q_o_purses q_o_homes o_told o_low o_high o_price o_hour o_bidders o_heights_e36 o_holders o_kinds o_purses o_homes))) (wr := (W_Isle cI cZ q_o q_o_heights q_o_holders q_o_kinds q_o_purses q_o_homes o_told o_low o_high o_price o_hour o_bidders o_heights_e36 o_holders o_kinds o_purses o_homes)) ⟨hx, hb, hml, hown, hts⟩ (m_X7_fails l dC dI cI cZ q_s q_s_bytes s_bytes s_length s_at_e36 s_number s_faultNumber_1 1 _ (r_10, s_faultNumber_10) hc_10) (cwV 1 hts gX7_readHeights_X7_fails rfl rfl rfl ⟨rfl, ddX7_fails⟩ ⟨Nat.le_of_ble_eq_true rfl, Nat.le_of_ble_eq_true rfl⟩) hK hP hD hS hA [0, 1] [2, 3, 4, 5, 6, 7] rfl rfl rfl rfl (by decide) [6, 7, 0, 1, 2, 3, 4, 5] rfl rfl rfl rfl rfl rfl rfl hl.1 (Nat.le_of_ble_eq_true rfl) ⟨Nat.zero_le _, Nat.zero_le _⟩ dX7_readHeights_38 (fun H locs hP hD hS => ?_)
      obtain ⟨b_11, h⟩ := chk_of h
      have h := Option.some.inj h
      subst h
      rw [hQQ]
      subst hAe
      exact W.zret (v := r_10) (ty := .boolean) hx hb hr (zb_nar b_11) (fun t ht hW => ⟨⟨_, (), rfl, rfl, by rw [ht]; exact hP, va_K.moved hW.alike hK, hD⟩, hS.F ht⟩) hS.2.2 dX7_readHeights_41
  · have h := (if_pos c_2).symm.trans h
    refine lv_iconst (v := 0) hx hb dX7_readHeights_9 (by decide) ?_
    have h := Option.some.inj h
    subst h
    rw [hQQ]
    subst hAe
    exact W.zret (v := 0) (ty := .boolean) hx hb hr rfl (fun t ht hW => ⟨⟨_, (), rfl, rfl, by rw [ht]; exact hP, va_K.moved hW.alike hK, hD⟩, hS.F ht⟩) hS.2.2 dX7_readHeights_10
def fX7_readBidder (s_bytes : (Nat → Int32)) (s_length : Int32) (s_at : Int32) (s_number : Int32) (s_faultNumber : Int32) (o_bidders : Int32) (o_kinds : (Nat → Int32)) (o_purses : (Nat → Int32)) (o_homes : (Nat → Int32)) : Option (Int32 × Int32 × Int32 × Int32 × Int32 × (Nat → Int32) × (Nat → Int32) × (Nat → Int32)) :=
  bd1 (fX7_next s_bytes s_length s_at) (fun r_1 => bd1 (fX4_told r_1) (fun r_2 => (if r_2 = (-1) then bd2 (fX7_fails 1) (fun r_17 s_faultNumber_17 => chk (r_17 = 0 ∨ r_17 = 1) (some (r_17, s_at, s_number, s_faultNumber_17, o_bidders, o_kinds, o_purses, o_homes))) else bd1 (fX3_bidders o_bidders) (fun r_4 => (if r_4 < 5 then bd4 (fX7_readNumber s_bytes s_length (s_at + 1) s_number s_faultNumber 0 99) (fun r_6 s_at_6 s_number_6 s_faultNumber_6 => (if r_6 = 0 then some (0, s_at_6, s_number_6, s_faultNumber_6, o_bidders, o_kinds, o_purses, o_homes) else bd3 (fX7_readSign s_bytes s_length s_at_6 s_faultNumber_6 44) (fun r_8 s_at_8 s_faultNumber_8 => (if r_8 = 0 then some (0, s_at_8, s_number_6, s_faultNumber_8, o_bidders, o_kinds, o_purses, o_homes) else bd4 (fX7_readNumber s_bytes s_length s_at_8 s_number_6 s_faultNumber_8 0 14) (fun r_10 s_at_10 s_number_10 s_faultNumber_10 => (if r_10 = 0 then some (0, s_at_10, s_number_10, s_faultNumber_10, o_bidders, o_kinds, o_purses, o_homes) else bd4 (fX3_tellBidder o_bidders o_kinds o_purses o_homes r_2 s_number_6 s_number_10) (fun o_bidders_12 o_kinds_12 o_purses_12 o_homes_12 => bd3 (fX7_readSign s_bytes s_length s_at_10 s_faultNumber_10 59) (fun r_13 s_at_13 s_faultNumber_13 => chk (r_13 = 0 ∨ r_13 = 1) (some (r_13, s_at_13, s_number_10, s_faultNumber_13, o_bidders_12, o_kinds_12, o_purses_12, o_homes_12)))))))))) else bd2 (fX7_fails 3) (fun r_15 s_faultNumber_15 => chk (r_15 = 0 ∨ r_15 = 1) (some (r_15, s_at, s_number, s_faultNumber_15, o_bidders, o_kinds, o_purses, o_homes))))))))
abbrev rmX7_readBidder : Room := { frames := 2, cells := 0, slots := 0, locals := 64 }
theorem ddX7_readBidder : yX7_readBidder.cls ≠ "java/lang/invoke/MethodHandle" ∧ yX7_readBidder.cls ≠ "java/lang/invoke/VarHandle" ∧ (parseMethodDescriptor yX7_readBidder.desc).map (fun d => d.parameters.length) = some 1 := by decide +kernel
set_option maxHeartbeats 4000000 in
set_option maxRecDepth 100000 in
theorem m_X7_readBidder (l : Launch) (dC : Nat → ClassId) (dI : Nat → Nat → Nat) (cI cZ : ClassId) (q_s q_s_bytes q_o q_o_heights q_o_holders q_o_kinds q_o_purses q_o_homes : Nat) (s_bytes : (Nat → Int32)) (s_length : Int32) (s_at : Int32) (s_number : Int32) (s_faultNumber : Int32) (o_told : Int32) (o_low : Int32) (o_high : Int32) (o_price : Int32) (o_hour : Int32) (o_bidders : Int32) (o_heights : (Nat → Int32)) (o_holders : (Nat → Int32)) (o_kinds : (Nat → Int32)) (o_purses : (Nat → Int32)) (o_homes : (Nat → Int32)) (sz : Nat) (res : Int32 × Int32 × Int32 × Int32 × Int32 × (Nat → Int32) × (Nat → Int32) × (Nat → Int32)) (hf : fX7_readBidder s_bytes s_length s_at s_number s_faultNumber o_bidders o_kinds o_purses o_homes = some res) : Met l yX7_readBidder wsX7_readBidder rmX7_readBidder (mtPc (dC, dI) (tyZ cI cZ) ((W_Tape cI cZ q_s q_s_bytes s_bytes s_length s_at s_number s_faultNumber) ++ ((W_Isle cI cZ q_o q_o_heights q_o_holders q_o_kinds q_o_purses q_o_homes o_told o_low o_high o_price o_hour o_bidders o_heights o_holders o_kinds o_purses o_homes))) [.ref q_s, .ref q_o] sz) (mtQi (dC, dI) (tyZ cI cZ) ((W_Tape cI cZ q_s q_s_bytes s_bytes s_length s_at s_number s_faultNumber) ++ ((W_Isle cI cZ q_o q_o_heights q_o_holders q_o_kinds q_o_purses q_o_homes o_told o_low o_high o_price o_hour o_bidders o_heights o_holders o_kinds o_purses o_homes))) ((W_Tape cI cZ q_s q_s_bytes s_bytes s_length res.2.1 res.2.2.1 res.2.2.2.1) ++ ((W_Isle cI cZ q_o q_o_heights q_o_holders q_o_kinds q_o_purses q_o_homes o_told o_low o_high o_price o_hour res.2.2.2.2.1 o_heights o_holders res.2.2.2.2.2.1 res.2.2.2.2.2.2.1 res.2.2.2.2.2.2.2))) res.1 sz) 0 0 (va_A ((W_Tape cI cZ q_s q_s_bytes s_bytes s_length s_at s_number s_faultNumber) ++ ((W_Isle cI cZ q_o q_o_heights q_o_holders q_o_kinds q_o_purses q_o_homes o_told o_low o_high o_price o_hour o_bidders o_heights o_holders o_kinds o_purses o_homes))) sz) := by
  refine Met.ofW (cc := cX7_readBidder) (maxL := 4) (ret := (some .boolean)) (by decide) rfl ?_
  intro p e s m args below meth c s₁ B hml hv
  obtain ⟨rfl, hsz, hP, hK, hD0⟩ := hv
  have hx := B.exec
  have hb := B.bytes
  have hr := B.returns
  have hts := atoms_spec (ws := wsX7_readBidder) B.pre
  have hown : s.vm.findClass RX7 = some m.cls := findClass_of_methodNamed B.named
  have hlocks := B.notSynchronized
  subst hsz
  have hD := hD0.self (sz := s.heap.size)
  obtain ⟨A, hAe⟩ : ∃ A, A = va_A ((W_Tape cI cZ q_s q_s_bytes s_bytes s_length s_at s_number s_faultNumber) ++ ((W_Isle cI cZ q_o q_o_heights q_o_holders q_o_kinds q_o_purses q_o_homes o_told o_low o_high o_price o_hour o_bidders o_heights o_holders o_kinds o_purses o_homes))) s.heap.size := ⟨_, rfl⟩
  rw [← hAe] at hD
  have hA : ∀ q : Nat, s.heap.size ≤ q → A q := fun q h => by rw [hAe]; exact Or.inr h
  have hS : va_S A s.heap s.heap [] := va_S.rf
  have hl := lv_entry ([.ref q_s, .ref q_o]) (n := 4) (Nat.le_of_ble_eq_true rfl)
  rw [lg_entry_eq]
  generalize (lg_sl ([.ref q_s, .ref q_o]) ++ List.replicate (4 - (lg_sl ([.ref q_s, .ref q_o])).length) Slot.unset).toArray = ls at hl ⊢
  have hl : lv_has ls 4 [(0, .ref q_s), (1, .ref q_o)] := hl
  obtain ⟨QQ, hQQ⟩ : ∃ Q, Q = MQ below (mtQi (dC, dI) (tyZ cI cZ) ((W_Tape cI cZ q_s q_s_bytes s_bytes s_length s_at s_number s_faultNumber) ++ ((W_Isle cI cZ q_o q_o_heights q_o_holders q_o_kinds q_o_purses q_o_homes o_told o_low o_high o_price o_hour o_bidders o_heights o_holders o_kinds o_purses o_homes))) ((W_Tape cI cZ q_s q_s_bytes s_bytes s_length res.2.1 res.2.2.1 res.2.2.2.1) ++ ((W_Isle cI cZ q_o q_o_heights q_o_holders q_o_kinds q_o_purses q_o_homes o_told o_low o_high o_price o_hour res.2.2.2.2.1 o_heights o_holders res.2.2.2.2.2.1 res.2.2.2.2.2.2.1 res.2.2.2.2.2.2.2))) res.1 s.heap.size) ([.ref q_s, .ref q_o] : List Value).toArray s 0 0 (va_A ((W_Tape cI cZ q_s q_s_bytes s_bytes s_length s_at s_number s_faultNumber) ++ ((W_Isle cI cZ q_o q_o_heights q_o_holders q_o_kinds q_o_purses q_o_homes o_told o_low o_high o_price o_hour o_bidders o_heights o_holders o_kinds o_purses o_homes))) s.heap.size) := ⟨_, rfl⟩
  rw [← hQQ]
  have w_0 := hts (Cond.fieldLink RX7 22 "TideInches$Tape" "at" "I") (List.mem_of_getElem? (i := 1) rfl)
  have w_1 := (fun w hw => List.mem_cons_of_mem _ (List.mem_append_left _ (List.mem_append_right _ hw)) : ∀ w ∈ wsX70, w ∈ wsX7_readBidder)
  have w_2 := hts (Cond.fieldLink RX7 48 "TideInches$Tape" "number" "I") (List.mem_of_getElem? (i := 2) rfl)
  have h := hf
  unfold fX7_readBidder at h
  refine lv_aload_n hx hb dX7_readBidder_0 rfl (lv_at hl 0 rfl) ?_
  obtain ⟨r_1, hc_1, h⟩ := bd1_of h
  refine cl_rV (As := []) (rest := []) ⟨hx, hb, hml, hown, hts⟩ (m_X7_next l dC dI cI cZ q_s q_s_bytes s_bytes s_length s_at s_number s_faultNumber (r_1) hc_1) (cwV 0 hts gX7_readBidder_X7_next rfl rfl rfl ⟨rfl, ddX7_next⟩ ⟨Nat.le_of_ble_eq_true rfl, Nat.le_of_ble_eq_true rfl⟩) hK hP [0, 1] rfl rfl rfl rfl rfl hl.1 (Nat.le_of_ble_eq_true rfl) ⟨Nat.zero_le _, Nat.zero_le _⟩ dX7_readBidder_1 ?_
  obtain ⟨r_2, hc_2, h⟩ := bd1_of h
  refine cl_pS (As := [.int r_1]) (rest := []) ⟨hx, hb, hml, hown, hts⟩ (m_X4_told l r_1 (r_2) hc_2) (va_cwS 1 hts gX7_readBidder_X4_told rfl rfl rfl ddX4_told ⟨Nat.le_of_ble_eq_true rfl, Nat.le_of_ble_eq_true rfl⟩) rfl rfl hl.1 (Nat.le_of_ble_eq_true rfl) ⟨Nat.zero_le _, Nat.zero_le _⟩ dX7_readBidder_4 ?_
  refine lv_istore_n (lv' := [(2, .int r_2), (0, .ref q_s), (1, .ref q_o)]) hx hb dX7_readBidder_7 rfl hl (by decide) rfl (fun ls hl => ?_)
  refine lv_iload_n hx hb dX7_readBidder_8 rfl (lv_at hl 0 rfl) ?_
  refine lv_iconst (v := (-1)) hx hb dX7_readBidder_9 (by decide) ?_
  refine lv_icmp_ne (tgt := 19) hx hb dX7_readBidder_10 (by decide) (fun c_3 => ?_) (fun c_3 => ?_)
  · have h := (if_neg c_3).symm.trans h
    refine lv_aload_n hx hb dX7_readBidder_19 rfl (lv_at hl 2 rfl) ?_
    obtain ⟨r_4, hc_4, h⟩ := bd1_of h
    refine cl_rV (As := []) (rest := []) ⟨hx, hb, hml, hown, hts⟩ (m_X3_bidders l dC dI cI cZ q_o q_o_heights q_o_holders q_o_kinds q_o_purses q_o_homes o_told o_low o_high o_price o_hour o_bidders o_heights o_holders o_kinds o_purses o_homes (r_4) hc_4) (cwV 0 hts gX7_readBidder_X3_bidders rfl rfl rfl ⟨rfl, ddX3_bidders⟩ ⟨Nat.le_of_ble_eq_true rfl, Nat.le_of_ble_eq_true rfl⟩) hK hP [2, 3, 4, 5, 6, 7] rfl rfl rfl rfl rfl hl.1 (Nat.le_of_ble_eq_true rfl) ⟨Nat.zero_le _, Nat.zero_le _⟩ dX7_readBidder_20 ?_
    refine lv_iconst (v := 5) hx hb dX7_readBidder_23 (by decide) ?_
    refine lv_icmp_lt (tgt := 33) hx hb dX7_readBidder_24 (by decide) (fun c_5 => ?_) (fun c_5 => ?_)
    · have h := (if_pos c_5).symm.trans h
      refine lv_aload_n hx hb dX7_readBidder_33 rfl (lv_at hl 1 rfl) ?_
      refine lv_dup hx hb dX7_readBidder_34 rfl ?_
      refine va_get (D := (dC, dI)) (ci := 5) (v := .int s_at) (C := RX7) (T := TX7) (N := 5) hx hb hts w_1 hown hK hP 0 rfl rfl 2 (by decide) w_0 (fun _ h9 => h9) rfl dX7_readBidder_35 ?_
      refine lv_iconst (v := 1) hx hb dX7_readBidder_38 (by decide) ?_
      refine lv_iadd hx hb dX7_readBidder_39 ?_
      refine va_put (D := (dC, dI)) (ci := 5) (v := .int (s_at + 1)) (ty := .int) (C := RX7) (T := TX7) (N := 5) hx hb hts w_1 tyX7 tyX7_ok nmX7 hown hK hP hD hS 0 rfl rfl 2 (by decide) w_0 (fun _ h9 => h9) rfl (by decide +kernel) rfl rfl (Nat.le_of_ble_eq_true rfl) dX7_readBidder_40 (fun H locs hP hD hS => ?_)
      have hP : va_P (dC, dI) vwCl ((W_Tape cI cZ q_s q_s_bytes s_bytes s_length (s_at + 1) s_number s_faultNumber) ++ ((W_Isle cI cZ q_o q_o_heights q_o_holders q_o_kinds q_o_purses q_o_homes o_told o_low o_high o_price o_hour o_bidders o_heights o_holders o_kinds o_purses o_homes))) H := hP
      have hD : va_D A ((W_Tape cI cZ q_s q_s_bytes s_bytes s_length (s_at + 1) s_number s_faultNumber) ++ ((W_Isle cI cZ q_o q_o_heights q_o_holders q_o_kinds q_o_purses q_o_homes o_told o_low o_high o_price o_hour o_bidders o_heights o_holders o_kinds o_purses o_homes))) := hD
      refine lv_aload_n hx hb dX7_readBidder_43 rfl (lv_at hl 1 rfl) ?_
      refine lv_iconst (v := 0) hx hb dX7_readBidder_44 (by decide) ?_
      refine lv_bipush (v := 99) hx hb dX7_readBidder_45 (by decide) ?_
      obtain ⟨r_6, s_at_6, s_number_6, s_faultNumber_6, hc_6, h⟩ := bd4_of h
      refine cl_mVi (As := [.int 0, .int 99]) (rest := []) (ws' := (W_Tape cI cZ q_s q_s_bytes s_bytes s_length s_at_6 s_number_6 s_faultNumber_6) ++ ((W_Isle cI cZ q_o q_o_heights q_o_holders q_o_kinds q_o_purses q_o_homes o_told o_low o_high o_price o_hour o_bidders o_heights o_holders o_kinds o_purses o_homes))) (wr := (W_Isle cI cZ q_o q_o_heights q_o_holders q_o_kinds q_o_purses q_o_homes o_told o_low o_high o_price o_hour o_bidders o_heights o_holders o_kinds o_purses o_homes)) ⟨hx, hb, hml, hown, hts⟩ (m_X7_readNumber l dC dI cI cZ q_s q_s_bytes s_bytes s_length (s_at + 1) s_number s_faultNumber 0 99 _ (r_6, s_at_6, s_number_6, s_faultNumber_6) hc_6) (cwV 2 hts gX7_readBidder_X7_readNumber rfl rfl rfl ⟨rfl, ddX7_readNumber⟩ ⟨Nat.le_of_ble_eq_true rfl, Nat.le_of_ble_eq_true rfl⟩) hK hP hD hS hA [0, 1] [2, 3, 4, 5, 6, 7] rfl rfl rfl rfl (by decide) [6, 7, 0, 1, 2, 3, 4, 5] rfl rfl rfl rfl rfl rfl rfl hl.1 (Nat.le_of_ble_eq_true rfl) ⟨Nat.zero_le _, Nat.zero_le _⟩ dX7_readBidder_47 (fun H locs hP hD hS => ?_)
      refine lv_if_ne (tgt := 55) hx hb dX7_readBidder_50 (by decide) (fun c_7 => ?_) (fun c_7 => ?_)
      · have h := (if_neg c_7).symm.trans h
        refine lv_aload_n hx hb dX7_readBidder_55 rfl (lv_at hl 1 rfl) ?_
        refine va_get (D := (dC, dI)) (ci := 5) (v := .int s_number_6) (C := RX7) (T := TX7) (N := 5) hx hb hts w_1 hown hK hP 0 rfl rfl 3 (by decide) w_2 (fun _ h9 => h9) rfl dX7_readBidder_56 ?_
        refine lv_istore_n (lv' := [(3, .int s_number_6), (2, .int r_2), (0, .ref q_s), (1, .ref q_o)]) hx hb dX7_readBidder_59 rfl hl (by decide) rfl (fun ls hl => ?_)
        refine lv_aload_n hx hb dX7_readBidder_60 rfl (lv_at hl 2 rfl) ?_
        refine lv_bipush (v := 44) hx hb dX7_readBidder_61 (by decide) ?_
        obtain ⟨r_8, s_at_8, s_faultNumber_8, hc_8, h⟩ := bd3_of h
        refine cl_mVi (As := [.int 44]) (rest := []) (ws' := (W_Tape cI cZ q_s q_s_bytes s_bytes s_length s_at_8 s_number_6 s_faultNumber_8) ++ ((W_Isle cI cZ q_o q_o_heights q_o_holders q_o_kinds q_o_purses q_o_homes o_told o_low o_high o_price o_hour o_bidders o_heights o_holders o_kinds o_purses o_homes))) (wr := (W_Isle cI cZ q_o q_o_heights q_o_holders q_o_kinds q_o_purses q_o_homes o_told o_low o_high o_price o_hour o_bidders o_heights o_holders o_kinds o_purses o_homes)) ⟨hx, hb, hml, hown, hts⟩ (m_X7_readSign l dC dI cI cZ q_s q_s_bytes s_bytes s_length s_at_6 s_number_6 s_faultNumber_6 44 _ (r_8, s_at_8, s_faultNumber_8) hc_8) (cwV 1 hts gX7_readBidder_X7_readSign rfl rfl rfl ⟨rfl, ddX7_readSign⟩ ⟨Nat.le_of_ble_eq_true rfl, Nat.le_of_ble_eq_true rfl⟩) hK hP hD hS hA [0, 1] [2, 3, 4, 5, 6, 7] rfl rfl rfl rfl (by decide) [6, 7, 0, 1, 2, 3, 4, 5] rfl rfl rfl rfl rfl rfl rfl hl.1 (Nat.le_of_ble_eq_true rfl) ⟨Nat.zero_le _, Nat.zero_le _⟩ dX7_readBidder_63 (fun H locs hP hD hS => ?_)
        refine lv_if_eq (tgt := 79) hx hb dX7_readBidder_66 (by decide) (fun c_9 => ?_) (fun c_9 => ?_)
        · have h := (if_pos c_9).symm.trans h
          refine lv_iconst (v := 0) hx hb dX7_readBidder_79 (by decide) ?_
          have h := Option.some.inj h
          subst h
          rw [hQQ]
          subst hAe
          exact W.zret (v := 0) (ty := .boolean) hx hb hr rfl (fun t ht hW => ⟨⟨_, (), rfl, rfl, by rw [ht]; exact hP, va_K.moved hW.alike hK, hD⟩, hS.F ht⟩) hS.2.2 dX7_readBidder_80
        · have h := (if_neg c_9).symm.trans h
          refine lv_aload_n hx hb dX7_readBidder_69 rfl (lv_at hl 2 rfl) ?_
          refine lv_iconst (v := 0) hx hb dX7_readBidder_70 (by decide) ?_
          refine lv_bipush (v := 14) hx hb dX7_readBidder_71 (by decide) ?_
          obtain ⟨r_10, s_at_10, s_number_10, s_faultNumber_10, hc_10, h⟩ := bd4_of h
          refine cl_mVi (As := [.int 0, .int 14]) (rest := []) (ws' := (W_Tape cI cZ q_s q_s_bytes s_bytes s_length s_at_10 s_number_10 s_faultNumber_10) ++ ((W_Isle cI cZ q_o q_o_heights q_o_holders q_o_kinds q_o_purses q_o_homes o_told o_low o_high o_price o_hour o_bidders o_heights o_holders o_kinds o_purses o_homes))) (wr := (W_Isle cI cZ q_o q_o_heights q_o_holders q_o_kinds q_o_purses q_o_homes o_told o_low o_high o_price o_hour o_bidders o_heights o_holders o_kinds o_purses o_homes)) ⟨hx, hb, hml, hown, hts⟩ (m_X7_readNumber l dC dI cI cZ q_s q_s_bytes s_bytes s_length s_at_8 s_number_6 s_faultNumber_8 0 14 _ (r_10, s_at_10, s_number_10, s_faultNumber_10) hc_10) (cwV 2 hts gX7_readBidder_X7_readNumber rfl rfl rfl ⟨rfl, ddX7_readNumber⟩ ⟨Nat.le_of_ble_eq_true rfl, Nat.le_of_ble_eq_true rfl⟩) hK hP hD hS hA [0, 1] [2, 3, 4, 5, 6, 7] rfl rfl rfl rfl (by decide) [6, 7, 0, 1, 2, 3, 4, 5] rfl rfl rfl rfl rfl rfl rfl hl.1 (Nat.le_of_ble_eq_true rfl) ⟨Nat.zero_le _, Nat.zero_le _⟩ dX7_readBidder_73 (fun H locs hP hD hS => ?_)
          refine lv_if_ne (tgt := 81) hx hb dX7_readBidder_76 (by decide) (fun c_11 => ?_) (fun c_11 => ?_)
          · have h := (if_neg c_11).symm.trans h
            refine lv_aload_n hx hb dX7_readBidder_81 rfl (lv_at hl 3 rfl) ?_
            refine lv_iload_n hx hb dX7_readBidder_82 rfl (lv_at hl 1 rfl) ?_
            refine lv_iload_n hx hb dX7_readBidder_83 rfl (lv_at hl 0 rfl) ?_
            refine lv_aload_n hx hb dX7_readBidder_84 rfl (lv_at hl 2 rfl) ?_
            refine va_get (D := (dC, dI)) (ci := 5) (v := .int s_number_10) (C := RX7) (T := TX7) (N := 5) hx hb hts w_1 hown hK hP 0 rfl rfl 3 (by decide) w_2 (fun _ h9 => h9) rfl dX7_readBidder_85 ?_
            obtain ⟨o_bidders_12, o_kinds_12, o_purses_12, o_homes_12, hc_12, h⟩ := bd4_of h
            refine cl_mVv (As := [.int r_2, .int s_number_6, .int s_number_10]) (rest := []) (ws' := (W_Tape cI cZ q_s q_s_bytes s_bytes s_length s_at_10 s_number_10 s_faultNumber_10) ++ ((W_Isle cI cZ q_o q_o_heights q_o_holders q_o_kinds q_o_purses q_o_homes o_told o_low o_high o_price o_hour o_bidders_12 o_heights o_holders o_kinds_12 o_purses_12 o_homes_12))) (wr := (W_Tape cI cZ q_s q_s_bytes s_bytes s_length s_at_10 s_number_10 s_faultNumber_10)) ⟨hx, hb, hml, hown, hts⟩ (m_X3_tellBidder l dC dI cI cZ q_o q_o_heights q_o_holders q_o_kinds q_o_purses q_o_homes o_told o_low o_high o_price o_hour o_bidders o_heights o_holders o_kinds o_purses o_homes r_2 s_number_6 s_number_10 _ (o_bidders_12, o_kinds_12, o_purses_12, o_homes_12) hc_12) (cwV 3 hts gX7_readBidder_X3_tellBidder rfl rfl rfl ⟨rfl, ddX3_tellBidder⟩ ⟨Nat.le_of_ble_eq_true rfl, Nat.le_of_ble_eq_true rfl⟩) hK hP hD hS hA [2, 3, 4, 5, 6, 7] [0, 1] rfl rfl rfl rfl (by decide) [0, 1, 2, 3, 4, 5, 6, 7] rfl rfl rfl rfl rfl rfl rfl hl.1 (Nat.le_of_ble_eq_true rfl) ⟨Nat.zero_le _, Nat.zero_le _⟩ dX7_readBidder_88 (fun H locs hP hD hS => ?_)
            refine lv_aload_n hx hb dX7_readBidder_91 rfl (lv_at hl 2 rfl) ?_
            refine lv_bipush (v := 59) hx hb dX7_readBidder_92 (by decide) ?_
            obtain ⟨r_13, s_at_13, s_faultNumber_13, hc_13, h⟩ := bd3_of h
            refine cl_mVi (As := [.int 59]) (rest := []) (ws' := (W_Tape cI cZ q_s q_s_bytes s_bytes s_length s_at_13 s_number_10 s_faultNumber_13) ++ ((W_Isle cI cZ q_o q_o_heights q_o_holders q_o_kinds q_o_purses q_o_homes o_told o_low o_high o_price o_hour o_bidders_12 o_heights o_holders o_kinds_12 o_purses_12 o_homes_12))) (wr := (W_Isle cI cZ q_o q_o_heights q_o_holders q_o_kinds q_o_purses q_o_homes o_told o_low o_high o_price o_hour o_bidders_12 o_heights o_holders o_kinds_12 o_purses_12 o_homes_12)) ⟨hx, hb, hml, hown, hts⟩ (m_X7_readSign l dC dI cI cZ q_s q_s_bytes s_bytes s_length s_at_10 s_number_10 s_faultNumber_10 59 _ (r_13, s_at_13, s_faultNumber_13) hc_13) (cwV 1 hts gX7_readBidder_X7_readSign rfl rfl rfl ⟨rfl, ddX7_readSign⟩ ⟨Nat.le_of_ble_eq_true rfl, Nat.le_of_ble_eq_true rfl⟩) hK hP hD hS hA [0, 1] [2, 3, 4, 5, 6, 7] rfl rfl rfl rfl (by decide) [6, 7, 0, 1, 2, 3, 4, 5] rfl rfl rfl rfl rfl rfl rfl hl.1 (Nat.le_of_ble_eq_true rfl) ⟨Nat.zero_le _, Nat.zero_le _⟩ dX7_readBidder_94 (fun H locs hP hD hS => ?_)
            obtain ⟨b_14, h⟩ := chk_of h
            have h := Option.some.inj h
            subst h
            rw [hQQ]
            subst hAe
            exact W.zret (v := r_13) (ty := .boolean) hx hb hr (zb_nar b_14) (fun t ht hW => ⟨⟨_, (), rfl, rfl, by rw [ht]; exact hP, va_K.moved hW.alike hK, hD⟩, hS.F ht⟩) hS.2.2 dX7_readBidder_97
          · have h := (if_pos c_11).symm.trans h
            refine lv_iconst (v := 0) hx hb dX7_readBidder_79 (by decide) ?_
            have h := Option.some.inj h
            subst h
            rw [hQQ]
            subst hAe
            exact W.zret (v := 0) (ty := .boolean) hx hb hr rfl (fun t ht hW => ⟨⟨_, (), rfl, rfl, by rw [ht]; exact hP, va_K.moved hW.alike hK, hD⟩, hS.F ht⟩) hS.2.2 dX7_readBidder_80
      · have h := (if_pos c_7).symm.trans h
        refine lv_iconst (v := 0) hx hb dX7_readBidder_53 (by decide) ?_
        have h := Option.some.inj h
        subst h
        rw [hQQ]
        subst hAe
        exact W.zret (v := 0) (ty := .boolean) hx hb hr rfl (fun t ht hW => ⟨⟨_, (), rfl, rfl, by rw [ht]; exact hP, va_K.moved hW.alike hK, hD⟩, hS.F ht⟩) hS.2.2 dX7_readBidder_54
    · have h := (if_neg c_5).symm.trans h
      refine lv_aload_n hx hb dX7_readBidder_27 rfl (lv_at hl 1 rfl) ?_
      refine lv_iconst (v := 3) hx hb dX7_readBidder_28 (by decide) ?_
      obtain ⟨r_15, s_faultNumber_15, hc_15, h⟩ := bd2_of h
      refine cl_mVi (As := [.int 3]) (rest := []) (ws' := (W_Tape cI cZ q_s q_s_bytes s_bytes s_length s_at s_number s_faultNumber_15) ++ ((W_Isle cI cZ q_o q_o_heights q_o_holders q_o_kinds q_o_purses q_o_homes o_told o_low o_high o_price o_hour o_bidders o_heights o_holders o_kinds o_purses o_homes))) (wr := (W_Isle cI cZ q_o q_o_heights q_o_holders q_o_kinds q_o_purses q_o_homes o_told o_low o_high o_price o_hour o_bidders o_heights o_holders o_kinds o_purses o_homes)) ⟨hx, hb, hml, hown, hts⟩ (m_X7_fails l dC dI cI cZ q_s q_s_bytes s_bytes s_length s_at s_number s_faultNumber 3 _ (r_15, s_faultNumber_15) hc_15) (cwV 1 hts gX7_readBidder_X7_fails rfl rfl rfl ⟨rfl, ddX7_fails⟩ ⟨Nat.le_of_ble_eq_true rfl, Nat.le_of_ble_eq_true rfl⟩) hK hP hD hS hA [0, 1] [2, 3, 4, 5, 6, 7] rfl rfl rfl rfl (by decide) [6, 7, 0, 1, 2, 3, 4, 5] rfl rfl rfl rfl rfl rfl rfl hl.1 (Nat.le_of_ble_eq_true rfl) ⟨Nat.zero_le _, Nat.zero_le _⟩ dX7_readBidder_29 (fun H locs hP hD hS => ?_)
      obtain ⟨b_16, h⟩ := chk_of h
      have h := Option.some.inj h
      subst h
      rw [hQQ]
      subst hAe
      exact W.zret (v := r_15) (ty := .boolean) hx hb hr (zb_nar b_16) (fun t ht hW => ⟨⟨_, (), rfl, rfl, by rw [ht]; exact hP, va_K.moved hW.alike hK, hD⟩, hS.F ht⟩) hS.2.2 dX7_readBidder_32
  · have h := (if_pos c_3).symm.trans h
    refine lv_aload_n hx hb dX7_readBidder_13 rfl (lv_at hl 1 rfl) ?_
    refine lv_iconst (v := 1) hx hb dX7_readBidder_14 (by decide) ?_
    obtain ⟨r_17, s_faultNumber_17, hc_17, h⟩ := bd2_of h
    refine cl_mVi (As := [.int 1]) (rest := []) (ws' := (W_Tape cI cZ q_s q_s_bytes s_bytes s_length s_at s_number s_faultNumber_17) ++ ((W_Isle cI cZ q_o q_o_heights q_o_holders q_o_kinds q_o_purses q_o_homes o_told o_low o_high o_price o_hour o_bidders o_heights o_holders o_kinds o_purses o_homes))) (wr := (W_Isle cI cZ q_o q_o_heights q_o_holders q_o_kinds q_o_purses q_o_homes o_told o_low o_high o_price o_hour o_bidders o_heights o_holders o_kinds o_purses o_homes)) ⟨hx, hb, hml, hown, hts⟩ (m_X7_fails l dC dI cI cZ q_s q_s_bytes s_bytes s_length s_at s_number s_faultNumber 1 _ (r_17, s_faultNumber_17) hc_17) (cwV 1 hts gX7_readBidder_X7_fails rfl rfl rfl ⟨rfl, ddX7_fails⟩ ⟨Nat.le_of_ble_eq_true rfl, Nat.le_of_ble_eq_true rfl⟩) hK hP hD hS hA [0, 1] [2, 3, 4, 5, 6, 7] rfl rfl rfl rfl (by decide) [6, 7, 0, 1, 2, 3, 4, 5] rfl rfl rfl rfl rfl rfl rfl hl.1 (Nat.le_of_ble_eq_true rfl) ⟨Nat.zero_le _, Nat.zero_le _⟩ dX7_readBidder_15 (fun H locs hP hD hS => ?_)
    obtain ⟨b_18, h⟩ := chk_of h
    have h := Option.some.inj h
    subst h
    rw [hQQ]
    subst hAe
    exact W.zret (v := r_17) (ty := .boolean) hx hb hr (zb_nar b_18) (fun t ht hW => ⟨⟨_, (), rfl, rfl, by rw [ht]; exact hP, va_K.moved hW.alike hK, hD⟩, hS.F ht⟩) hS.2.2 dX7_readBidder_18
def fX7_readBidders_L12 (s_bytes : (Nat → Int32)) (s_length : Int32) : Nat → Int32 → Int32 → Int32 → Int32 → Int32 → (Nat → Int32) → (Nat → Int32) → (Nat → Int32) → Option (Int32 × Int32 × Int32 × Int32 × Int32 × (Nat → Int32) × (Nat → Int32) × (Nat → Int32))
  | 0, _, _, _, _, _, _, _, _ => none
  | n + 1, v2_h12, s_at_h12, s_number_h12, s_faultNumber_h12, o_bidders_h12, o_kinds_h12, o_purses_h12, o_homes_h12 => (if 100 ≤ v2_h12 then some (1, s_at_h12, s_number_h12, s_faultNumber_h12, o_bidders_h12, o_kinds_h12, o_purses_h12, o_homes_h12) else (if s_length ≤ s_at_h12 then some (1, s_at_h12, s_number_h12, s_faultNumber_h12, o_bidders_h12, o_kinds_h12, o_purses_h12, o_homes_h12) else bd8 (fX7_readBidder s_bytes s_length s_at_h12 s_number_h12 s_faultNumber_h12 o_bidders_h12 o_kinds_h12 o_purses_h12 o_homes_h12) (fun r_5 s_at_5 s_number_5 s_faultNumber_5 o_bidders_5 o_kinds_5 o_purses_5 o_homes_5 => (if r_5 = 0 then some (0, s_at_5, s_number_5, s_faultNumber_5, o_bidders_5, o_kinds_5, o_purses_5, o_homes_5) else ((fX7_readBidders_L12 s_bytes s_length n) (v2_h12 + 1) s_at_5 s_number_5 s_faultNumber_5 o_bidders_5 o_kinds_5 o_purses_5 o_homes_5)))))
def fX7_readBidders (s_bytes : (Nat → Int32)) (s_length : Int32) (s_at : Int32) (s_number : Int32) (s_faultNumber : Int32) (o_bidders : Int32) (o_kinds : (Nat → Int32)) (o_purses : (Nat → Int32)) (o_homes : (Nat → Int32)) : Option (Int32 × Int32 × Int32 × Int32 × Int32 × (Nat → Int32) × (Nat → Int32) × (Nat → Int32)) :=
  bd8 (fX7_readBidder s_bytes s_length s_at s_number s_faultNumber o_bidders o_kinds o_purses o_homes) (fun r_1 s_at_1 s_number_1 s_faultNumber_1 o_bidders_1 o_kinds_1 o_purses_1 o_homes_1 => (if r_1 = 0 then some (0, s_at_1, s_number_1, s_faultNumber_1, o_bidders_1, o_kinds_1, o_purses_1, o_homes_1) else (fX7_readBidders_L12 s_bytes s_length FU 0 s_at_1 s_number_1 s_faultNumber_1 o_bidders_1 o_kinds_1 o_purses_1 o_homes_1)))
abbrev rmX7_readBidders : Room := { frames := 3, cells := 0, slots := 0, locals := 87 }
theorem ddX7_readBidders : yX7_readBidders.cls ≠ "java/lang/invoke/MethodHandle" ∧ yX7_readBidders.cls ≠ "java/lang/invoke/VarHandle" ∧ (parseMethodDescriptor yX7_readBidders.desc).map (fun d => d.parameters.length) = some 1 := by decide +kernel
set_option maxHeartbeats 4000000 in
set_option maxRecDepth 100000 in
theorem m_X7_readBidders (l : Launch) (dC : Nat → ClassId) (dI : Nat → Nat → Nat) (cI cZ : ClassId) (q_s q_s_bytes q_o q_o_heights q_o_holders q_o_kinds q_o_purses q_o_homes : Nat) (s_bytes : (Nat → Int32)) (s_length : Int32) (s_at : Int32) (s_number : Int32) (s_faultNumber : Int32) (o_told : Int32) (o_low : Int32) (o_high : Int32) (o_price : Int32) (o_hour : Int32) (o_bidders : Int32) (o_heights : (Nat → Int32)) (o_holders : (Nat → Int32)) (o_kinds : (Nat → Int32)) (o_purses : (Nat → Int32)) (o_homes : (Nat → Int32)) (sz : Nat) (res : Int32 × Int32 × Int32 × Int32 × Int32 × (Nat → Int32) × (Nat → Int32) × (Nat → Int32)) (hf : fX7_readBidders s_bytes s_length s_at s_number s_faultNumber o_bidders o_kinds o_purses o_homes = some res) : Met l yX7_readBidders wsX7_readBidders rmX7_readBidders (mtPc (dC, dI) (tyZ cI cZ) ((W_Tape cI cZ q_s q_s_bytes s_bytes s_length s_at s_number s_faultNumber) ++ ((W_Isle cI cZ q_o q_o_heights q_o_holders q_o_kinds q_o_purses q_o_homes o_told o_low o_high o_price o_hour o_bidders o_heights o_holders o_kinds o_purses o_homes))) [.ref q_s, .ref q_o] sz) (mtQi (dC, dI) (tyZ cI cZ) ((W_Tape cI cZ q_s q_s_bytes s_bytes s_length s_at s_number s_faultNumber) ++ ((W_Isle cI cZ q_o q_o_heights q_o_holders q_o_kinds q_o_purses q_o_homes o_told o_low o_high o_price o_hour o_bidders o_heights o_holders o_kinds o_purses o_homes))) ((W_Tape cI cZ q_s q_s_bytes s_bytes s_length res.2.1 res.2.2.1 res.2.2.2.1) ++ ((W_Isle cI cZ q_o q_o_heights q_o_holders q_o_kinds q_o_purses q_o_homes o_told o_low o_high o_price o_hour res.2.2.2.2.1 o_heights o_holders res.2.2.2.2.2.1 res.2.2.2.2.2.2.1 res.2.2.2.2.2.2.2))) res.1 sz) 0 0 (va_A ((W_Tape cI cZ q_s q_s_bytes s_bytes s_length s_at s_number s_faultNumber) ++ ((W_Isle cI cZ q_o q_o_heights q_o_holders q_o_kinds q_o_purses q_o_homes o_told o_low o_high o_price o_hour o_bidders o_heights o_holders o_kinds o_purses o_homes))) sz) := by
  refine Met.ofW (cc := cX7_readBidders) (maxL := 3) (ret := (some .boolean)) (by decide) rfl ?_
  intro p e s m args below meth c s₁ B hml hv
  obtain ⟨rfl, hsz, hP, hK, hD0⟩ := hv
  have hx := B.exec
  have hb := B.bytes
  have hr := B.returns
  have hts := atoms_spec (ws := wsX7_readBidders) B.pre
  have hown : s.vm.findClass RX7 = some m.cls := findClass_of_methodNamed B.named
  have hlocks := B.notSynchronized
  subst hsz
  have hD := hD0.self (sz := s.heap.size)
  obtain ⟨A, hAe⟩ : ∃ A, A = va_A ((W_Tape cI cZ q_s q_s_bytes s_bytes s_length s_at s_number s_faultNumber) ++ ((W_Isle cI cZ q_o q_o_heights q_o_holders q_o_kinds q_o_purses q_o_homes o_told o_low o_high o_price o_hour o_bidders o_heights o_holders o_kinds o_purses o_homes))) s.heap.size := ⟨_, rfl⟩
  rw [← hAe] at hD
  have hA : ∀ q : Nat, s.heap.size ≤ q → A q := fun q h => by rw [hAe]; exact Or.inr h
  have hS : va_S A s.heap s.heap [] := va_S.rf
  have hl := lv_entry ([.ref q_s, .ref q_o]) (n := 3) (Nat.le_of_ble_eq_true rfl)
  rw [lg_entry_eq]
  generalize (lg_sl ([.ref q_s, .ref q_o]) ++ List.replicate (3 - (lg_sl ([.ref q_s, .ref q_o])).length) Slot.unset).toArray = ls at hl ⊢
  have hl : lv_has ls 3 [(0, .ref q_s), (1, .ref q_o)] := hl
  obtain ⟨QQ, hQQ⟩ : ∃ Q, Q = MQ below (mtQi (dC, dI) (tyZ cI cZ) ((W_Tape cI cZ q_s q_s_bytes s_bytes s_length s_at s_number s_faultNumber) ++ ((W_Isle cI cZ q_o q_o_heights q_o_holders q_o_kinds q_o_purses q_o_homes o_told o_low o_high o_price o_hour o_bidders o_heights o_holders o_kinds o_purses o_homes))) ((W_Tape cI cZ q_s q_s_bytes s_bytes s_length res.2.1 res.2.2.1 res.2.2.2.1) ++ ((W_Isle cI cZ q_o q_o_heights q_o_holders q_o_kinds q_o_purses q_o_homes o_told o_low o_high o_price o_hour res.2.2.2.2.1 o_heights o_holders res.2.2.2.2.2.1 res.2.2.2.2.2.2.1 res.2.2.2.2.2.2.2))) res.1 s.heap.size) ([.ref q_s, .ref q_o] : List Value).toArray s 0 0 (va_A ((W_Tape cI cZ q_s q_s_bytes s_bytes s_length s_at s_number s_faultNumber) ++ ((W_Isle cI cZ q_o q_o_heights q_o_holders q_o_kinds q_o_purses q_o_homes o_told o_low o_high o_price o_hour o_bidders o_heights o_holders o_kinds o_purses o_homes))) s.heap.size) := ⟨_, rfl⟩
  rw [← hQQ]
  have w_0 := hts (Cond.fieldLink RX7 22 "TideInches$Tape" "at" "I") (List.mem_of_getElem? (i := 1) rfl)
  have w_1 := (fun w hw => List.mem_cons_of_mem _ (List.mem_append_left _ (List.mem_append_right _ hw)) : ∀ w ∈ wsX70, w ∈ wsX7_readBidders)
  have w_2 := hts (Cond.fieldLink RX7 15 "TideInches$Tape" "length" "I") (List.mem_of_getElem? (i := 2) rfl)
  have h := hf
  unfold fX7_readBidders at h
  refine lv_aload_n hx hb dX7_readBidders_0 rfl (lv_at hl 0 rfl) ?_
  refine lv_aload_n hx hb dX7_readBidders_1 rfl (lv_at hl 1 rfl) ?_
  obtain ⟨r_1, s_at_1, s_number_1, s_faultNumber_1, o_bidders_1, o_kinds_1, o_purses_1, o_homes_1, hc_1, h⟩ := bd8_of h
  refine cl_mVi (As := [.ref q_o]) (rest := []) (ws' := (W_Tape cI cZ q_s q_s_bytes s_bytes s_length s_at_1 s_number_1 s_faultNumber_1) ++ ((W_Isle cI cZ q_o q_o_heights q_o_holders q_o_kinds q_o_purses q_o_homes o_told o_low o_high o_price o_hour o_bidders_1 o_heights o_holders o_kinds_1 o_purses_1 o_homes_1))) (wr := []) ⟨hx, hb, hml, hown, hts⟩ (m_X7_readBidder l dC dI cI cZ q_s q_s_bytes q_o q_o_heights q_o_holders q_o_kinds q_o_purses q_o_homes s_bytes s_length s_at s_number s_faultNumber o_told o_low o_high o_price o_hour o_bidders o_heights o_holders o_kinds o_purses o_homes _ (r_1, s_at_1, s_number_1, s_faultNumber_1, o_bidders_1, o_kinds_1, o_purses_1, o_homes_1) hc_1) (cwV 1 hts gX7_readBidders_X7_readBidder rfl rfl rfl ⟨rfl, ddX7_readBidder⟩ ⟨Nat.le_of_ble_eq_true rfl, Nat.le_of_ble_eq_true rfl⟩) hK hP hD hS hA [0, 1, 2, 3, 4, 5, 6, 7] [] rfl rfl rfl rfl (by decide) [0, 1, 2, 3, 4, 5, 6, 7] rfl rfl rfl rfl rfl rfl rfl hl.1 (Nat.le_of_ble_eq_true rfl) ⟨Nat.zero_le _, Nat.zero_le _⟩ dX7_readBidders_2 (fun H locs hP hD hS => ?_)
  refine lv_if_ne (tgt := 10) hx hb dX7_readBidders_5 (by decide) (fun c_2 => ?_) (fun c_2 => ?_)
  · have h := (if_neg c_2).symm.trans h
    refine lv_iconst (v := 0) hx hb dX7_readBidders_10 (by decide) ?_
    refine lv_istore_n (lv' := [(2, .int 0), (0, .ref q_s), (1, .ref q_o)]) hx hb dX7_readBidders_11 rfl hl (by decide) rfl (fun ls hl => ?_)
    have KL12 : ∀ (n : Nat) (v2_h12 : Int32) (s_at_h12 : Int32) (s_number_h12 : Int32) (s_faultNumber_h12 : Int32) (o_bidders_h12 : Int32) (o_kinds_h12 : (Nat → Int32)) (o_purses_h12 : (Nat → Int32)) (o_homes_h12 : (Nat → Int32)) (H : Heap) (locs : List Loc) (ls : Array Slot), va_P (dC, dI) vwCl ((W_Tape cI cZ q_s q_s_bytes s_bytes s_length s_at_h12 s_number_h12 s_faultNumber_h12) ++ ((W_Isle cI cZ q_o q_o_heights q_o_holders q_o_kinds q_o_purses q_o_homes o_told o_low o_high o_price o_hour o_bidders_h12 o_heights o_holders o_kinds_h12 o_purses_h12 o_homes_h12))) H → va_D A ((W_Tape cI cZ q_s q_s_bytes s_bytes s_length s_at_h12 s_number_h12 s_faultNumber_h12) ++ ((W_Isle cI cZ q_o q_o_heights q_o_holders q_o_kinds q_o_purses q_o_homes o_told o_low o_high o_price o_hour o_bidders_h12 o_heights o_holders o_kinds_h12 o_purses_h12 o_homes_h12))) → va_S A s.heap H locs → lv_has ls 3 [(0, .ref q_s), (1, .ref q_o), (2, .int v2_h12)] → fX7_readBidders_L12 s_bytes s_length n v2_h12 s_at_h12 s_number_h12 s_faultNumber_h12 o_bidders_h12 o_kinds_h12 o_purses_h12 o_homes_h12 = some res → W p l e (headSpec wsX7_readBidders rmX7_readBidders).room s m ([.ref q_s, .ref q_o] : List Value).toArray below meth c H locs 0 0 QQ (F0 m 12 ls []) := by
      intro  n
      induction n with
      | zero => intro v2_h12 s_at_h12 s_number_h12 s_faultNumber_h12 o_bidders_h12 o_kinds_h12 o_purses_h12 o_homes_h12 H locs ls hP hD hS hl h; rw [fX7_readBidders_L12.eq_1] at h; cases h
      | succ n ih =>
        intro v2_h12 s_at_h12 s_number_h12 s_faultNumber_h12 o_bidders_h12 o_kinds_h12 o_purses_h12 o_homes_h12 H locs ls hP hD hS hl h
        rw [fX7_readBidders_L12.eq_2] at h
        refine lv_iload_n hx hb dX7_readBidders_12 rfl (lv_at hl 2 rfl) ?_
        refine lv_bipush (v := 100) hx hb dX7_readBidders_13 (by decide) ?_
        refine lv_icmp_ge (tgt := 45) hx hb dX7_readBidders_15 (by decide) (fun c_3 => ?_) (fun c_3 => ?_)
        · have h := (if_pos c_3).symm.trans h
          refine lv_iconst (v := 1) hx hb dX7_readBidders_45 (by decide) ?_
          have h := Option.some.inj h
          subst h
          rw [hQQ]
          subst hAe
          exact W.zret (v := 1) (ty := .boolean) hx hb hr rfl (fun t ht hW => ⟨⟨_, (), rfl, rfl, by rw [ht]; exact hP, va_K.moved hW.alike hK, hD⟩, hS.F ht⟩) hS.2.2 dX7_readBidders_46
        · have h := (if_neg c_3).symm.trans h
          refine lv_aload_n hx hb dX7_readBidders_18 rfl (lv_at hl 0 rfl) ?_
          refine va_get (D := (dC, dI)) (ci := 5) (v := .int s_at_h12) (C := RX7) (T := TX7) (N := 5) hx hb hts w_1 hown hK hP 0 rfl rfl 2 (by decide) w_0 (fun _ h9 => h9) rfl dX7_readBidders_19 ?_
          refine lv_aload_n hx hb dX7_readBidders_22 rfl (lv_at hl 0 rfl) ?_
          refine va_get (D := (dC, dI)) (ci := 5) (v := .int s_length) (C := RX7) (T := TX7) (N := 5) hx hb hts w_1 hown hK hP 0 rfl rfl 1 (by decide) w_2 (fun _ h9 => h9) rfl dX7_readBidders_23 ?_
          refine lv_icmp_ge (tgt := 45) hx hb dX7_readBidders_26 (by decide) (fun c_4 => ?_) (fun c_4 => ?_)
          · have h := (if_pos c_4).symm.trans h
            refine lv_iconst (v := 1) hx hb dX7_readBidders_45 (by decide) ?_
            have h := Option.some.inj h
            subst h
            rw [hQQ]
            subst hAe
            exact W.zret (v := 1) (ty := .boolean) hx hb hr rfl (fun t ht hW => ⟨⟨_, (), rfl, rfl, by rw [ht]; exact hP, va_K.moved hW.alike hK, hD⟩, hS.F ht⟩) hS.2.2 dX7_readBidders_46
          · have h := (if_neg c_4).symm.trans h
            refine lv_aload_n hx hb dX7_readBidders_29 rfl (lv_at hl 0 rfl) ?_
            refine lv_aload_n hx hb dX7_readBidders_30 rfl (lv_at hl 1 rfl) ?_
            obtain ⟨r_5, s_at_5, s_number_5, s_faultNumber_5, o_bidders_5, o_kinds_5, o_purses_5, o_homes_5, hc_5, h⟩ := bd8_of h
            refine cl_mVi (As := [.ref q_o]) (rest := []) (ws' := (W_Tape cI cZ q_s q_s_bytes s_bytes s_length s_at_5 s_number_5 s_faultNumber_5) ++ ((W_Isle cI cZ q_o q_o_heights q_o_holders q_o_kinds q_o_purses q_o_homes o_told o_low o_high o_price o_hour o_bidders_5 o_heights o_holders o_kinds_5 o_purses_5 o_homes_5))) (wr := []) ⟨hx, hb, hml, hown, hts⟩ (m_X7_readBidder l dC dI cI cZ q_s q_s_bytes q_o q_o_heights q_o_holders q_o_kinds q_o_purses q_o_homes s_bytes s_length s_at_h12 s_number_h12 s_faultNumber_h12 o_told o_low o_high o_price o_hour o_bidders_h12 o_heights o_holders o_kinds_h12 o_purses_h12 o_homes_h12 _ (r_5, s_at_5, s_number_5, s_faultNumber_5, o_bidders_5, o_kinds_5, o_purses_5, o_homes_5) hc_5) (cwV 1 hts gX7_readBidders_X7_readBidder rfl rfl rfl ⟨rfl, ddX7_readBidder⟩ ⟨Nat.le_of_ble_eq_true rfl, Nat.le_of_ble_eq_true rfl⟩) hK hP hD hS hA [0, 1, 2, 3, 4, 5, 6, 7] [] rfl rfl rfl rfl (by decide) [0, 1, 2, 3, 4, 5, 6, 7] rfl rfl rfl rfl rfl rfl rfl hl.1 (Nat.le_of_ble_eq_true rfl) ⟨Nat.zero_le _, Nat.zero_le _⟩ dX7_readBidders_31 (fun H locs hP hD hS => ?_)
            refine lv_if_ne (tgt := 39) hx hb dX7_readBidders_34 (by decide) (fun c_6 => ?_) (fun c_6 => ?_)
            · have h := (if_neg c_6).symm.trans h
              refine lv_iinc (v := (v2_h12 + 1)) (lv' := [(2, .int (v2_h12 + 1)), (0, .ref q_s), (1, .ref q_o)]) hx hb dX7_readBidders_39 hl (k := 2) rfl rfl (by decide) rfl (fun ls hl => ?_)
              refine lv_goto (tgt := 12) hx hb dX7_readBidders_42 (by decide) ?_
              exact ih (v2_h12 + 1) s_at_5 s_number_5 s_faultNumber_5 o_bidders_5 o_kinds_5 o_purses_5 o_homes_5 _ _ _ hP hD hS (lv_sub hl [1, 2, 0] rfl) h
            · have h := (if_pos c_6).symm.trans h
              refine lv_iconst (v := 0) hx hb dX7_readBidders_37 (by decide) ?_
              have h := Option.some.inj h
              subst h
              rw [hQQ]
              subst hAe
              exact W.zret (v := 0) (ty := .boolean) hx hb hr rfl (fun t ht hW => ⟨⟨_, (), rfl, rfl, by rw [ht]; exact hP, va_K.moved hW.alike hK, hD⟩, hS.F ht⟩) hS.2.2 dX7_readBidders_38
    exact KL12 FU 0 s_at_1 s_number_1 s_faultNumber_1 o_bidders_1 o_kinds_1 o_purses_1 o_homes_1 _ _ _ hP hD hS (lv_sub hl [1, 2, 0] rfl) h
  · have h := (if_pos c_2).symm.trans h
    refine lv_iconst (v := 0) hx hb dX7_readBidders_8 (by decide) ?_
    have h := Option.some.inj h
    subst h
    rw [hQQ]
    subst hAe
    exact W.zret (v := 0) (ty := .boolean) hx hb hr rfl (fun t ht hW => ⟨⟨_, (), rfl, rfl, by rw [ht]; exact hP, va_K.moved hW.alike hK, hD⟩, hS.F ht⟩) hS.2.2 dX7_readBidders_9
def fX7_readInto (s_bytes : (Nat → Int32)) (s_length : Int32) (s_number : Int32) (s_faultNumber : Int32) (o_low : Int32) (o_high : Int32) (o_price : Int32) (o_heights : (Nat → Int32)) (o_holders : (Nat → Int32)) (o_kinds : (Nat → Int32)) (o_purses : (Nat → Int32)) (o_homes : (Nat → Int32)) : Option (Int32 × Int32 × Int32 × Int32 × Int32 × Int32 × Int32 × Int32 × Int32 × Int32 × (Nat → Int32) × (Nat → Int32) × (Nat → Int32) × (Nat → Int32) × (Nat → Int32)) :=
  bd4 (fX3_begin o_holders) (fun o_told_1 o_hour_1 o_bidders_1 o_holders_1 => bd8 (fX7_readLaw s_bytes s_length 0 s_number s_faultNumber o_told_1 o_low o_high o_price) (fun r_2 s_at_2 s_number_2 s_faultNumber_2 o_told_2 o_low_2 o_high_2 o_price_2 => (if r_2 = 0 then some (0, s_at_2, s_number_2, s_faultNumber_2, o_told_2, o_low_2, o_high_2, o_price_2, o_hour_1, o_bidders_1, o_heights, o_holders_1, o_kinds, o_purses, o_homes) else bd4 (fX7_readHeights s_bytes s_length s_at_2 s_faultNumber_2 o_heights) (fun r_4 s_at_4 s_faultNumber_4 o_heights_4 => (if r_4 = 0 then some (0, s_at_4, s_number_2, s_faultNumber_4, o_told_2, o_low_2, o_high_2, o_price_2, o_hour_1, o_bidders_1, o_heights_4, o_holders_1, o_kinds, o_purses, o_homes) else bd8 (fX7_readBidders s_bytes s_length s_at_4 s_number_2 s_faultNumber_4 o_bidders_1 o_kinds o_purses o_homes) (fun r_6 s_at_6 s_number_6 s_faultNumber_6 o_bidders_6 o_kinds_6 o_purses_6 o_homes_6 => (if r_6 = 0 then some (0, s_at_6, s_number_6, s_faultNumber_6, o_told_2, o_low_2, o_high_2, o_price_2, o_hour_1, o_bidders_6, o_heights_4, o_holders_1, o_kinds_6, o_purses_6, o_homes_6) else some (1, s_at_6, s_number_6, s_faultNumber_6, o_told_2, o_low_2, o_high_2, o_price_2, o_hour_1, o_bidders_6, o_heights_4, o_holders_1, o_kinds_6, o_purses_6, o_homes_6))))))))
abbrev rmX7_readInto : Room := { frames := 4, cells := 0, slots := 0, locals := 109 }
theorem ddX7_readInto : yX7_readInto.cls ≠ "java/lang/invoke/MethodHandle" ∧ yX7_readInto.cls ≠ "java/lang/invoke/VarHandle" ∧ (parseMethodDescriptor yX7_readInto.desc).map (fun d => d.parameters.length) = some 1 := by decide +kernel
set_option maxHeartbeats 4000000 in
set_option maxRecDepth 100000 in
theorem m_X7_readInto (l : Launch) (dC : Nat → ClassId) (dI : Nat → Nat → Nat) (cI cZ : ClassId) (q_s q_s_bytes q_o q_o_heights q_o_holders q_o_kinds q_o_purses q_o_homes : Nat) (s_bytes : (Nat → Int32)) (s_length : Int32) (s_at : Int32) (s_number : Int32) (s_faultNumber : Int32) (o_told : Int32) (o_low : Int32) (o_high : Int32) (o_price : Int32) (o_hour : Int32) (o_bidders : Int32) (o_heights : (Nat → Int32)) (o_holders : (Nat → Int32)) (o_kinds : (Nat → Int32)) (o_purses : (Nat → Int32)) (o_homes : (Nat → Int32)) (sz : Nat) (res : Int32 × Int32 × Int32 × Int32 × Int32 × Int32 × Int32 × Int32 × Int32 × Int32 × (Nat → Int32) × (Nat → Int32) × (Nat → Int32) × (Nat → Int32) × (Nat → Int32)) (hf : fX7_readInto s_bytes s_length s_number s_faultNumber o_low o_high o_price o_heights o_holders o_kinds o_purses o_homes = some res) : Met l yX7_readInto wsX7_readInto rmX7_readInto (mtPc (dC, dI) (tyZ cI cZ) ((W_Tape cI cZ q_s q_s_bytes s_bytes s_length s_at s_number s_faultNumber) ++ ((W_Isle cI cZ q_o q_o_heights q_o_holders q_o_kinds q_o_purses q_o_homes o_told o_low o_high o_price o_hour o_bidders o_heights o_holders o_kinds o_purses o_homes))) [.ref q_s, .ref q_o] sz) (mtQi (dC, dI) (tyZ cI cZ) ((W_Tape cI cZ q_s q_s_bytes s_bytes s_length s_at s_number s_faultNumber) ++ ((W_Isle cI cZ q_o q_o_heights q_o_holders q_o_kinds q_o_purses q_o_homes o_told o_low o_high o_price o_hour o_bidders o_heights o_holders o_kinds o_purses o_homes))) ((W_Tape cI cZ q_s q_s_bytes s_bytes s_length res.2.1 res.2.2.1 res.2.2.2.1) ++ ((W_Isle cI cZ q_o q_o_heights q_o_holders q_o_kinds q_o_purses q_o_homes res.2.2.2.2.1 res.2.2.2.2.2.1 res.2.2.2.2.2.2.1 res.2.2.2.2.2.2.2.1 res.2.2.2.2.2.2.2.2.1 res.2.2.2.2.2.2.2.2.2.1 res.2.2.2.2.2.2.2.2.2.2.1 res.2.2.2.2.2.2.2.2.2.2.2.1 res.2.2.2.2.2.2.2.2.2.2.2.2.1 res.2.2.2.2.2.2.2.2.2.2.2.2.2.1 res.2.2.2.2.2.2.2.2.2.2.2.2.2.2))) res.1 sz) 0 0 (va_A ((W_Tape cI cZ q_s q_s_bytes s_bytes s_length s_at s_number s_faultNumber) ++ ((W_Isle cI cZ q_o q_o_heights q_o_holders q_o_kinds q_o_purses q_o_homes o_told o_low o_high o_price o_hour o_bidders o_heights o_holders o_kinds o_purses o_homes))) sz) := by
  refine Met.ofW (cc := cX7_readInto) (maxL := 2) (ret := (some .boolean)) (by decide) rfl ?_
  intro p e s m args below meth c s₁ B hml hv
  obtain ⟨rfl, hsz, hP, hK, hD0⟩ := hv
  have hx := B.exec
  have hb := B.bytes
  have hr := B.returns
  have hts := atoms_spec (ws := wsX7_readInto) B.pre
  have hown : s.vm.findClass RX7 = some m.cls := findClass_of_methodNamed B.named
  have hlocks := B.notSynchronized
  subst hsz
  have hD := hD0.self (sz := s.heap.size)
  obtain ⟨A, hAe⟩ : ∃ A, A = va_A ((W_Tape cI cZ q_s q_s_bytes s_bytes s_length s_at s_number s_faultNumber) ++ ((W_Isle cI cZ q_o q_o_heights q_o_holders q_o_kinds q_o_purses q_o_homes o_told o_low o_high o_price o_hour o_bidders o_heights o_holders o_kinds o_purses o_homes))) s.heap.size := ⟨_, rfl⟩
  rw [← hAe] at hD
  have hA : ∀ q : Nat, s.heap.size ≤ q → A q := fun q h => by rw [hAe]; exact Or.inr h
  have hS : va_S A s.heap s.heap [] := va_S.rf
  have hl := lv_entry ([.ref q_s, .ref q_o]) (n := 2) (Nat.le_of_ble_eq_true rfl)
  rw [lg_entry_eq]
  generalize (lg_sl ([.ref q_s, .ref q_o]) ++ List.replicate (2 - (lg_sl ([.ref q_s, .ref q_o])).length) Slot.unset).toArray = ls at hl ⊢
  have hl : lv_has ls 2 [(0, .ref q_s), (1, .ref q_o)] := hl
  obtain ⟨QQ, hQQ⟩ : ∃ Q, Q = MQ below (mtQi (dC, dI) (tyZ cI cZ) ((W_Tape cI cZ q_s q_s_bytes s_bytes s_length s_at s_number s_faultNumber) ++ ((W_Isle cI cZ q_o q_o_heights q_o_holders q_o_kinds q_o_purses q_o_homes o_told o_low o_high o_price o_hour o_bidders o_heights o_holders o_kinds o_purses o_homes))) ((W_Tape cI cZ q_s q_s_bytes s_bytes s_length res.2.1 res.2.2.1 res.2.2.2.1) ++ ((W_Isle cI cZ q_o q_o_heights q_o_holders q_o_kinds q_o_purses q_o_homes res.2.2.2.2.1 res.2.2.2.2.2.1 res.2.2.2.2.2.2.1 res.2.2.2.2.2.2.2.1 res.2.2.2.2.2.2.2.2.1 res.2.2.2.2.2.2.2.2.2.1 res.2.2.2.2.2.2.2.2.2.2.1 res.2.2.2.2.2.2.2.2.2.2.2.1 res.2.2.2.2.2.2.2.2.2.2.2.2.1 res.2.2.2.2.2.2.2.2.2.2.2.2.2.1 res.2.2.2.2.2.2.2.2.2.2.2.2.2.2))) res.1 s.heap.size) ([.ref q_s, .ref q_o] : List Value).toArray s 0 0 (va_A ((W_Tape cI cZ q_s q_s_bytes s_bytes s_length s_at s_number s_faultNumber) ++ ((W_Isle cI cZ q_o q_o_heights q_o_holders q_o_kinds q_o_purses q_o_homes o_told o_low o_high o_price o_hour o_bidders o_heights o_holders o_kinds o_purses o_homes))) s.heap.size) := ⟨_, rfl⟩
  rw [← hQQ]
  have w_0 := hts (Cond.fieldLink RX7 22 "TideInches$Tape" "at" "I") (List.mem_of_getElem? (i := 1) rfl)
  have w_1 := (fun w hw => List.mem_cons_of_mem _ (List.mem_append_left _ (List.mem_append_right _ hw)) : ∀ w ∈ wsX70, w ∈ wsX7_readInto)
  have h := hf
  unfold fX7_readInto at h
  refine lv_aload_n hx hb dX7_readInto_0 rfl (lv_at hl 0 rfl) ?_
  refine lv_iconst (v := 0) hx hb dX7_readInto_1 (by decide) ?_
  refine va_put (D := (dC, dI)) (ci := 5) (v := .int 0) (ty := .int) (C := RX7) (T := TX7) (N := 5) hx hb hts w_1 tyX7 tyX7_ok nmX7 hown hK hP hD hS 0 rfl rfl 2 (by decide) w_0 (fun _ h9 => h9) rfl (by decide +kernel) rfl rfl (Nat.le_of_ble_eq_true rfl) dX7_readInto_2 (fun H locs hP hD hS => ?_)
  have hP : va_P (dC, dI) vwCl ((W_Tape cI cZ q_s q_s_bytes s_bytes s_length 0 s_number s_faultNumber) ++ ((W_Isle cI cZ q_o q_o_heights q_o_holders q_o_kinds q_o_purses q_o_homes o_told o_low o_high o_price o_hour o_bidders o_heights o_holders o_kinds o_purses o_homes))) H := hP
  have hD : va_D A ((W_Tape cI cZ q_s q_s_bytes s_bytes s_length 0 s_number s_faultNumber) ++ ((W_Isle cI cZ q_o q_o_heights q_o_holders q_o_kinds q_o_purses q_o_homes o_told o_low o_high o_price o_hour o_bidders o_heights o_holders o_kinds o_purses o_homes))) := hD
  refine lv_aload_n hx hb dX7_readInto_5 rfl (lv_at hl 1 rfl) ?_
  obtain ⟨o_told_1, o_hour_1, o_bidders_1, o_holders_1, hc_1, h⟩ := bd4_of h
  refine cl_mVv (As := []) (rest := []) (ws' := (W_Tape cI cZ q_s q_s_bytes s_bytes s_length 0 s_number s_faultNumber) ++ ((W_Isle cI cZ q_o q_o_heights q_o_holders q_o_kinds q_o_purses q_o_homes o_told_1 o_low o_high o_price o_hour_1 o_bidders_1 o_heights o_holders_1 o_kinds o_purses o_homes))) (wr := (W_Tape cI cZ q_s q_s_bytes s_bytes s_length 0 s_number s_faultNumber)) ⟨hx, hb, hml, hown, hts⟩ (m_X3_begin l dC dI cI cZ q_o q_o_heights q_o_holders q_o_kinds q_o_purses q_o_homes o_told o_low o_high o_price o_hour o_bidders o_heights o_holders o_kinds o_purses o_homes _ (o_told_1, o_hour_1, o_bidders_1, o_holders_1) hc_1) (cwV 0 hts gX7_readInto_X3_begin rfl rfl rfl ⟨rfl, ddX3_begin⟩ ⟨Nat.le_of_ble_eq_true rfl, Nat.le_of_ble_eq_true rfl⟩) hK hP hD hS hA [2, 3, 4, 5, 6, 7] [0, 1] rfl rfl rfl rfl (by decide) [0, 1, 2, 3, 4, 5, 6, 7] rfl rfl rfl rfl rfl rfl rfl hl.1 (Nat.le_of_ble_eq_true rfl) ⟨Nat.zero_le _, Nat.zero_le _⟩ dX7_readInto_6 (fun H locs hP hD hS => ?_)
  refine lv_aload_n hx hb dX7_readInto_9 rfl (lv_at hl 0 rfl) ?_
  refine lv_aload_n hx hb dX7_readInto_10 rfl (lv_at hl 1 rfl) ?_
  obtain ⟨r_2, s_at_2, s_number_2, s_faultNumber_2, o_told_2, o_low_2, o_high_2, o_price_2, hc_2, h⟩ := bd8_of h
  refine cl_mVi (As := [.ref q_o]) (rest := []) (ws' := (W_Tape cI cZ q_s q_s_bytes s_bytes s_length s_at_2 s_number_2 s_faultNumber_2) ++ ((W_Isle cI cZ q_o q_o_heights q_o_holders q_o_kinds q_o_purses q_o_homes o_told_2 o_low_2 o_high_2 o_price_2 o_hour_1 o_bidders_1 o_heights o_holders_1 o_kinds o_purses o_homes))) (wr := []) ⟨hx, hb, hml, hown, hts⟩ (m_X7_readLaw l dC dI cI cZ q_s q_s_bytes q_o q_o_heights q_o_holders q_o_kinds q_o_purses q_o_homes s_bytes s_length 0 s_number s_faultNumber o_told_1 o_low o_high o_price o_hour_1 o_bidders_1 o_heights o_holders_1 o_kinds o_purses o_homes _ (r_2, s_at_2, s_number_2, s_faultNumber_2, o_told_2, o_low_2, o_high_2, o_price_2) hc_2) (cwV 1 hts gX7_readInto_X7_readLaw rfl rfl rfl ⟨rfl, ddX7_readLaw⟩ ⟨Nat.le_of_ble_eq_true rfl, Nat.le_of_ble_eq_true rfl⟩) hK hP hD hS hA [0, 1, 2, 3, 4, 5, 6, 7] [] rfl rfl rfl rfl (by decide) [0, 1, 2, 3, 4, 5, 6, 7] rfl rfl rfl rfl rfl rfl rfl hl.1 (Nat.le_of_ble_eq_true rfl) ⟨Nat.zero_le _, Nat.zero_le _⟩ dX7_readInto_11 (fun H locs hP hD hS => ?_)
  refine lv_if_eq (tgt := 37) hx hb dX7_readInto_14 (by decide) (fun c_3 => ?_) (fun c_3 => ?_)
  · have h := (if_pos c_3).symm.trans h
    refine lv_iconst (v := 0) hx hb dX7_readInto_37 (by decide) ?_
    have h := Option.some.inj h
    subst h
    rw [hQQ]
    subst hAe
    exact W.zret (v := 0) (ty := .boolean) hx hb hr rfl (fun t ht hW => ⟨⟨_, (), rfl, rfl, by rw [ht]; exact hP, va_K.moved hW.alike hK, hD⟩, hS.F ht⟩) hS.2.2 dX7_readInto_38
  · have h := (if_neg c_3).symm.trans h
    refine lv_aload_n hx hb dX7_readInto_17 rfl (lv_at hl 0 rfl) ?_
    refine lv_aload_n hx hb dX7_readInto_18 rfl (lv_at hl 1 rfl) ?_
    obtain ⟨r_4, s_at_4, s_faultNumber_4, o_heights_4, hc_4, h⟩ := bd4_of h
    refine cl_mVi (As := [.ref q_o]) (rest := []) (ws' := (W_Tape cI cZ q_s q_s_bytes s_bytes s_length s_at_4 s_number_2 s_faultNumber_4) ++ ((W_Isle cI cZ q_o q_o_heights q_o_holders q_o_kinds q_o_purses q_o_homes o_told_2 o_low_2 o_high_2 o_price_2 o_hour_1 o_bidders_1 o_heights_4 o_holders_1 o_kinds o_purses o_homes))) (wr := []) ⟨hx, hb, hml, hown, hts⟩ (m_X7_readHeights l dC dI cI cZ q_s q_s_bytes q_o q_o_heights q_o_holders q_o_kinds q_o_purses q_o_homes s_bytes s_length s_at_2 s_number_2 s_faultNumber_2 o_told_2 o_low_2 o_high_2 o_price_2 o_hour_1 o_bidders_1 o_heights o_holders_1 o_kinds o_purses o_homes _ (r_4, s_at_4, s_faultNumber_4, o_heights_4) hc_4) (cwV 1 hts gX7_readInto_X7_readHeights rfl rfl rfl ⟨rfl, ddX7_readHeights⟩ ⟨Nat.le_of_ble_eq_true rfl, Nat.le_of_ble_eq_true rfl⟩) hK hP hD hS hA [0, 1, 2, 3, 4, 5, 6, 7] [] rfl rfl rfl rfl (by decide) [0, 1, 2, 3, 4, 5, 6, 7] rfl rfl rfl rfl rfl rfl rfl hl.1 (Nat.le_of_ble_eq_true rfl) ⟨Nat.zero_le _, Nat.zero_le _⟩ dX7_readInto_19 (fun H locs hP hD hS => ?_)
    refine lv_if_eq (tgt := 37) hx hb dX7_readInto_22 (by decide) (fun c_5 => ?_) (fun c_5 => ?_)
    · have h := (if_pos c_5).symm.trans h
      refine lv_iconst (v := 0) hx hb dX7_readInto_37 (by decide) ?_
      have h := Option.some.inj h
      subst h
      rw [hQQ]
      subst hAe
      exact W.zret (v := 0) (ty := .boolean) hx hb hr rfl (fun t ht hW => ⟨⟨_, (), rfl, rfl, by rw [ht]; exact hP, va_K.moved hW.alike hK, hD⟩, hS.F ht⟩) hS.2.2 dX7_readInto_38
    · have h := (if_neg c_5).symm.trans h
      refine lv_aload_n hx hb dX7_readInto_25 rfl (lv_at hl 0 rfl) ?_
      refine lv_aload_n hx hb dX7_readInto_26 rfl (lv_at hl 1 rfl) ?_
      obtain ⟨r_6, s_at_6, s_number_6, s_faultNumber_6, o_bidders_6, o_kinds_6, o_purses_6, o_homes_6, hc_6, h⟩ := bd8_of h
      refine cl_mVi (As := [.ref q_o]) (rest := []) (ws' := (W_Tape cI cZ q_s q_s_bytes s_bytes s_length s_at_6 s_number_6 s_faultNumber_6) ++ ((W_Isle cI cZ q_o q_o_heights q_o_holders q_o_kinds q_o_purses q_o_homes o_told_2 o_low_2 o_high_2 o_price_2 o_hour_1 o_bidders_6 o_heights_4 o_holders_1 o_kinds_6 o_purses_6 o_homes_6))) (wr := []) ⟨hx, hb, hml, hown, hts⟩ (m_X7_readBidders l dC dI cI cZ q_s q_s_bytes q_o q_o_heights q_o_holders q_o_kinds q_o_purses q_o_homes s_bytes s_length s_at_4 s_number_2 s_faultNumber_4 o_told_2 o_low_2 o_high_2 o_price_2 o_hour_1 o_bidders_1 o_heights_4 o_holders_1 o_kinds o_purses o_homes _ (r_6, s_at_6, s_number_6, s_faultNumber_6, o_bidders_6, o_kinds_6, o_purses_6, o_homes_6) hc_6) (cwV 1 hts gX7_readInto_X7_readBidders rfl rfl rfl ⟨rfl, ddX7_readBidders⟩ ⟨Nat.le_of_ble_eq_true rfl, Nat.le_of_ble_eq_true rfl⟩) hK hP hD hS hA [0, 1, 2, 3, 4, 5, 6, 7] [] rfl rfl rfl rfl (by decide) [0, 1, 2, 3, 4, 5, 6, 7] rfl rfl rfl rfl rfl rfl rfl hl.1 (Nat.le_of_ble_eq_true rfl) ⟨Nat.zero_le _, Nat.zero_le _⟩ dX7_readInto_27 (fun H locs hP hD hS => ?_)
      refine lv_if_eq (tgt := 37) hx hb dX7_readInto_30 (by decide) (fun c_7 => ?_) (fun c_7 => ?_)
      · have h := (if_pos c_7).symm.trans h
        refine lv_iconst (v := 0) hx hb dX7_readInto_37 (by decide) ?_
        have h := Option.some.inj h
        subst h
        rw [hQQ]
        subst hAe
        exact W.zret (v := 0) (ty := .boolean) hx hb hr rfl (fun t ht hW => ⟨⟨_, (), rfl, rfl, by rw [ht]; exact hP, va_K.moved hW.alike hK, hD⟩, hS.F ht⟩) hS.2.2 dX7_readInto_38
      · have h := (if_neg c_7).symm.trans h
        refine lv_iconst (v := 1) hx hb dX7_readInto_33 (by decide) ?_
        refine lv_goto (tgt := 38) hx hb dX7_readInto_34 (by decide) ?_
        have h := Option.some.inj h
        subst h
        rw [hQQ]
        subst hAe
        exact W.zret (v := 1) (ty := .boolean) hx hb hr rfl (fun t ht hW => ⟨⟨_, (), rfl, rfl, by rw [ht]; exact hP, va_K.moved hW.alike hK, hD⟩, hS.F ht⟩) hS.2.2 dX7_readInto_38









