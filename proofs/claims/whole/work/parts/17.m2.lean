def fX9_isDry (r : (Nat → Int32)) (v1 : Int32) : Option (Int32) :=
  chk (¬ ((6 + v1) < 0 ∨ 51 ≤ (6 + v1).toNatClampNeg)) (bd1 (fX9_levelBy r (r (5 : Int32).toNatClampNeg)) (fun r_2 => (if (r (6 + v1).toNatClampNeg) ≤ r_2 then some (0) else some (1))))
abbrev rmX9_isDry : Room := { frames := 1, cells := 0, slots := 0, locals := 22 }
theorem ddX9_isDry : yX9_isDry.cls ≠ "java/lang/invoke/MethodHandle" ∧ yX9_isDry.cls ≠ "java/lang/invoke/VarHandle" ∧ (parseMethodDescriptor yX9_isDry.desc).map (fun d => d.parameters.length) = some 2 := by decide +kernel
set_option maxHeartbeats 4000000 in
set_option maxRecDepth 100000 in
theorem m_X9_isDry (l : Launch) (dC : Nat → ClassId) (dI : Nat → Nat → Nat) (cI cZ : ClassId) (q_r : Nat) (r : (Nat → Int32)) (v1 : Int32) (res : Int32) (hf : fX9_isDry r v1 = some res) : Met l yX9_isDry wsX9_isDry rmX9_isDry (rdPc (dC, dI) (tyZ cI cZ) ([(q_r, .inl (cI, 51, .inl r))]) [.ref q_r, .int v1]) (rdQ res) 0 0 (fun _ => False) := by
  refine Met.ofW (cc := cX9_isDry) (maxL := 2) (ret := (some .boolean)) (by decide) rfl ?_
  intro p e s m args below meth c s₁ B hml hv
  obtain ⟨rfl, hP, hK⟩ := hv
  have hx := B.exec
  have hb := B.bytes
  have hr := B.returns
  have hts := atoms_spec (ws := wsX9_isDry) B.pre
  have hown : s.vm.findClass RX9 = some m.cls := findClass_of_methodNamed B.named
  have hlocks := B.notSynchronized
  have hl := lv_entry ([.ref q_r, .int v1]) (n := 2) (Nat.le_of_ble_eq_true rfl)
  rw [lg_entry_eq]
  generalize (lg_sl ([.ref q_r, .int v1]) ++ List.replicate (2 - (lg_sl ([.ref q_r, .int v1])).length) Slot.unset).toArray = ls at hl ⊢
  have hl : lv_has ls 2 [(0, .ref q_r), (1, .int v1)] := hl
  obtain ⟨QQ, hQQ⟩ : ∃ Q, Q = MQ below (rdQ res) ([.ref q_r, .int v1] : List Value).toArray s 0 0 (fun _ => False) := ⟨_, rfl⟩
  rw [← hQQ]
  have h := hf
  unfold fX9_isDry at h
  refine lv_aload_n hx hb dX9_isDry_0 rfl (lv_at hl 0 rfl) ?_
  refine lv_bipush (v := 6) hx hb dX9_isDry_1 (by decide) ?_
  refine lv_iload_n hx hb dX9_isDry_3 rfl (lv_at hl 1 rfl) ?_
  refine lv_iadd hx hb dX9_isDry_4 ?_
  obtain ⟨b_1, h⟩ := chk_of h
  refine va_iald hx hb hK hP 0 0 rfl rfl (i := (6 + v1)) b_1 dX9_isDry_5 ?_
  refine lv_aload_n hx hb dX9_isDry_6 rfl (lv_at hl 0 rfl) ?_
  refine lv_aload_n hx hb dX9_isDry_7 rfl (lv_at hl 0 rfl) ?_
  refine lv_iconst (v := 5) hx hb dX9_isDry_8 (by decide) ?_
  refine va_iald hx hb hK hP 0 0 rfl rfl (i := 5) (show ¬ ((5 : Int32) < 0 ∨ 51 ≤ (5 : Int32).toNatClampNeg) by decide +kernel) dX9_isDry_9 ?_
  obtain ⟨r_2, hc_2, h⟩ := bd1_of h
  refine cl_rS (As := [.ref q_r, .int (r (5 : Int32).toNatClampNeg)]) (rest := [.int (r (6 + v1).toNatClampNeg)]) ⟨hx, hb, hml, hown, hts⟩ (m_X9_levelBy l dC dI cI cZ q_r r (r (5 : Int32).toNatClampNeg) (r_2) hc_2) (va_cwS 2 hts gX9_isDry_X9_levelBy rfl rfl rfl ddX9_levelBy ⟨Nat.le_of_ble_eq_true rfl, Nat.le_of_ble_eq_true rfl⟩) hK hP [0] rfl rfl rfl hl.1 (Nat.le_of_ble_eq_true rfl) ⟨Nat.zero_le _, Nat.zero_le _⟩ dX9_isDry_10 ?_
  refine lv_icmp_le (tgt := 20) hx hb dX9_isDry_13 (by decide) (fun c_3 => ?_) (fun c_3 => ?_)
  · have h := (if_pos c_3).symm.trans h
    refine lv_iconst (v := 0) hx hb dX9_isDry_20 (by decide) ?_
    rw [hQQ]
    exact W.zret (v := 0) (ty := .boolean) hx hb hr rfl (fun t ht hW => ⟨_, rfl, Option.some.inj h, ht⟩) (fun q hq => by cases hq) dX9_isDry_21
  · have h := (if_neg c_3).symm.trans h
    refine lv_iconst (v := 1) hx hb dX9_isDry_16 (by decide) ?_
    refine lv_goto (tgt := 21) hx hb dX9_isDry_17 (by decide) ?_
    rw [hQQ]
    exact W.zret (v := 1) (ty := .boolean) hx hb hr rfl (fun t ht hW => ⟨_, rfl, Option.some.inj h, ht⟩) (fun q hq => by cases hq) dX9_isDry_21
def fX9_dryOf_L4 (r : (Nat → Int32)) : Nat → Int32 → Int32 → Option (Int32)
  | 0, _, _ => none
  | n + 1, v1_h4, v2_h4 => (if 15 ≤ v2_h4 then some (v1_h4) else bd1 (fX9_isDry r v2_h4) (fun r_2 => (if r_2 = 0 then ((fX9_dryOf_L4 r n) (v1_h4 ||| 0) (v2_h4 + 1)) else ((fX9_dryOf_L4 r n) (v1_h4 ||| (1 <<< (v2_h4 &&& 31))) (v2_h4 + 1)))))
def fX9_dryOf (r : (Nat → Int32)) : Option (Int32) :=
  (fX9_dryOf_L4 r FU 0 0)
abbrev rmX9_dryOf : Room := { frames := 2, cells := 0, slots := 0, locals := 43 }
theorem ddX9_dryOf : yX9_dryOf.cls ≠ "java/lang/invoke/MethodHandle" ∧ yX9_dryOf.cls ≠ "java/lang/invoke/VarHandle" ∧ (parseMethodDescriptor yX9_dryOf.desc).map (fun d => d.parameters.length) = some 1 := by decide +kernel
set_option maxHeartbeats 4000000 in
set_option maxRecDepth 100000 in
theorem m_X9_dryOf (l : Launch) (dC : Nat → ClassId) (dI : Nat → Nat → Nat) (cI cZ : ClassId) (q_r : Nat) (r : (Nat → Int32)) (res : Int32) (hf : fX9_dryOf r = some res) : Met l yX9_dryOf wsX9_dryOf rmX9_dryOf (rdPc (dC, dI) (tyZ cI cZ) ([(q_r, .inl (cI, 51, .inl r))]) [.ref q_r]) (rdQ res) 0 0 (fun _ => False) := by
  refine Met.ofW (cc := cX9_dryOf) (maxL := 3) (ret := (some .int)) (by decide) rfl ?_
  intro p e s m args below meth c s₁ B hml hv
  obtain ⟨rfl, hP, hK⟩ := hv
  have hx := B.exec
  have hb := B.bytes
  have hr := B.returns
  have hts := atoms_spec (ws := wsX9_dryOf) B.pre
  have hown : s.vm.findClass RX9 = some m.cls := findClass_of_methodNamed B.named
  have hlocks := B.notSynchronized
  have hl := lv_entry ([.ref q_r]) (n := 3) (Nat.le_of_ble_eq_true rfl)
  rw [lg_entry_eq]
  generalize (lg_sl ([.ref q_r]) ++ List.replicate (3 - (lg_sl ([.ref q_r])).length) Slot.unset).toArray = ls at hl ⊢
  have hl : lv_has ls 3 [(0, .ref q_r)] := hl
  obtain ⟨QQ, hQQ⟩ : ∃ Q, Q = MQ below (rdQ res) ([.ref q_r] : List Value).toArray s 0 0 (fun _ => False) := ⟨_, rfl⟩
  rw [← hQQ]
  have h := hf
  unfold fX9_dryOf at h
  refine lv_iconst (v := 0) hx hb dX9_dryOf_0 (by decide) ?_
  refine lv_istore_n (lv' := [(1, .int 0), (0, .ref q_r)]) hx hb dX9_dryOf_1 rfl hl (by decide) rfl (fun ls hl => ?_)
  refine lv_iconst (v := 0) hx hb dX9_dryOf_2 (by decide) ?_
  refine lv_istore_n (lv' := [(2, .int 0), (1, .int 0), (0, .ref q_r)]) hx hb dX9_dryOf_3 rfl hl (by decide) rfl (fun ls hl => ?_)
  have KL4 : ∀ (n : Nat) (v1_h4 : Int32) (v2_h4 : Int32) (ls : Array Slot), lv_has ls 3 [(0, .ref q_r), (1, .int v1_h4), (2, .int v2_h4)] → fX9_dryOf_L4 r n v1_h4 v2_h4 = some res → W p l e (headSpec wsX9_dryOf rmX9_dryOf).room s m ([.ref q_r] : List Value).toArray below meth c s.heap [] 0 0 QQ (F0 m 4 ls []) := by
    intro  n
    induction n with
    | zero => intro v1_h4 v2_h4 ls hl h; rw [fX9_dryOf_L4.eq_1] at h; cases h
    | succ n ih =>
      intro v1_h4 v2_h4 ls hl h
      rw [fX9_dryOf_L4.eq_2] at h
      refine lv_iload_n hx hb dX9_dryOf_4 rfl (lv_at hl 2 rfl) ?_
      refine lv_bipush (v := 15) hx hb dX9_dryOf_5 (by decide) ?_
      refine lv_icmp_ge (tgt := 34) hx hb dX9_dryOf_7 (by decide) (fun c_1 => ?_) (fun c_1 => ?_)
      · have h := (if_pos c_1).symm.trans h
        refine lv_iload_n hx hb dX9_dryOf_34 rfl (lv_at hl 1 rfl) ?_
        rw [hQQ]
        exact W.iret (v := v1_h4) hx hb hr (fun t ht hW => ⟨_, rfl, Option.some.inj h, ht⟩) (fun q hq => by cases hq) dX9_dryOf_35
      · have h := (if_neg c_1).symm.trans h
        refine lv_iload_n hx hb dX9_dryOf_10 rfl (lv_at hl 1 rfl) ?_
        refine lv_aload_n hx hb dX9_dryOf_11 rfl (lv_at hl 0 rfl) ?_
        refine lv_iload_n hx hb dX9_dryOf_12 rfl (lv_at hl 2 rfl) ?_
        obtain ⟨r_2, hc_2, h⟩ := bd1_of h
        refine cl_rS (As := [.ref q_r, .int v2_h4]) (rest := [.int v1_h4]) ⟨hx, hb, hml, hown, hts⟩ (m_X9_isDry l dC dI cI cZ q_r r v2_h4 (r_2) hc_2) (va_cwS 2 hts gX9_dryOf_X9_isDry rfl rfl rfl ddX9_isDry ⟨Nat.le_of_ble_eq_true rfl, Nat.le_of_ble_eq_true rfl⟩) hK hP [0] rfl rfl rfl hl.1 (Nat.le_of_ble_eq_true rfl) ⟨Nat.zero_le _, Nat.zero_le _⟩ dX9_dryOf_13 ?_
        refine lv_if_eq (tgt := 25) hx hb dX9_dryOf_16 (by decide) (fun c_3 => ?_) (fun c_3 => ?_)
        · have h := (if_pos c_3).symm.trans h
          refine lv_iconst (v := 0) hx hb dX9_dryOf_25 (by decide) ?_
          refine lv_ior hx hb dX9_dryOf_26 ?_
          refine lv_istore_n (lv' := [(1, .int (v1_h4 ||| 0)), (0, .ref q_r), (2, .int v2_h4)]) hx hb dX9_dryOf_27 rfl hl (by decide) rfl (fun ls hl => ?_)
          refine lv_iinc (v := (v2_h4 + 1)) (lv' := [(2, .int (v2_h4 + 1)), (1, .int (v1_h4 ||| 0)), (0, .ref q_r)]) hx hb dX9_dryOf_28 hl (k := 2) rfl rfl (by decide) rfl (fun ls hl => ?_)
          refine lv_goto (tgt := 4) hx hb dX9_dryOf_31 (by decide) ?_
          exact ih (v1_h4 ||| 0) (v2_h4 + 1) _ (lv_sub hl [2, 1, 0] rfl) h
        · have h := (if_neg c_3).symm.trans h
          refine lv_iconst (v := 1) hx hb dX9_dryOf_19 (by decide) ?_
          refine lv_iload_n hx hb dX9_dryOf_20 rfl (lv_at hl 2 rfl) ?_
          refine lv_ishl hx hb dX9_dryOf_21 ?_
          refine lv_goto (tgt := 26) hx hb dX9_dryOf_22 (by decide) ?_
          refine lv_ior hx hb dX9_dryOf_26 ?_
          refine lv_istore_n (lv' := [(1, .int (v1_h4 ||| (1 <<< (v2_h4 &&& 31)))), (0, .ref q_r), (2, .int v2_h4)]) hx hb dX9_dryOf_27 rfl hl (by decide) rfl (fun ls hl => ?_)
          refine lv_iinc (v := (v2_h4 + 1)) (lv' := [(2, .int (v2_h4 + 1)), (1, .int (v1_h4 ||| (1 <<< (v2_h4 &&& 31)))), (0, .ref q_r)]) hx hb dX9_dryOf_28 hl (k := 2) rfl rfl (by decide) rfl (fun ls hl => ?_)
          refine lv_goto (tgt := 4) hx hb dX9_dryOf_31 (by decide) ?_
          exact ih (v1_h4 ||| (1 <<< (v2_h4 &&& 31))) (v2_h4 + 1) _ (lv_sub hl [2, 1, 0] rfl) h
  exact KL4 FU 0 0 _ (lv_sub hl [2, 1, 0] rfl) h
def fX9_deepOf (r : (Nat → Int32)) (v1 : Int32) : Option (Int32) :=
  bd1 (fX9_isDry r v1) (fun r_1 => (if r_1 = 0 then bd1 (fX9_levelBy r (r (5 : Int32).toNatClampNeg)) (fun r_3 => chk (¬ ((6 + v1) < 0 ∨ 51 ≤ (6 + v1).toNatClampNeg)) (some ((r_3 - (r (6 + v1).toNatClampNeg))))) else some (0)))
abbrev rmX9_deepOf : Room := { frames := 2, cells := 0, slots := 0, locals := 43 }
theorem ddX9_deepOf : yX9_deepOf.cls ≠ "java/lang/invoke/MethodHandle" ∧ yX9_deepOf.cls ≠ "java/lang/invoke/VarHandle" ∧ (parseMethodDescriptor yX9_deepOf.desc).map (fun d => d.parameters.length) = some 2 := by decide +kernel
set_option maxHeartbeats 4000000 in
set_option maxRecDepth 100000 in
theorem m_X9_deepOf (l : Launch) (dC : Nat → ClassId) (dI : Nat → Nat → Nat) (cI cZ : ClassId) (q_r : Nat) (r : (Nat → Int32)) (v1 : Int32) (res : Int32) (hf : fX9_deepOf r v1 = some res) : Met l yX9_deepOf wsX9_deepOf rmX9_deepOf (rdPc (dC, dI) (tyZ cI cZ) ([(q_r, .inl (cI, 51, .inl r))]) [.ref q_r, .int v1]) (rdQ res) 0 0 (fun _ => False) := by
  refine Met.ofW (cc := cX9_deepOf) (maxL := 2) (ret := (some .int)) (by decide) rfl ?_
  intro p e s m args below meth c s₁ B hml hv
  obtain ⟨rfl, hP, hK⟩ := hv
  have hx := B.exec
  have hb := B.bytes
  have hr := B.returns
  have hts := atoms_spec (ws := wsX9_deepOf) B.pre
  have hown : s.vm.findClass RX9 = some m.cls := findClass_of_methodNamed B.named
  have hlocks := B.notSynchronized
  have hl := lv_entry ([.ref q_r, .int v1]) (n := 2) (Nat.le_of_ble_eq_true rfl)
  rw [lg_entry_eq]
  generalize (lg_sl ([.ref q_r, .int v1]) ++ List.replicate (2 - (lg_sl ([.ref q_r, .int v1])).length) Slot.unset).toArray = ls at hl ⊢
  have hl : lv_has ls 2 [(0, .ref q_r), (1, .int v1)] := hl
  obtain ⟨QQ, hQQ⟩ : ∃ Q, Q = MQ below (rdQ res) ([.ref q_r, .int v1] : List Value).toArray s 0 0 (fun _ => False) := ⟨_, rfl⟩
  rw [← hQQ]
  have h := hf
  unfold fX9_deepOf at h
  refine lv_aload_n hx hb dX9_deepOf_0 rfl (lv_at hl 0 rfl) ?_
  refine lv_iload_n hx hb dX9_deepOf_1 rfl (lv_at hl 1 rfl) ?_
  obtain ⟨r_1, hc_1, h⟩ := bd1_of h
  refine cl_rS (As := [.ref q_r, .int v1]) (rest := []) ⟨hx, hb, hml, hown, hts⟩ (m_X9_isDry l dC dI cI cZ q_r r v1 (r_1) hc_1) (va_cwS 2 hts gX9_deepOf_X9_isDry rfl rfl rfl ddX9_isDry ⟨Nat.le_of_ble_eq_true rfl, Nat.le_of_ble_eq_true rfl⟩) hK hP [0] rfl rfl rfl hl.1 (Nat.le_of_ble_eq_true rfl) ⟨Nat.zero_le _, Nat.zero_le _⟩ dX9_deepOf_2 ?_
  refine lv_if_eq (tgt := 12) hx hb dX9_deepOf_5 (by decide) (fun c_2 => ?_) (fun c_2 => ?_)
  · have h := (if_pos c_2).symm.trans h
    refine lv_aload_n hx hb dX9_deepOf_12 rfl (lv_at hl 0 rfl) ?_
    refine lv_aload_n hx hb dX9_deepOf_13 rfl (lv_at hl 0 rfl) ?_
    refine lv_iconst (v := 5) hx hb dX9_deepOf_14 (by decide) ?_
    refine va_iald hx hb hK hP 0 0 rfl rfl (i := 5) (show ¬ ((5 : Int32) < 0 ∨ 51 ≤ (5 : Int32).toNatClampNeg) by decide +kernel) dX9_deepOf_15 ?_
    obtain ⟨r_3, hc_3, h⟩ := bd1_of h
    refine cl_rS (As := [.ref q_r, .int (r (5 : Int32).toNatClampNeg)]) (rest := []) ⟨hx, hb, hml, hown, hts⟩ (m_X9_levelBy l dC dI cI cZ q_r r (r (5 : Int32).toNatClampNeg) (r_3) hc_3) (va_cwS 2 hts gX9_deepOf_X9_levelBy rfl rfl rfl ddX9_levelBy ⟨Nat.le_of_ble_eq_true rfl, Nat.le_of_ble_eq_true rfl⟩) hK hP [0] rfl rfl rfl hl.1 (Nat.le_of_ble_eq_true rfl) ⟨Nat.zero_le _, Nat.zero_le _⟩ dX9_deepOf_16 ?_
    refine lv_aload_n hx hb dX9_deepOf_19 rfl (lv_at hl 0 rfl) ?_
    refine lv_bipush (v := 6) hx hb dX9_deepOf_20 (by decide) ?_
    refine lv_iload_n hx hb dX9_deepOf_22 rfl (lv_at hl 1 rfl) ?_
    refine lv_iadd hx hb dX9_deepOf_23 ?_
    obtain ⟨b_4, h⟩ := chk_of h
    refine va_iald hx hb hK hP 0 0 rfl rfl (i := (6 + v1)) b_4 dX9_deepOf_24 ?_
    refine lv_isub hx hb dX9_deepOf_25 ?_
    rw [hQQ]
    exact W.iret (v := (r_3 - (r (6 + v1).toNatClampNeg))) hx hb hr (fun t ht hW => ⟨_, rfl, Option.some.inj h, ht⟩) (fun q hq => by cases hq) dX9_deepOf_26
  · have h := (if_neg c_2).symm.trans h
    refine lv_iconst (v := 0) hx hb dX9_deepOf_8 (by decide) ?_
    refine lv_goto (tgt := 26) hx hb dX9_deepOf_9 (by decide) ?_
    rw [hQQ]
    exact W.iret (v := 0) hx hb hr (fun t ht hW => ⟨_, rfl, Option.some.inj h, ht⟩) (fun q hq => by cases hq) dX9_deepOf_26
def fX9_priceBy (r : (Nat → Int32)) (v1 : Int32) (v2 : Int32) : Option (Int32) :=
  chk (¬ ((6 + v2) < 0 ∨ 51 ≤ (6 + v2).toNatClampNeg)) ((if v1 = 1 then some (((r (3 : Int32).toNatClampNeg) * (r (6 + v2).toNatClampNeg))) else (if v1 = 2 then some ((((r (3 : Int32).toNatClampNeg) * (r (6 + v2).toNatClampNeg)) / 2)) else (if v1 = 3 then some ((((r (3 : Int32).toNatClampNeg) * (r (6 + v2).toNatClampNeg)) + 1)) else (if v1 = 4 then some ((r (3 : Int32).toNatClampNeg)) else some (0))))))
abbrev rmX9_priceBy : Room := { frames := 0, cells := 0, slots := 0, locals := 0 }
theorem ddX9_priceBy : yX9_priceBy.cls ≠ "java/lang/invoke/MethodHandle" ∧ yX9_priceBy.cls ≠ "java/lang/invoke/VarHandle" ∧ (parseMethodDescriptor yX9_priceBy.desc).map (fun d => d.parameters.length) = some 3 := by decide +kernel
set_option maxHeartbeats 4000000 in
set_option maxRecDepth 100000 in
theorem m_X9_priceBy (l : Launch) (dC : Nat → ClassId) (dI : Nat → Nat → Nat) (cI cZ : ClassId) (q_r : Nat) (r : (Nat → Int32)) (v1 : Int32) (v2 : Int32) (res : Int32) (hf : fX9_priceBy r v1 v2 = some res) : Met l yX9_priceBy wsX9_priceBy rmX9_priceBy (rdPc (dC, dI) (tyZ cI cZ) ([(q_r, .inl (cI, 51, .inl r))]) [.ref q_r, .int v1, .int v2]) (rdQ res) 0 0 (fun _ => False) := by
  refine Met.ofW (cc := cX9_priceBy) (maxL := 4) (ret := (some .int)) (by decide) rfl ?_
  intro p e s m args below meth c s₁ B hml hv
  obtain ⟨rfl, hP, hK⟩ := hv
  have hx := B.exec
  have hb := B.bytes
  have hr := B.returns
  have hts := atoms_spec (ws := wsX9_priceBy) B.pre
  have hown : s.vm.findClass RX9 = some m.cls := findClass_of_methodNamed B.named
  have hlocks := B.notSynchronized
  have hl := lv_entry ([.ref q_r, .int v1, .int v2]) (n := 4) (Nat.le_of_ble_eq_true rfl)
  rw [lg_entry_eq]
  generalize (lg_sl ([.ref q_r, .int v1, .int v2]) ++ List.replicate (4 - (lg_sl ([.ref q_r, .int v1, .int v2])).length) Slot.unset).toArray = ls at hl ⊢
  have hl : lv_has ls 4 [(0, .ref q_r), (1, .int v1), (2, .int v2)] := hl
  obtain ⟨QQ, hQQ⟩ : ∃ Q, Q = MQ below (rdQ res) ([.ref q_r, .int v1, .int v2] : List Value).toArray s 0 0 (fun _ => False) := ⟨_, rfl⟩
  rw [← hQQ]
  have h := hf
  unfold fX9_priceBy at h
  refine lv_aload_n hx hb dX9_priceBy_0 rfl (lv_at hl 0 rfl) ?_
  refine lv_iconst (v := 3) hx hb dX9_priceBy_1 (by decide) ?_
  refine va_iald hx hb hK hP 0 0 rfl rfl (i := 3) (show ¬ ((3 : Int32) < 0 ∨ 51 ≤ (3 : Int32).toNatClampNeg) by decide +kernel) dX9_priceBy_2 ?_
  refine lv_aload_n hx hb dX9_priceBy_3 rfl (lv_at hl 0 rfl) ?_
  refine lv_bipush (v := 6) hx hb dX9_priceBy_4 (by decide) ?_
  refine lv_iload_n hx hb dX9_priceBy_6 rfl (lv_at hl 2 rfl) ?_
  refine lv_iadd hx hb dX9_priceBy_7 ?_
  obtain ⟨b_1, h⟩ := chk_of h
  refine va_iald hx hb hK hP 0 0 rfl rfl (i := (6 + v2)) b_1 dX9_priceBy_8 ?_
  refine lv_imul hx hb dX9_priceBy_9 ?_
  refine lv_istore_n (lv' := [(3, .int ((r (3 : Int32).toNatClampNeg) * (r (6 + v2).toNatClampNeg))), (0, .ref q_r), (1, .int v1), (2, .int v2)]) hx hb dX9_priceBy_10 rfl hl (by decide) rfl (fun ls hl => ?_)
  refine lv_iload_n hx hb dX9_priceBy_11 rfl (lv_at hl 2 rfl) ?_
  by_cases c_2 : v1 = 1
  · have h := (if_pos c_2).symm.trans h
    refine lv_tableIn (tgt := 44) hx hb dX9_priceBy_12 (by rw [c_2]; decide) (by rw [c_2]; decide) (by rw [c_2]; rfl) (by decide) ?_
    refine lv_iload_n hx hb dX9_priceBy_44 rfl (lv_at hl 0 rfl) ?_
    rw [hQQ]
    exact W.iret (v := ((r (3 : Int32).toNatClampNeg) * (r (6 + v2).toNatClampNeg))) hx hb hr (fun t ht hW => ⟨_, rfl, Option.some.inj h, ht⟩) (fun q hq => by cases hq) dX9_priceBy_45
  have h := (if_neg c_2).symm.trans h
  by_cases c_3 : v1 = 2
  · have h := (if_pos c_3).symm.trans h
    refine lv_tableIn (tgt := 46) hx hb dX9_priceBy_12 (by rw [c_3]; decide) (by rw [c_3]; decide) (by rw [c_3]; rfl) (by decide) ?_
    refine lv_iload_n hx hb dX9_priceBy_46 rfl (lv_at hl 0 rfl) ?_
    refine lv_iconst (v := 2) hx hb dX9_priceBy_47 (by decide) ?_
    refine lv_idiv hx hb dX9_priceBy_48 (by decide) ?_
    rw [hQQ]
    exact W.iret (v := (((r (3 : Int32).toNatClampNeg) * (r (6 + v2).toNatClampNeg)) / 2)) hx hb hr (fun t ht hW => ⟨_, rfl, Option.some.inj h, ht⟩) (fun q hq => by cases hq) dX9_priceBy_49
  have h := (if_neg c_3).symm.trans h
  by_cases c_4 : v1 = 3
  · have h := (if_pos c_4).symm.trans h
    refine lv_tableIn (tgt := 50) hx hb dX9_priceBy_12 (by rw [c_4]; decide) (by rw [c_4]; decide) (by rw [c_4]; rfl) (by decide) ?_
    refine lv_iload_n hx hb dX9_priceBy_50 rfl (lv_at hl 0 rfl) ?_
    refine lv_iconst (v := 1) hx hb dX9_priceBy_51 (by decide) ?_
    refine lv_iadd hx hb dX9_priceBy_52 ?_
    rw [hQQ]
    exact W.iret (v := (((r (3 : Int32).toNatClampNeg) * (r (6 + v2).toNatClampNeg)) + 1)) hx hb hr (fun t ht hW => ⟨_, rfl, Option.some.inj h, ht⟩) (fun q hq => by cases hq) dX9_priceBy_53
  have h := (if_neg c_4).symm.trans h
  by_cases c_5 : v1 = 4
  · have h := (if_pos c_5).symm.trans h
    refine lv_tableIn (tgt := 54) hx hb dX9_priceBy_12 (by rw [c_5]; decide) (by rw [c_5]; decide) (by rw [c_5]; rfl) (by decide) ?_
    refine lv_aload_n hx hb dX9_priceBy_54 rfl (lv_at hl 1 rfl) ?_
    refine lv_iconst (v := 3) hx hb dX9_priceBy_55 (by decide) ?_
    refine va_iald hx hb hK hP 0 0 rfl rfl (i := 3) (show ¬ ((3 : Int32) < 0 ∨ 51 ≤ (3 : Int32).toNatClampNeg) by decide +kernel) dX9_priceBy_56 ?_
    rw [hQQ]
    exact W.iret (v := (r (3 : Int32).toNatClampNeg)) hx hb hr (fun t ht hW => ⟨_, rfl, Option.some.inj h, ht⟩) (fun q hq => by cases hq) dX9_priceBy_57
  have h := (if_neg c_5).symm.trans h
  have n_2 : (v1).toInt ≠ 1 := ne_tn c_2 rfl
  have n_3 : (v1).toInt ≠ 2 := ne_tn c_3 rfl
  have n_4 : (v1).toInt ≠ 3 := ne_tn c_4 rfl
  have n_5 : (v1).toInt ≠ 4 := ne_tn c_5 rfl
  refine lv_tableOut (tgt := 58) hx hb dX9_priceBy_12 (by omega) (by decide) ?_
  refine lv_iconst (v := 0) hx hb dX9_priceBy_58 (by decide) ?_
  rw [hQQ]
  exact W.iret (v := 0) hx hb hr (fun t ht hW => ⟨_, rfl, Option.some.inj h, ht⟩) (fun q hq => by cases hq) dX9_priceBy_59
def fX9_mayHave (r : (Nat → Int32)) (v1 : Int32) (v2 : Int32) : Option (Int32) :=
  bd1 (fX9_isDry r v2) (fun r_1 => bd1 (fX9_of r v1 0) (fun r_2 => (if r_2 = 5 then (if r_1 = 1 then some (0) else some (1)) else (if r_1 = 0 then some (0) else some (1)))))
abbrev rmX9_mayHave : Room := { frames := 2, cells := 0, slots := 0, locals := 43 }
theorem ddX9_mayHave : yX9_mayHave.cls ≠ "java/lang/invoke/MethodHandle" ∧ yX9_mayHave.cls ≠ "java/lang/invoke/VarHandle" ∧ (parseMethodDescriptor yX9_mayHave.desc).map (fun d => d.parameters.length) = some 3 := by decide +kernel
set_option maxHeartbeats 4000000 in
set_option maxRecDepth 100000 in
theorem m_X9_mayHave (l : Launch) (dC : Nat → ClassId) (dI : Nat → Nat → Nat) (cI cZ : ClassId) (q_r : Nat) (r : (Nat → Int32)) (v1 : Int32) (v2 : Int32) (res : Int32) (hf : fX9_mayHave r v1 v2 = some res) : Met l yX9_mayHave wsX9_mayHave rmX9_mayHave (rdPc (dC, dI) (tyZ cI cZ) ([(q_r, .inl (cI, 51, .inl r))]) [.ref q_r, .int v1, .int v2]) (rdQ res) 0 0 (fun _ => False) := by
  refine Met.ofW (cc := cX9_mayHave) (maxL := 3) (ret := (some .boolean)) (by decide) rfl ?_
  intro p e s m args below meth c s₁ B hml hv
  obtain ⟨rfl, hP, hK⟩ := hv
  have hx := B.exec
  have hb := B.bytes
  have hr := B.returns
  have hts := atoms_spec (ws := wsX9_mayHave) B.pre
  have hown : s.vm.findClass RX9 = some m.cls := findClass_of_methodNamed B.named
  have hlocks := B.notSynchronized
  have hl := lv_entry ([.ref q_r, .int v1, .int v2]) (n := 3) (Nat.le_of_ble_eq_true rfl)
  rw [lg_entry_eq]
  generalize (lg_sl ([.ref q_r, .int v1, .int v2]) ++ List.replicate (3 - (lg_sl ([.ref q_r, .int v1, .int v2])).length) Slot.unset).toArray = ls at hl ⊢
  have hl : lv_has ls 3 [(0, .ref q_r), (1, .int v1), (2, .int v2)] := hl
  obtain ⟨QQ, hQQ⟩ : ∃ Q, Q = MQ below (rdQ res) ([.ref q_r, .int v1, .int v2] : List Value).toArray s 0 0 (fun _ => False) := ⟨_, rfl⟩
  rw [← hQQ]
  have h := hf
  unfold fX9_mayHave at h
  refine lv_aload_n hx hb dX9_mayHave_0 rfl (lv_at hl 0 rfl) ?_
  refine lv_iload_n hx hb dX9_mayHave_1 rfl (lv_at hl 2 rfl) ?_
  obtain ⟨r_1, hc_1, h⟩ := bd1_of h
  refine cl_rS (As := [.ref q_r, .int v2]) (rest := []) ⟨hx, hb, hml, hown, hts⟩ (m_X9_isDry l dC dI cI cZ q_r r v2 (r_1) hc_1) (va_cwS 2 hts gX9_mayHave_X9_isDry rfl rfl rfl ddX9_isDry ⟨Nat.le_of_ble_eq_true rfl, Nat.le_of_ble_eq_true rfl⟩) hK hP [0] rfl rfl rfl hl.1 (Nat.le_of_ble_eq_true rfl) ⟨Nat.zero_le _, Nat.zero_le _⟩ dX9_mayHave_2 ?_
  refine lv_aload_n hx hb dX9_mayHave_5 rfl (lv_at hl 0 rfl) ?_
  refine lv_iload_n hx hb dX9_mayHave_6 rfl (lv_at hl 1 rfl) ?_
  refine lv_iconst (v := 0) hx hb dX9_mayHave_7 (by decide) ?_
  obtain ⟨r_2, hc_2, h⟩ := bd1_of h
  refine cl_rS (As := [.ref q_r, .int v1, .int 0]) (rest := [.int r_1]) ⟨hx, hb, hml, hown, hts⟩ (m_X9_of l dC dI cI cZ q_r r v1 0 (r_2) hc_2) (va_cwS 3 hts gX9_mayHave_X9_of rfl rfl rfl ddX9_of ⟨Nat.le_of_ble_eq_true rfl, Nat.le_of_ble_eq_true rfl⟩) hK hP [0] rfl rfl rfl hl.1 (Nat.le_of_ble_eq_true rfl) ⟨Nat.zero_le _, Nat.zero_le _⟩ dX9_mayHave_8 ?_
  refine lv_iconst (v := 5) hx hb dX9_mayHave_11 (by decide) ?_
  refine lv_icmp_ne (tgt := 19) hx hb dX9_mayHave_12 (by decide) (fun c_3 => ?_) (fun c_3 => ?_)
  · have h := (if_neg c_3).symm.trans h
    refine lv_iconst (v := 0) hx hb dX9_mayHave_19 (by decide) ?_
    refine lv_icmp_eq (tgt := 27) hx hb dX9_mayHave_20 (by decide) (fun c_4 => ?_) (fun c_4 => ?_)
    · have h := (if_pos c_4).symm.trans h
      refine lv_iconst (v := 0) hx hb dX9_mayHave_27 (by decide) ?_
      rw [hQQ]
      exact W.zret (v := 0) (ty := .boolean) hx hb hr rfl (fun t ht hW => ⟨_, rfl, Option.some.inj h, ht⟩) (fun q hq => by cases hq) dX9_mayHave_28
    · have h := (if_neg c_4).symm.trans h
      refine lv_iconst (v := 1) hx hb dX9_mayHave_23 (by decide) ?_
      refine lv_goto (tgt := 28) hx hb dX9_mayHave_24 (by decide) ?_
      rw [hQQ]
      exact W.zret (v := 1) (ty := .boolean) hx hb hr rfl (fun t ht hW => ⟨_, rfl, Option.some.inj h, ht⟩) (fun q hq => by cases hq) dX9_mayHave_28
  · have h := (if_pos c_3).symm.trans h
    refine lv_iconst (v := 1) hx hb dX9_mayHave_15 (by decide) ?_
    refine lv_goto (tgt := 20) hx hb dX9_mayHave_16 (by decide) ?_
    refine lv_icmp_eq (tgt := 27) hx hb dX9_mayHave_20 (by decide) (fun c_5 => ?_) (fun c_5 => ?_)
    · have h := (if_pos c_5).symm.trans h
      refine lv_iconst (v := 0) hx hb dX9_mayHave_27 (by decide) ?_
      rw [hQQ]
      exact W.zret (v := 0) (ty := .boolean) hx hb hr rfl (fun t ht hW => ⟨_, rfl, Option.some.inj h, ht⟩) (fun q hq => by cases hq) dX9_mayHave_28
    · have h := (if_neg c_5).symm.trans h
      refine lv_iconst (v := 1) hx hb dX9_mayHave_23 (by decide) ?_
      refine lv_goto (tgt := 28) hx hb dX9_mayHave_24 (by decide) ?_
      rw [hQQ]
      exact W.zret (v := 1) (ty := .boolean) hx hb hr rfl (fun t ht hW => ⟨_, rfl, Option.some.inj h, ht⟩) (fun q hq => by cases hq) dX9_mayHave_28
def fX9_isLostBy (r : (Nat → Int32)) (v1 : Int32) (v2 : Int32) : Option (Int32) :=
  bd1 (fX9_isDry r v2) (fun r_1 => (if v1 = 5 then chk (r_1 = 0 ∨ r_1 = 1) (some (r_1)) else (if v1 = 3 then bd1 (fX9_deepOf r v2) (fun r_5 => (if r_5 < 2 then some (0) else some (1))) else (if r_1 = 0 then some (1) else some (0)))))
abbrev rmX9_isLostBy : Room := { frames := 3, cells := 0, slots := 0, locals := 64 }
theorem ddX9_isLostBy : yX9_isLostBy.cls ≠ "java/lang/invoke/MethodHandle" ∧ yX9_isLostBy.cls ≠ "java/lang/invoke/VarHandle" ∧ (parseMethodDescriptor yX9_isLostBy.desc).map (fun d => d.parameters.length) = some 3 := by decide +kernel
set_option maxHeartbeats 4000000 in
set_option maxRecDepth 100000 in
theorem m_X9_isLostBy (l : Launch) (dC : Nat → ClassId) (dI : Nat → Nat → Nat) (cI cZ : ClassId) (q_r : Nat) (r : (Nat → Int32)) (v1 : Int32) (v2 : Int32) (res : Int32) (hf : fX9_isLostBy r v1 v2 = some res) : Met l yX9_isLostBy wsX9_isLostBy rmX9_isLostBy (rdPc (dC, dI) (tyZ cI cZ) ([(q_r, .inl (cI, 51, .inl r))]) [.ref q_r, .int v1, .int v2]) (rdQ res) 0 0 (fun _ => False) := by
  refine Met.ofW (cc := cX9_isLostBy) (maxL := 4) (ret := (some .boolean)) (by decide) rfl ?_
  intro p e s m args below meth c s₁ B hml hv
  obtain ⟨rfl, hP, hK⟩ := hv
  have hx := B.exec
  have hb := B.bytes
  have hr := B.returns
  have hts := atoms_spec (ws := wsX9_isLostBy) B.pre
  have hown : s.vm.findClass RX9 = some m.cls := findClass_of_methodNamed B.named
  have hlocks := B.notSynchronized
  have hl := lv_entry ([.ref q_r, .int v1, .int v2]) (n := 4) (Nat.le_of_ble_eq_true rfl)
  rw [lg_entry_eq]
  generalize (lg_sl ([.ref q_r, .int v1, .int v2]) ++ List.replicate (4 - (lg_sl ([.ref q_r, .int v1, .int v2])).length) Slot.unset).toArray = ls at hl ⊢
  have hl : lv_has ls 4 [(0, .ref q_r), (1, .int v1), (2, .int v2)] := hl
  obtain ⟨QQ, hQQ⟩ : ∃ Q, Q = MQ below (rdQ res) ([.ref q_r, .int v1, .int v2] : List Value).toArray s 0 0 (fun _ => False) := ⟨_, rfl⟩
  rw [← hQQ]
  have h := hf
  unfold fX9_isLostBy at h
  refine lv_aload_n hx hb dX9_isLostBy_0 rfl (lv_at hl 0 rfl) ?_
  refine lv_iload_n hx hb dX9_isLostBy_1 rfl (lv_at hl 2 rfl) ?_
  obtain ⟨r_1, hc_1, h⟩ := bd1_of h
  refine cl_rS (As := [.ref q_r, .int v2]) (rest := []) ⟨hx, hb, hml, hown, hts⟩ (m_X9_isDry l dC dI cI cZ q_r r v2 (r_1) hc_1) (va_cwS 2 hts gX9_isLostBy_X9_isDry rfl rfl rfl ddX9_isDry ⟨Nat.le_of_ble_eq_true rfl, Nat.le_of_ble_eq_true rfl⟩) hK hP [0] rfl rfl rfl hl.1 (Nat.le_of_ble_eq_true rfl) ⟨Nat.zero_le _, Nat.zero_le _⟩ dX9_isLostBy_2 ?_
  refine lv_istore_n (lv' := [(3, .int r_1), (0, .ref q_r), (1, .int v1), (2, .int v2)]) hx hb dX9_isLostBy_5 rfl hl (by decide) rfl (fun ls hl => ?_)
  refine lv_iload_n hx hb dX9_isLostBy_6 rfl (lv_at hl 2 rfl) ?_
  refine lv_iconst (v := 5) hx hb dX9_isLostBy_7 (by decide) ?_
  refine lv_icmp_ne (tgt := 15) hx hb dX9_isLostBy_8 (by decide) (fun c_2 => ?_) (fun c_2 => ?_)
  · have h := (if_neg c_2).symm.trans h
    refine lv_iload_n hx hb dX9_isLostBy_15 rfl (lv_at hl 2 rfl) ?_
    refine lv_iconst (v := 3) hx hb dX9_isLostBy_16 (by decide) ?_
    refine lv_icmp_ne (tgt := 37) hx hb dX9_isLostBy_17 (by decide) (fun c_3 => ?_) (fun c_3 => ?_)
    · have h := (if_neg c_3).symm.trans h
      refine lv_iload_n hx hb dX9_isLostBy_37 rfl (lv_at hl 0 rfl) ?_
      refine lv_if_ne (tgt := 45) hx hb dX9_isLostBy_38 (by decide) (fun c_4 => ?_) (fun c_4 => ?_)
      · have h := (if_neg c_4).symm.trans h
        refine lv_iconst (v := 0) hx hb dX9_isLostBy_45 (by decide) ?_
        rw [hQQ]
        exact W.zret (v := 0) (ty := .boolean) hx hb hr rfl (fun t ht hW => ⟨_, rfl, Option.some.inj h, ht⟩) (fun q hq => by cases hq) dX9_isLostBy_46
      · have h := (if_pos c_4).symm.trans h
        refine lv_iconst (v := 1) hx hb dX9_isLostBy_41 (by decide) ?_
        refine lv_goto (tgt := 46) hx hb dX9_isLostBy_42 (by decide) ?_
        rw [hQQ]
        exact W.zret (v := 1) (ty := .boolean) hx hb hr rfl (fun t ht hW => ⟨_, rfl, Option.some.inj h, ht⟩) (fun q hq => by cases hq) dX9_isLostBy_46
    · have h := (if_pos c_3).symm.trans h
      refine lv_aload_n hx hb dX9_isLostBy_20 rfl (lv_at hl 1 rfl) ?_
      refine lv_iload_n hx hb dX9_isLostBy_21 rfl (lv_at hl 3 rfl) ?_
      obtain ⟨r_5, hc_5, h⟩ := bd1_of h
      refine cl_rS (As := [.ref q_r, .int v2]) (rest := []) ⟨hx, hb, hml, hown, hts⟩ (m_X9_deepOf l dC dI cI cZ q_r r v2 (r_5) hc_5) (va_cwS 2 hts gX9_isLostBy_X9_deepOf rfl rfl rfl ddX9_deepOf ⟨Nat.le_of_ble_eq_true rfl, Nat.le_of_ble_eq_true rfl⟩) hK hP [0] rfl rfl rfl hl.1 (Nat.le_of_ble_eq_true rfl) ⟨Nat.zero_le _, Nat.zero_le _⟩ dX9_isLostBy_22 ?_
      refine lv_iconst (v := 2) hx hb dX9_isLostBy_25 (by decide) ?_
      refine lv_icmp_lt (tgt := 33) hx hb dX9_isLostBy_26 (by decide) (fun c_6 => ?_) (fun c_6 => ?_)
      · have h := (if_pos c_6).symm.trans h
        refine lv_iconst (v := 0) hx hb dX9_isLostBy_33 (by decide) ?_
        refine lv_goto (tgt := 46) hx hb dX9_isLostBy_34 (by decide) ?_
        rw [hQQ]
        exact W.zret (v := 0) (ty := .boolean) hx hb hr rfl (fun t ht hW => ⟨_, rfl, Option.some.inj h, ht⟩) (fun q hq => by cases hq) dX9_isLostBy_46
      · have h := (if_neg c_6).symm.trans h
        refine lv_iconst (v := 1) hx hb dX9_isLostBy_29 (by decide) ?_
        refine lv_goto (tgt := 46) hx hb dX9_isLostBy_30 (by decide) ?_
        rw [hQQ]
        exact W.zret (v := 1) (ty := .boolean) hx hb hr rfl (fun t ht hW => ⟨_, rfl, Option.some.inj h, ht⟩) (fun q hq => by cases hq) dX9_isLostBy_46
  · have h := (if_pos c_2).symm.trans h
    refine lv_iload_n hx hb dX9_isLostBy_11 rfl (lv_at hl 0 rfl) ?_
    refine lv_goto (tgt := 46) hx hb dX9_isLostBy_12 (by decide) ?_
    obtain ⟨b_7, h⟩ := chk_of h
    rw [hQQ]
    exact W.zret (v := r_1) (ty := .boolean) hx hb hr (zb_nar b_7) (fun t ht hW => ⟨_, rfl, Option.some.inj h, ht⟩) (fun q hq => by cases hq) dX9_isLostBy_46
def fX9_hour_L9 : Nat → Int32 → (Nat → Int32) → Option ((Nat → Int32))
  | 0, _, _ => none
  | n + 1, v1_h9, r_h9 => (if 15 ≤ v1_h9 then some (r_h9) else chk (¬ ((21 + v1_h9) < 0 ∨ 51 ≤ (21 + v1_h9).toNatClampNeg)) ((if ((r_h9 (21 + v1_h9).toNatClampNeg) - 1) < 0 then chk (¬ ((21 + v1_h9) < 0 ∨ 51 ≤ (21 + v1_h9).toNatClampNeg)) (chk (¬ ((21 + v1_h9) < 0 ∨ 51 ≤ (21 + v1_h9).toNatClampNeg)) (((fX9_hour_L9  n) (v1_h9 + 1) (upd r_h9 (21 + v1_h9).toNatClampNeg (r_h9 (21 + v1_h9).toNatClampNeg))))) else bd1 (fX9_of r_h9 ((r_h9 (21 + v1_h9).toNatClampNeg) - 1) 0) (fun r_6 => bd1 (fX9_isLostBy r_h9 r_6 v1_h9) (fun r_7 => (if r_7 = 0 then chk (¬ ((21 + v1_h9) < 0 ∨ 51 ≤ (21 + v1_h9).toNatClampNeg)) (chk (¬ ((21 + v1_h9) < 0 ∨ 51 ≤ (21 + v1_h9).toNatClampNeg)) (((fX9_hour_L9  n) (v1_h9 + 1) (upd r_h9 (21 + v1_h9).toNatClampNeg (r_h9 (21 + v1_h9).toNatClampNeg))))) else chk (¬ ((21 + v1_h9) < 0 ∨ 51 ≤ (21 + v1_h9).toNatClampNeg)) (((fX9_hour_L9  n) (v1_h9 + 1) (upd r_h9 (21 + v1_h9).toNatClampNeg 0)))))))))
def fX9_hour (r : (Nat → Int32)) : Option ((Nat → Int32)) :=
  (fX9_hour_L9 FU 0 (upd r (5 : Int32).toNatClampNeg ((r (5 : Int32).toNatClampNeg) + 1)))
abbrev rmX9_hour : Room := { frames := 4, cells := 0, slots := 0, locals := 87 }
theorem ddX9_hour : yX9_hour.cls ≠ "java/lang/invoke/MethodHandle" ∧ yX9_hour.cls ≠ "java/lang/invoke/VarHandle" ∧ (parseMethodDescriptor yX9_hour.desc).map (fun d => d.parameters.length) = some 1 := by decide +kernel
set_option maxHeartbeats 4000000 in
set_option maxRecDepth 100000 in
theorem m_X9_hour (l : Launch) (dC : Nat → ClassId) (dI : Nat → Nat → Nat) (cI cZ : ClassId) (q_r : Nat) (r : (Nat → Int32)) (sz : Nat) (res : (Nat → Int32)) (hf : fX9_hour r = some res) : Met l yX9_hour wsX9_hour rmX9_hour (mtPc (dC, dI) (tyZ cI cZ) ([(q_r, .inl (cI, 51, .inl r))]) [.ref q_r] sz) (mtQv (dC, dI) (tyZ cI cZ) ([(q_r, .inl (cI, 51, .inl r))]) ([(q_r, .inl (cI, 51, .inl res))]) sz) 0 0 (va_A ([(q_r, .inl (cI, 51, .inl r))]) sz) := by
  refine Met.ofW (cc := cX9_hour) (maxL := 3) (ret := none) (by decide) rfl ?_
  intro p e s m args below meth c s₁ B hml hv
  obtain ⟨rfl, hsz, hP, hK, hD0⟩ := hv
  have hx := B.exec
  have hb := B.bytes
  have hr := B.returns
  have hts := atoms_spec (ws := wsX9_hour) B.pre
  have hown : s.vm.findClass RX9 = some m.cls := findClass_of_methodNamed B.named
  have hlocks := B.notSynchronized
  subst hsz
  have hD := hD0.self (sz := s.heap.size)
  obtain ⟨A, hAe⟩ : ∃ A, A = va_A ([(q_r, .inl (cI, 51, .inl r))]) s.heap.size := ⟨_, rfl⟩
  rw [← hAe] at hD
  have hA : ∀ q : Nat, s.heap.size ≤ q → A q := fun q h => by rw [hAe]; exact Or.inr h
  have hS : va_S A s.heap s.heap [] := va_S.rf
  have hl := lv_entry ([.ref q_r]) (n := 3) (Nat.le_of_ble_eq_true rfl)
  rw [lg_entry_eq]
  generalize (lg_sl ([.ref q_r]) ++ List.replicate (3 - (lg_sl ([.ref q_r])).length) Slot.unset).toArray = ls at hl ⊢
  have hl : lv_has ls 3 [(0, .ref q_r)] := hl
  obtain ⟨QQ, hQQ⟩ : ∃ Q, Q = MQ below (mtQv (dC, dI) (tyZ cI cZ) ([(q_r, .inl (cI, 51, .inl r))]) ([(q_r, .inl (cI, 51, .inl res))]) s.heap.size) ([.ref q_r] : List Value).toArray s 0 0 (va_A ([(q_r, .inl (cI, 51, .inl r))]) s.heap.size) := ⟨_, rfl⟩
  rw [← hQQ]
  have h := hf
  unfold fX9_hour at h
  refine lv_aload_n hx hb dX9_hour_0 rfl (lv_at hl 0 rfl) ?_
  refine lv_iconst (v := 5) hx hb dX9_hour_1 (by decide) ?_
  refine lv_dup2_11 hx hb dX9_hour_2 rfl rfl ?_
  refine va_iald hx hb hK hP 0 0 rfl rfl (i := 5) (show ¬ ((5 : Int32) < 0 ∨ 51 ≤ (5 : Int32).toNatClampNeg) by decide +kernel) dX9_hour_3 ?_
  refine lv_iconst (v := 1) hx hb dX9_hour_4 (by decide) ?_
  refine lv_iadd hx hb dX9_hour_5 ?_
  refine va_iast hx hb hK hP hD hS 0 0 rfl rfl (i := 5) (x := ((r (5 : Int32).toNatClampNeg) + 1)) (show ¬ ((5 : Int32) < 0 ∨ 51 ≤ (5 : Int32).toNatClampNeg) by decide +kernel) dX9_hour_6 (fun H locs hP hD hS => ?_)
  have hP : va_P (dC, dI) vwCl ([(q_r, .inl (cI, 51, .inl (upd r (5 : Int32).toNatClampNeg ((r (5 : Int32).toNatClampNeg) + 1))))]) H := hP
  have hD : va_D A ([(q_r, .inl (cI, 51, .inl (upd r (5 : Int32).toNatClampNeg ((r (5 : Int32).toNatClampNeg) + 1))))]) := hD
  refine lv_iconst (v := 0) hx hb dX9_hour_7 (by decide) ?_
  refine lv_istore_n (lv' := [(1, .int 0), (0, .ref q_r)]) hx hb dX9_hour_8 rfl hl (by decide) rfl (fun ls hl => ?_)
  have KL9 : ∀ (n : Nat) (v1_h9 : Int32) (r_h9 : (Nat → Int32)) (H : Heap) (locs : List Loc) (ls : Array Slot), va_P (dC, dI) vwCl ([(q_r, .inl (cI, 51, .inl r_h9))]) H → va_D A ([(q_r, .inl (cI, 51, .inl r_h9))]) → va_S A s.heap H locs → lv_has ls 3 [(0, .ref q_r), (1, .int v1_h9)] → fX9_hour_L9 n v1_h9 r_h9 = some res → W p l e (headSpec wsX9_hour rmX9_hour).room s m ([.ref q_r] : List Value).toArray below meth c H locs 0 0 QQ (F0 m 9 ls []) := by
    intro  n
    induction n with
    | zero => intro v1_h9 r_h9 H locs ls hP hD hS hl h; rw [fX9_hour_L9.eq_1] at h; cases h
    | succ n ih =>
      intro v1_h9 r_h9 H locs ls hP hD hS hl h
      rw [fX9_hour_L9.eq_2] at h
      refine lv_iload_n hx hb dX9_hour_9 rfl (lv_at hl 1 rfl) ?_
      refine lv_bipush (v := 15) hx hb dX9_hour_10 (by decide) ?_
      refine lv_icmp_ge (tgt := 64) hx hb dX9_hour_12 (by decide) (fun c_1 => ?_) (fun c_1 => ?_)
      · have h := (if_pos c_1).symm.trans h
        have h := Option.some.inj h
        subst h
        rw [hQQ]
        subst hAe
        exact W.vret hx hb hr (fun t ht hW => ⟨⟨(), rfl, trivial, by rw [ht]; exact hP, va_K.moved hW.alike hK, hD⟩, hS.F ht⟩) hS.2.2 dX9_hour_64
      · have h := (if_neg c_1).symm.trans h
        refine lv_aload_n hx hb dX9_hour_15 rfl (lv_at hl 0 rfl) ?_
        refine lv_bipush (v := 21) hx hb dX9_hour_16 (by decide) ?_
        refine lv_iload_n hx hb dX9_hour_18 rfl (lv_at hl 1 rfl) ?_
        refine lv_iadd hx hb dX9_hour_19 ?_
        obtain ⟨b_2, h⟩ := chk_of h
        refine va_iald hx hb hK hP 0 0 rfl rfl (i := (21 + v1_h9)) b_2 dX9_hour_20 ?_
        refine lv_iconst (v := 1) hx hb dX9_hour_21 (by decide) ?_
        refine lv_isub hx hb dX9_hour_22 ?_
        refine lv_istore_n (lv' := [(2, .int ((r_h9 (21 + v1_h9).toNatClampNeg) - 1)), (0, .ref q_r), (1, .int v1_h9)]) hx hb dX9_hour_23 rfl hl (by decide) rfl (fun ls hl => ?_)
        refine lv_aload_n hx hb dX9_hour_24 rfl (lv_at hl 1 rfl) ?_
        refine lv_bipush (v := 21) hx hb dX9_hour_25 (by decide) ?_
        refine lv_iload_n hx hb dX9_hour_27 rfl (lv_at hl 2 rfl) ?_
        refine lv_iadd hx hb dX9_hour_28 ?_
        refine lv_iload_n hx hb dX9_hour_29 rfl (lv_at hl 0 rfl) ?_
        refine lv_if_lt (tgt := 51) hx hb dX9_hour_30 (by decide) (fun c_3 => ?_) (fun c_3 => ?_)
        · have h := (if_pos c_3).symm.trans h
          refine lv_aload_n hx hb dX9_hour_51 rfl (lv_at hl 1 rfl) ?_
          refine lv_bipush (v := 21) hx hb dX9_hour_52 (by decide) ?_
          refine lv_iload_n hx hb dX9_hour_54 rfl (lv_at hl 2 rfl) ?_
          refine lv_iadd hx hb dX9_hour_55 ?_
          obtain ⟨b_4, h⟩ := chk_of h
          refine va_iald hx hb hK hP 0 0 rfl rfl (i := (21 + v1_h9)) b_4 dX9_hour_56 ?_
          obtain ⟨b_5, h⟩ := chk_of h
          refine va_iast hx hb hK hP hD hS 0 0 rfl rfl (i := (21 + v1_h9)) (x := (r_h9 (21 + v1_h9).toNatClampNeg)) b_5 dX9_hour_57 (fun H locs hP hD hS => ?_)
          have hP : va_P (dC, dI) vwCl ([(q_r, .inl (cI, 51, .inl (upd r_h9 (21 + v1_h9).toNatClampNeg (r_h9 (21 + v1_h9).toNatClampNeg))))]) H := hP
          have hD : va_D A ([(q_r, .inl (cI, 51, .inl (upd r_h9 (21 + v1_h9).toNatClampNeg (r_h9 (21 + v1_h9).toNatClampNeg))))]) := hD
          refine lv_iinc (v := (v1_h9 + 1)) (lv' := [(1, .int (v1_h9 + 1)), (2, .int ((r_h9 (21 + v1_h9).toNatClampNeg) - 1)), (0, .ref q_r)]) hx hb dX9_hour_58 hl (k := 2) rfl rfl (by decide) rfl (fun ls hl => ?_)
          refine lv_goto (tgt := 9) hx hb dX9_hour_61 (by decide) ?_
          exact ih (v1_h9 + 1) (upd r_h9 (21 + v1_h9).toNatClampNeg (r_h9 (21 + v1_h9).toNatClampNeg)) _ _ _ hP hD hS (lv_sub hl [2, 0] rfl) h
        · have h := (if_neg c_3).symm.trans h
          refine lv_aload_n hx hb dX9_hour_33 rfl (lv_at hl 1 rfl) ?_
          refine lv_aload_n hx hb dX9_hour_34 rfl (lv_at hl 1 rfl) ?_
          refine lv_iload_n hx hb dX9_hour_35 rfl (lv_at hl 0 rfl) ?_
          refine lv_iconst (v := 0) hx hb dX9_hour_36 (by decide) ?_
          obtain ⟨r_6, hc_6, h⟩ := bd1_of h
          refine cl_rS (As := [.ref q_r, .int ((r_h9 (21 + v1_h9).toNatClampNeg) - 1), .int 0]) (rest := [.ref q_r, .int (21 + v1_h9), .ref q_r]) ⟨hx, hb, hml, hown, hts⟩ (m_X9_of l dC dI cI cZ q_r r_h9 ((r_h9 (21 + v1_h9).toNatClampNeg) - 1) 0 (r_6) hc_6) (va_cwS 3 hts gX9_hour_X9_of rfl rfl rfl ddX9_of ⟨Nat.le_of_ble_eq_true rfl, Nat.le_of_ble_eq_true rfl⟩) hK hP [0] rfl rfl rfl hl.1 (Nat.le_of_ble_eq_true rfl) ⟨Nat.zero_le _, Nat.zero_le _⟩ dX9_hour_37 ?_
          refine lv_iload_n hx hb dX9_hour_40 rfl (lv_at hl 2 rfl) ?_
          obtain ⟨r_7, hc_7, h⟩ := bd1_of h
          refine cl_rS (As := [.ref q_r, .int r_6, .int v1_h9]) (rest := [.int (21 + v1_h9), .ref q_r]) ⟨hx, hb, hml, hown, hts⟩ (m_X9_isLostBy l dC dI cI cZ q_r r_h9 r_6 v1_h9 (r_7) hc_7) (va_cwS 3 hts gX9_hour_X9_isLostBy rfl rfl rfl ddX9_isLostBy ⟨Nat.le_of_ble_eq_true rfl, Nat.le_of_ble_eq_true rfl⟩) hK hP [0] rfl rfl rfl hl.1 (Nat.le_of_ble_eq_true rfl) ⟨Nat.zero_le _, Nat.zero_le _⟩ dX9_hour_41 ?_
          refine lv_if_eq (tgt := 51) hx hb dX9_hour_44 (by decide) (fun c_8 => ?_) (fun c_8 => ?_)
          · have h := (if_pos c_8).symm.trans h
            refine lv_aload_n hx hb dX9_hour_51 rfl (lv_at hl 1 rfl) ?_
            refine lv_bipush (v := 21) hx hb dX9_hour_52 (by decide) ?_
            refine lv_iload_n hx hb dX9_hour_54 rfl (lv_at hl 2 rfl) ?_
            refine lv_iadd hx hb dX9_hour_55 ?_
            obtain ⟨b_9, h⟩ := chk_of h
            refine va_iald hx hb hK hP 0 0 rfl rfl (i := (21 + v1_h9)) b_9 dX9_hour_56 ?_
            obtain ⟨b_10, h⟩ := chk_of h
            refine va_iast hx hb hK hP hD hS 0 0 rfl rfl (i := (21 + v1_h9)) (x := (r_h9 (21 + v1_h9).toNatClampNeg)) b_10 dX9_hour_57 (fun H locs hP hD hS => ?_)
            have hP : va_P (dC, dI) vwCl ([(q_r, .inl (cI, 51, .inl (upd r_h9 (21 + v1_h9).toNatClampNeg (r_h9 (21 + v1_h9).toNatClampNeg))))]) H := hP
            have hD : va_D A ([(q_r, .inl (cI, 51, .inl (upd r_h9 (21 + v1_h9).toNatClampNeg (r_h9 (21 + v1_h9).toNatClampNeg))))]) := hD
            refine lv_iinc (v := (v1_h9 + 1)) (lv' := [(1, .int (v1_h9 + 1)), (2, .int ((r_h9 (21 + v1_h9).toNatClampNeg) - 1)), (0, .ref q_r)]) hx hb dX9_hour_58 hl (k := 2) rfl rfl (by decide) rfl (fun ls hl => ?_)
            refine lv_goto (tgt := 9) hx hb dX9_hour_61 (by decide) ?_
            exact ih (v1_h9 + 1) (upd r_h9 (21 + v1_h9).toNatClampNeg (r_h9 (21 + v1_h9).toNatClampNeg)) _ _ _ hP hD hS (lv_sub hl [2, 0] rfl) h
          · have h := (if_neg c_8).symm.trans h
            refine lv_iconst (v := 0) hx hb dX9_hour_47 (by decide) ?_
            refine lv_goto (tgt := 57) hx hb dX9_hour_48 (by decide) ?_
            obtain ⟨b_11, h⟩ := chk_of h
            refine va_iast hx hb hK hP hD hS 0 0 rfl rfl (i := (21 + v1_h9)) (x := 0) b_11 dX9_hour_57 (fun H locs hP hD hS => ?_)
            have hP : va_P (dC, dI) vwCl ([(q_r, .inl (cI, 51, .inl (upd r_h9 (21 + v1_h9).toNatClampNeg 0)))]) H := hP
            have hD : va_D A ([(q_r, .inl (cI, 51, .inl (upd r_h9 (21 + v1_h9).toNatClampNeg 0)))]) := hD
            refine lv_iinc (v := (v1_h9 + 1)) (lv' := [(1, .int (v1_h9 + 1)), (2, .int ((r_h9 (21 + v1_h9).toNatClampNeg) - 1)), (0, .ref q_r)]) hx hb dX9_hour_58 hl (k := 2) rfl rfl (by decide) rfl (fun ls hl => ?_)
            refine lv_goto (tgt := 9) hx hb dX9_hour_61 (by decide) ?_
            exact ih (v1_h9 + 1) (upd r_h9 (21 + v1_h9).toNatClampNeg 0) _ _ _ hP hD hS (lv_sub hl [2, 0] rfl) h
  exact KL9 FU 0 (upd r (5 : Int32).toNatClampNeg ((r (5 : Int32).toNatClampNeg) + 1)) _ _ _ hP hD hS (lv_sub hl [1, 0] rfl) h
def fX9_heldOf_L4 (r : (Nat → Int32)) : Nat → Int32 → Int32 → Option (Int32)
  | 0, _, _ => none
  | n + 1, v1_h4, v2_h4 => (if 15 ≤ v2_h4 then some (v1_h4) else chk (¬ ((21 + v2_h4) < 0 ∨ 51 ≤ (21 + v2_h4).toNatClampNeg)) ((if (r (21 + v2_h4).toNatClampNeg) ≤ 0 then ((fX9_heldOf_L4 r n) (v1_h4 ||| 0) (v2_h4 + 1)) else ((fX9_heldOf_L4 r n) (v1_h4 ||| (1 <<< (v2_h4 &&& 31))) (v2_h4 + 1)))))
def fX9_heldOf (r : (Nat → Int32)) : Option (Int32) :=
  (fX9_heldOf_L4 r FU 0 0)
abbrev rmX9_heldOf : Room := { frames := 0, cells := 0, slots := 0, locals := 0 }
theorem ddX9_heldOf : yX9_heldOf.cls ≠ "java/lang/invoke/MethodHandle" ∧ yX9_heldOf.cls ≠ "java/lang/invoke/VarHandle" ∧ (parseMethodDescriptor yX9_heldOf.desc).map (fun d => d.parameters.length) = some 1 := by decide +kernel
set_option maxHeartbeats 4000000 in
set_option maxRecDepth 100000 in
theorem m_X9_heldOf (l : Launch) (dC : Nat → ClassId) (dI : Nat → Nat → Nat) (cI cZ : ClassId) (q_r : Nat) (r : (Nat → Int32)) (res : Int32) (hf : fX9_heldOf r = some res) : Met l yX9_heldOf wsX9_heldOf rmX9_heldOf (rdPc (dC, dI) (tyZ cI cZ) ([(q_r, .inl (cI, 51, .inl r))]) [.ref q_r]) (rdQ res) 0 0 (fun _ => False) := by
  refine Met.ofW (cc := cX9_heldOf) (maxL := 3) (ret := (some .int)) (by decide) rfl ?_
  intro p e s m args below meth c s₁ B hml hv
  obtain ⟨rfl, hP, hK⟩ := hv
  have hx := B.exec
  have hb := B.bytes
  have hr := B.returns
  have hts := atoms_spec (ws := wsX9_heldOf) B.pre
  have hown : s.vm.findClass RX9 = some m.cls := findClass_of_methodNamed B.named
  have hlocks := B.notSynchronized
  have hl := lv_entry ([.ref q_r]) (n := 3) (Nat.le_of_ble_eq_true rfl)
  rw [lg_entry_eq]
  generalize (lg_sl ([.ref q_r]) ++ List.replicate (3 - (lg_sl ([.ref q_r])).length) Slot.unset).toArray = ls at hl ⊢
  have hl : lv_has ls 3 [(0, .ref q_r)] := hl
  obtain ⟨QQ, hQQ⟩ : ∃ Q, Q = MQ below (rdQ res) ([.ref q_r] : List Value).toArray s 0 0 (fun _ => False) := ⟨_, rfl⟩
  rw [← hQQ]
  have h := hf
  unfold fX9_heldOf at h
  refine lv_iconst (v := 0) hx hb dX9_heldOf_0 (by decide) ?_
  refine lv_istore_n (lv' := [(1, .int 0), (0, .ref q_r)]) hx hb dX9_heldOf_1 rfl hl (by decide) rfl (fun ls hl => ?_)
  refine lv_iconst (v := 0) hx hb dX9_heldOf_2 (by decide) ?_
  refine lv_istore_n (lv' := [(2, .int 0), (1, .int 0), (0, .ref q_r)]) hx hb dX9_heldOf_3 rfl hl (by decide) rfl (fun ls hl => ?_)
  have KL4 : ∀ (n : Nat) (v1_h4 : Int32) (v2_h4 : Int32) (ls : Array Slot), lv_has ls 3 [(0, .ref q_r), (1, .int v1_h4), (2, .int v2_h4)] → fX9_heldOf_L4 r n v1_h4 v2_h4 = some res → W p l e (headSpec wsX9_heldOf rmX9_heldOf).room s m ([.ref q_r] : List Value).toArray below meth c s.heap [] 0 0 QQ (F0 m 4 ls []) := by
    intro  n
    induction n with
    | zero => intro v1_h4 v2_h4 ls hl h; rw [fX9_heldOf_L4.eq_1] at h; cases h
    | succ n ih =>
      intro v1_h4 v2_h4 ls hl h
      rw [fX9_heldOf_L4.eq_2] at h
      refine lv_iload_n hx hb dX9_heldOf_4 rfl (lv_at hl 2 rfl) ?_
      refine lv_bipush (v := 15) hx hb dX9_heldOf_5 (by decide) ?_
      refine lv_icmp_ge (tgt := 35) hx hb dX9_heldOf_7 (by decide) (fun c_1 => ?_) (fun c_1 => ?_)
      · have h := (if_pos c_1).symm.trans h
        refine lv_iload_n hx hb dX9_heldOf_35 rfl (lv_at hl 1 rfl) ?_
        rw [hQQ]
        exact W.iret (v := v1_h4) hx hb hr (fun t ht hW => ⟨_, rfl, Option.some.inj h, ht⟩) (fun q hq => by cases hq) dX9_heldOf_36
      · have h := (if_neg c_1).symm.trans h
        refine lv_iload_n hx hb dX9_heldOf_10 rfl (lv_at hl 1 rfl) ?_
        refine lv_aload_n hx hb dX9_heldOf_11 rfl (lv_at hl 0 rfl) ?_
        refine lv_bipush (v := 21) hx hb dX9_heldOf_12 (by decide) ?_
        refine lv_iload_n hx hb dX9_heldOf_14 rfl (lv_at hl 2 rfl) ?_
        refine lv_iadd hx hb dX9_heldOf_15 ?_
        obtain ⟨b_2, h⟩ := chk_of h
        refine va_iald hx hb hK hP 0 0 rfl rfl (i := (21 + v2_h4)) b_2 dX9_heldOf_16 ?_
        refine lv_if_le (tgt := 26) hx hb dX9_heldOf_17 (by decide) (fun c_3 => ?_) (fun c_3 => ?_)
        · have h := (if_pos c_3).symm.trans h
          refine lv_iconst (v := 0) hx hb dX9_heldOf_26 (by decide) ?_
          refine lv_ior hx hb dX9_heldOf_27 ?_
          refine lv_istore_n (lv' := [(1, .int (v1_h4 ||| 0)), (0, .ref q_r), (2, .int v2_h4)]) hx hb dX9_heldOf_28 rfl hl (by decide) rfl (fun ls hl => ?_)
          refine lv_iinc (v := (v2_h4 + 1)) (lv' := [(2, .int (v2_h4 + 1)), (1, .int (v1_h4 ||| 0)), (0, .ref q_r)]) hx hb dX9_heldOf_29 hl (k := 2) rfl rfl (by decide) rfl (fun ls hl => ?_)
          refine lv_goto (tgt := 4) hx hb dX9_heldOf_32 (by decide) ?_
          exact ih (v1_h4 ||| 0) (v2_h4 + 1) _ (lv_sub hl [2, 1, 0] rfl) h
        · have h := (if_neg c_3).symm.trans h
          refine lv_iconst (v := 1) hx hb dX9_heldOf_20 (by decide) ?_
          refine lv_iload_n hx hb dX9_heldOf_21 rfl (lv_at hl 2 rfl) ?_
          refine lv_ishl hx hb dX9_heldOf_22 ?_
          refine lv_goto (tgt := 27) hx hb dX9_heldOf_23 (by decide) ?_
          refine lv_ior hx hb dX9_heldOf_27 ?_
          refine lv_istore_n (lv' := [(1, .int (v1_h4 ||| (1 <<< (v2_h4 &&& 31)))), (0, .ref q_r), (2, .int v2_h4)]) hx hb dX9_heldOf_28 rfl hl (by decide) rfl (fun ls hl => ?_)
          refine lv_iinc (v := (v2_h4 + 1)) (lv' := [(2, .int (v2_h4 + 1)), (1, .int (v1_h4 ||| (1 <<< (v2_h4 &&& 31)))), (0, .ref q_r)]) hx hb dX9_heldOf_29 hl (k := 2) rfl rfl (by decide) rfl (fun ls hl => ?_)
          refine lv_goto (tgt := 4) hx hb dX9_heldOf_32 (by decide) ?_
          exact ih (v1_h4 ||| (1 <<< (v2_h4 &&& 31))) (v2_h4 + 1) _ (lv_sub hl [2, 1, 0] rfl) h
  exact KL4 FU 0 0 _ (lv_sub hl [2, 1, 0] rfl) h
def fX9_heldBy_L4 (r : (Nat → Int32)) (v1 : Int32) : Nat → Int32 → Int32 → Option (Int32)
  | 0, _, _ => none
  | n + 1, v2_h4, v3_h4 => (if 15 ≤ v3_h4 then some (v2_h4) else chk (¬ ((21 + v3_h4) < 0 ∨ 51 ≤ (21 + v3_h4).toNatClampNeg)) ((if (r (21 + v3_h4).toNatClampNeg) = (v1 + 1) then ((fX9_heldBy_L4 r v1 n) (v2_h4 ||| (1 <<< (v3_h4 &&& 31))) (v3_h4 + 1)) else ((fX9_heldBy_L4 r v1 n) (v2_h4 ||| 0) (v3_h4 + 1)))))
def fX9_heldBy (r : (Nat → Int32)) (v1 : Int32) : Option (Int32) :=
  (fX9_heldBy_L4 r v1 FU 0 0)
abbrev rmX9_heldBy : Room := { frames := 0, cells := 0, slots := 0, locals := 0 }
theorem ddX9_heldBy : yX9_heldBy.cls ≠ "java/lang/invoke/MethodHandle" ∧ yX9_heldBy.cls ≠ "java/lang/invoke/VarHandle" ∧ (parseMethodDescriptor yX9_heldBy.desc).map (fun d => d.parameters.length) = some 2 := by decide +kernel
set_option maxHeartbeats 4000000 in
set_option maxRecDepth 100000 in
theorem m_X9_heldBy (l : Launch) (dC : Nat → ClassId) (dI : Nat → Nat → Nat) (cI cZ : ClassId) (q_r : Nat) (r : (Nat → Int32)) (v1 : Int32) (res : Int32) (hf : fX9_heldBy r v1 = some res) : Met l yX9_heldBy wsX9_heldBy rmX9_heldBy (rdPc (dC, dI) (tyZ cI cZ) ([(q_r, .inl (cI, 51, .inl r))]) [.ref q_r, .int v1]) (rdQ res) 0 0 (fun _ => False) := by
  refine Met.ofW (cc := cX9_heldBy) (maxL := 4) (ret := (some .int)) (by decide) rfl ?_
  intro p e s m args below meth c s₁ B hml hv
  obtain ⟨rfl, hP, hK⟩ := hv
  have hx := B.exec
  have hb := B.bytes
  have hr := B.returns
  have hts := atoms_spec (ws := wsX9_heldBy) B.pre
  have hown : s.vm.findClass RX9 = some m.cls := findClass_of_methodNamed B.named
  have hlocks := B.notSynchronized
  have hl := lv_entry ([.ref q_r, .int v1]) (n := 4) (Nat.le_of_ble_eq_true rfl)
  rw [lg_entry_eq]
  generalize (lg_sl ([.ref q_r, .int v1]) ++ List.replicate (4 - (lg_sl ([.ref q_r, .int v1])).length) Slot.unset).toArray = ls at hl ⊢
  have hl : lv_has ls 4 [(0, .ref q_r), (1, .int v1)] := hl
  obtain ⟨QQ, hQQ⟩ : ∃ Q, Q = MQ below (rdQ res) ([.ref q_r, .int v1] : List Value).toArray s 0 0 (fun _ => False) := ⟨_, rfl⟩
  rw [← hQQ]
  have h := hf
  unfold fX9_heldBy at h
  refine lv_iconst (v := 0) hx hb dX9_heldBy_0 (by decide) ?_
  refine lv_istore_n (lv' := [(2, .int 0), (0, .ref q_r), (1, .int v1)]) hx hb dX9_heldBy_1 rfl hl (by decide) rfl (fun ls hl => ?_)
  refine lv_iconst (v := 0) hx hb dX9_heldBy_2 (by decide) ?_
  refine lv_istore_n (lv' := [(3, .int 0), (2, .int 0), (0, .ref q_r), (1, .int v1)]) hx hb dX9_heldBy_3 rfl hl (by decide) rfl (fun ls hl => ?_)
  have KL4 : ∀ (n : Nat) (v2_h4 : Int32) (v3_h4 : Int32) (ls : Array Slot), lv_has ls 4 [(0, .ref q_r), (1, .int v1), (2, .int v2_h4), (3, .int v3_h4)] → fX9_heldBy_L4 r v1 n v2_h4 v3_h4 = some res → W p l e (headSpec wsX9_heldBy rmX9_heldBy).room s m ([.ref q_r, .int v1] : List Value).toArray below meth c s.heap [] 0 0 QQ (F0 m 4 ls []) := by
    intro  n
    induction n with
    | zero => intro v2_h4 v3_h4 ls hl h; rw [fX9_heldBy_L4.eq_1] at h; cases h
    | succ n ih =>
      intro v2_h4 v3_h4 ls hl h
      rw [fX9_heldBy_L4.eq_2] at h
      refine lv_iload_n hx hb dX9_heldBy_4 rfl (lv_at hl 3 rfl) ?_
      refine lv_bipush (v := 15) hx hb dX9_heldBy_5 (by decide) ?_
      refine lv_icmp_ge (tgt := 38) hx hb dX9_heldBy_7 (by decide) (fun c_1 => ?_) (fun c_1 => ?_)
      · have h := (if_pos c_1).symm.trans h
        refine lv_iload_n hx hb dX9_heldBy_38 rfl (lv_at hl 2 rfl) ?_
        rw [hQQ]
        exact W.iret (v := v2_h4) hx hb hr (fun t ht hW => ⟨_, rfl, Option.some.inj h, ht⟩) (fun q hq => by cases hq) dX9_heldBy_39
      · have h := (if_neg c_1).symm.trans h
        refine lv_iload_n hx hb dX9_heldBy_10 rfl (lv_at hl 2 rfl) ?_
        refine lv_aload_n hx hb dX9_heldBy_11 rfl (lv_at hl 0 rfl) ?_
        refine lv_bipush (v := 21) hx hb dX9_heldBy_12 (by decide) ?_
        refine lv_iload_n hx hb dX9_heldBy_14 rfl (lv_at hl 3 rfl) ?_
        refine lv_iadd hx hb dX9_heldBy_15 ?_
        obtain ⟨b_2, h⟩ := chk_of h
        refine va_iald hx hb hK hP 0 0 rfl rfl (i := (21 + v3_h4)) b_2 dX9_heldBy_16 ?_
        refine lv_iload_n hx hb dX9_heldBy_17 rfl (lv_at hl 1 rfl) ?_
        refine lv_iconst (v := 1) hx hb dX9_heldBy_18 (by decide) ?_
        refine lv_iadd hx hb dX9_heldBy_19 ?_
        refine lv_icmp_ne (tgt := 29) hx hb dX9_heldBy_20 (by decide) (fun c_3 => ?_) (fun c_3 => ?_)
        · have h := (if_neg c_3).symm.trans h
          refine lv_iconst (v := 0) hx hb dX9_heldBy_29 (by decide) ?_
          refine lv_ior hx hb dX9_heldBy_30 ?_
          refine lv_istore_n (lv' := [(2, .int (v2_h4 ||| 0)), (0, .ref q_r), (1, .int v1), (3, .int v3_h4)]) hx hb dX9_heldBy_31 rfl hl (by decide) rfl (fun ls hl => ?_)
          refine lv_iinc (v := (v3_h4 + 1)) (lv' := [(3, .int (v3_h4 + 1)), (2, .int (v2_h4 ||| 0)), (0, .ref q_r), (1, .int v1)]) hx hb dX9_heldBy_32 hl (k := 3) rfl rfl (by decide) rfl (fun ls hl => ?_)
          refine lv_goto (tgt := 4) hx hb dX9_heldBy_35 (by decide) ?_
          exact ih (v2_h4 ||| 0) (v3_h4 + 1) _ (lv_sub hl [2, 3, 1, 0] rfl) h
        · have h := (if_pos c_3).symm.trans h
          refine lv_iconst (v := 1) hx hb dX9_heldBy_23 (by decide) ?_
          refine lv_iload_n hx hb dX9_heldBy_24 rfl (lv_at hl 3 rfl) ?_
          refine lv_ishl hx hb dX9_heldBy_25 ?_
          refine lv_goto (tgt := 30) hx hb dX9_heldBy_26 (by decide) ?_
          refine lv_ior hx hb dX9_heldBy_30 ?_
          refine lv_istore_n (lv' := [(2, .int (v2_h4 ||| (1 <<< (v3_h4 &&& 31)))), (0, .ref q_r), (1, .int v1), (3, .int v3_h4)]) hx hb dX9_heldBy_31 rfl hl (by decide) rfl (fun ls hl => ?_)
          refine lv_iinc (v := (v3_h4 + 1)) (lv' := [(3, .int (v3_h4 + 1)), (2, .int (v2_h4 ||| (1 <<< (v3_h4 &&& 31)))), (0, .ref q_r), (1, .int v1)]) hx hb dX9_heldBy_32 hl (k := 3) rfl rfl (by decide) rfl (fun ls hl => ?_)
          refine lv_goto (tgt := 4) hx hb dX9_heldBy_35 (by decide) ?_
          exact ih (v2_h4 ||| (1 <<< (v3_h4 &&& 31))) (v3_h4 + 1) _ (lv_sub hl [2, 3, 1, 0] rfl) h
  exact KL4 FU 0 0 _ (lv_sub hl [2, 3, 1, 0] rfl) h
def fX9_mayBid (r : (Nat → Int32)) (v1 : Int32) (v2 : Int32) : Option (Int32) :=
  chk (¬ ((21 + v2) < 0 ∨ 51 ≤ (21 + v2).toNatClampNeg)) ((if (r (21 + v2).toNatClampNeg) = 0 then bd1 (fX9_mayHave r v1 v2) (fun r_3 => (if r_3 = 0 then some (0) else some (1))) else some (0)))
abbrev rmX9_mayBid : Room := { frames := 3, cells := 0, slots := 0, locals := 65 }
theorem ddX9_mayBid : yX9_mayBid.cls ≠ "java/lang/invoke/MethodHandle" ∧ yX9_mayBid.cls ≠ "java/lang/invoke/VarHandle" ∧ (parseMethodDescriptor yX9_mayBid.desc).map (fun d => d.parameters.length) = some 3 := by decide +kernel
set_option maxHeartbeats 4000000 in
set_option maxRecDepth 100000 in
theorem m_X9_mayBid (l : Launch) (dC : Nat → ClassId) (dI : Nat → Nat → Nat) (cI cZ : ClassId) (q_r : Nat) (r : (Nat → Int32)) (v1 : Int32) (v2 : Int32) (res : Int32) (hf : fX9_mayBid r v1 v2 = some res) : Met l yX9_mayBid wsX9_mayBid rmX9_mayBid (rdPc (dC, dI) (tyZ cI cZ) ([(q_r, .inl (cI, 51, .inl r))]) [.ref q_r, .int v1, .int v2]) (rdQ res) 0 0 (fun _ => False) := by
  refine Met.ofW (cc := cX9_mayBid) (maxL := 3) (ret := (some .boolean)) (by decide) rfl ?_
  intro p e s m args below meth c s₁ B hml hv
  obtain ⟨rfl, hP, hK⟩ := hv
  have hx := B.exec
  have hb := B.bytes
  have hr := B.returns
  have hts := atoms_spec (ws := wsX9_mayBid) B.pre
  have hown : s.vm.findClass RX9 = some m.cls := findClass_of_methodNamed B.named
  have hlocks := B.notSynchronized
  have hl := lv_entry ([.ref q_r, .int v1, .int v2]) (n := 3) (Nat.le_of_ble_eq_true rfl)
  rw [lg_entry_eq]
  generalize (lg_sl ([.ref q_r, .int v1, .int v2]) ++ List.replicate (3 - (lg_sl ([.ref q_r, .int v1, .int v2])).length) Slot.unset).toArray = ls at hl ⊢
  have hl : lv_has ls 3 [(0, .ref q_r), (1, .int v1), (2, .int v2)] := hl
  obtain ⟨QQ, hQQ⟩ : ∃ Q, Q = MQ below (rdQ res) ([.ref q_r, .int v1, .int v2] : List Value).toArray s 0 0 (fun _ => False) := ⟨_, rfl⟩
  rw [← hQQ]
  have h := hf
  unfold fX9_mayBid at h
  refine lv_aload_n hx hb dX9_mayBid_0 rfl (lv_at hl 0 rfl) ?_
  refine lv_bipush (v := 21) hx hb dX9_mayBid_1 (by decide) ?_
  refine lv_iload_n hx hb dX9_mayBid_3 rfl (lv_at hl 2 rfl) ?_
  refine lv_iadd hx hb dX9_mayBid_4 ?_
  obtain ⟨b_1, h⟩ := chk_of h
  refine va_iald hx hb hK hP 0 0 rfl rfl (i := (21 + v2)) b_1 dX9_mayBid_5 ?_
  refine lv_if_ne (tgt := 22) hx hb dX9_mayBid_6 (by decide) (fun c_2 => ?_) (fun c_2 => ?_)
  · have h := (if_neg c_2).symm.trans h
    refine lv_iconst (v := 0) hx hb dX9_mayBid_22 (by decide) ?_
    rw [hQQ]
    exact W.zret (v := 0) (ty := .boolean) hx hb hr rfl (fun t ht hW => ⟨_, rfl, Option.some.inj h, ht⟩) (fun q hq => by cases hq) dX9_mayBid_23
  · have h := (if_pos c_2).symm.trans h
    refine lv_aload_n hx hb dX9_mayBid_9 rfl (lv_at hl 0 rfl) ?_
    refine lv_iload_n hx hb dX9_mayBid_10 rfl (lv_at hl 1 rfl) ?_
    refine lv_iload_n hx hb dX9_mayBid_11 rfl (lv_at hl 2 rfl) ?_
    obtain ⟨r_3, hc_3, h⟩ := bd1_of h
    refine cl_rS (As := [.ref q_r, .int v1, .int v2]) (rest := []) ⟨hx, hb, hml, hown, hts⟩ (m_X9_mayHave l dC dI cI cZ q_r r v1 v2 (r_3) hc_3) (va_cwS 3 hts gX9_mayBid_X9_mayHave rfl rfl rfl ddX9_mayHave ⟨Nat.le_of_ble_eq_true rfl, Nat.le_of_ble_eq_true rfl⟩) hK hP [0] rfl rfl rfl hl.1 (Nat.le_of_ble_eq_true rfl) ⟨Nat.zero_le _, Nat.zero_le _⟩ dX9_mayBid_12 ?_
    refine lv_if_eq (tgt := 22) hx hb dX9_mayBid_15 (by decide) (fun c_4 => ?_) (fun c_4 => ?_)
    · have h := (if_pos c_4).symm.trans h
      refine lv_iconst (v := 0) hx hb dX9_mayBid_22 (by decide) ?_
      rw [hQQ]
      exact W.zret (v := 0) (ty := .boolean) hx hb hr rfl (fun t ht hW => ⟨_, rfl, Option.some.inj h, ht⟩) (fun q hq => by cases hq) dX9_mayBid_23
    · have h := (if_neg c_4).symm.trans h
      refine lv_iconst (v := 1) hx hb dX9_mayBid_18 (by decide) ?_
      refine lv_goto (tgt := 23) hx hb dX9_mayBid_19 (by decide) ?_
      rw [hQQ]
      exact W.zret (v := 1) (ty := .boolean) hx hb hr rfl (fun t ht hW => ⟨_, rfl, Option.some.inj h, ht⟩) (fun q hq => by cases hq) dX9_mayBid_23
def fX9_buys (r : (Nat → Int32)) (v1 : Int32) (v2 : Int32) : Option ((Nat → Int32)) :=
  chk (¬ (((36 + (3 * v1)) + 1) < 0 ∨ 51 ≤ ((36 + (3 * v1)) + 1).toNatClampNeg)) (bd1 (fX9_of r v1 0) (fun r_2 => bd1 (fX9_priceBy r r_2 v2) (fun r_3 => chk (¬ (((36 + (3 * v1)) + 1) < 0 ∨ 51 ≤ ((36 + (3 * v1)) + 1).toNatClampNeg)) (chk (¬ ((21 + v2) < 0 ∨ 51 ≤ (21 + v2).toNatClampNeg)) (some ((upd (upd r ((36 + (3 * v1)) + 1).toNatClampNeg ((r ((36 + (3 * v1)) + 1).toNatClampNeg) - r_3)) (21 + v2).toNatClampNeg (v1 + 1))))))))
abbrev rmX9_buys : Room := { frames := 1, cells := 0, slots := 0, locals := 23 }
theorem ddX9_buys : yX9_buys.cls ≠ "java/lang/invoke/MethodHandle" ∧ yX9_buys.cls ≠ "java/lang/invoke/VarHandle" ∧ (parseMethodDescriptor yX9_buys.desc).map (fun d => d.parameters.length) = some 3 := by decide +kernel
set_option maxHeartbeats 4000000 in
set_option maxRecDepth 100000 in
theorem m_X9_buys (l : Launch) (dC : Nat → ClassId) (dI : Nat → Nat → Nat) (cI cZ : ClassId) (q_r : Nat) (r : (Nat → Int32)) (v1 : Int32) (v2 : Int32) (sz : Nat) (res : (Nat → Int32)) (hf : fX9_buys r v1 v2 = some res) : Met l yX9_buys wsX9_buys rmX9_buys (mtPc (dC, dI) (tyZ cI cZ) ([(q_r, .inl (cI, 51, .inl r))]) [.ref q_r, .int v1, .int v2] sz) (mtQv (dC, dI) (tyZ cI cZ) ([(q_r, .inl (cI, 51, .inl r))]) ([(q_r, .inl (cI, 51, .inl res))]) sz) 0 0 (va_A ([(q_r, .inl (cI, 51, .inl r))]) sz) := by
  refine Met.ofW (cc := cX9_buys) (maxL := 3) (ret := none) (by decide) rfl ?_
  intro p e s m args below meth c s₁ B hml hv
  obtain ⟨rfl, hsz, hP, hK, hD0⟩ := hv
  have hx := B.exec
  have hb := B.bytes
  have hr := B.returns
  have hts := atoms_spec (ws := wsX9_buys) B.pre
  have hown : s.vm.findClass RX9 = some m.cls := findClass_of_methodNamed B.named
  have hlocks := B.notSynchronized
  subst hsz
  have hD := hD0.self (sz := s.heap.size)
  obtain ⟨A, hAe⟩ : ∃ A, A = va_A ([(q_r, .inl (cI, 51, .inl r))]) s.heap.size := ⟨_, rfl⟩
  rw [← hAe] at hD
  have hA : ∀ q : Nat, s.heap.size ≤ q → A q := fun q h => by rw [hAe]; exact Or.inr h
  have hS : va_S A s.heap s.heap [] := va_S.rf
  have hl := lv_entry ([.ref q_r, .int v1, .int v2]) (n := 3) (Nat.le_of_ble_eq_true rfl)
  rw [lg_entry_eq]
  generalize (lg_sl ([.ref q_r, .int v1, .int v2]) ++ List.replicate (3 - (lg_sl ([.ref q_r, .int v1, .int v2])).length) Slot.unset).toArray = ls at hl ⊢
  have hl : lv_has ls 3 [(0, .ref q_r), (1, .int v1), (2, .int v2)] := hl
  obtain ⟨QQ, hQQ⟩ : ∃ Q, Q = MQ below (mtQv (dC, dI) (tyZ cI cZ) ([(q_r, .inl (cI, 51, .inl r))]) ([(q_r, .inl (cI, 51, .inl res))]) s.heap.size) ([.ref q_r, .int v1, .int v2] : List Value).toArray s 0 0 (va_A ([(q_r, .inl (cI, 51, .inl r))]) s.heap.size) := ⟨_, rfl⟩
  rw [← hQQ]
  have h := hf
  unfold fX9_buys at h
  refine lv_aload_n hx hb dX9_buys_0 rfl (lv_at hl 0 rfl) ?_
  refine lv_bipush (v := 36) hx hb dX9_buys_1 (by decide) ?_
  refine lv_iconst (v := 3) hx hb dX9_buys_3 (by decide) ?_
  refine lv_iload_n hx hb dX9_buys_4 rfl (lv_at hl 1 rfl) ?_
  refine lv_imul hx hb dX9_buys_5 ?_
  refine lv_iadd hx hb dX9_buys_6 ?_
  refine lv_iconst (v := 1) hx hb dX9_buys_7 (by decide) ?_
  refine lv_iadd hx hb dX9_buys_8 ?_
  refine lv_dup2_11 hx hb dX9_buys_9 rfl rfl ?_
  obtain ⟨b_1, h⟩ := chk_of h
  refine va_iald hx hb hK hP 0 0 rfl rfl (i := ((36 + (3 * v1)) + 1)) b_1 dX9_buys_10 ?_
  refine lv_aload_n hx hb dX9_buys_11 rfl (lv_at hl 0 rfl) ?_
  refine lv_aload_n hx hb dX9_buys_12 rfl (lv_at hl 0 rfl) ?_
  refine lv_iload_n hx hb dX9_buys_13 rfl (lv_at hl 1 rfl) ?_
  refine lv_iconst (v := 0) hx hb dX9_buys_14 (by decide) ?_
  obtain ⟨r_2, hc_2, h⟩ := bd1_of h
  refine cl_rS (As := [.ref q_r, .int v1, .int 0]) (rest := [.ref q_r, .int (r ((36 + (3 * v1)) + 1).toNatClampNeg), .int ((36 + (3 * v1)) + 1), .ref q_r]) ⟨hx, hb, hml, hown, hts⟩ (m_X9_of l dC dI cI cZ q_r r v1 0 (r_2) hc_2) (va_cwS 3 hts gX9_buys_X9_of rfl rfl rfl ddX9_of ⟨Nat.le_of_ble_eq_true rfl, Nat.le_of_ble_eq_true rfl⟩) hK hP [0] rfl rfl rfl hl.1 (Nat.le_of_ble_eq_true rfl) ⟨Nat.zero_le _, Nat.zero_le _⟩ dX9_buys_15 ?_
  refine lv_iload_n hx hb dX9_buys_18 rfl (lv_at hl 2 rfl) ?_
  obtain ⟨r_3, hc_3, h⟩ := bd1_of h
  refine cl_rS (As := [.ref q_r, .int r_2, .int v2]) (rest := [.int (r ((36 + (3 * v1)) + 1).toNatClampNeg), .int ((36 + (3 * v1)) + 1), .ref q_r]) ⟨hx, hb, hml, hown, hts⟩ (m_X9_priceBy l dC dI cI cZ q_r r r_2 v2 (r_3) hc_3) (va_cwS 3 hts gX9_buys_X9_priceBy rfl rfl rfl ddX9_priceBy ⟨Nat.le_of_ble_eq_true rfl, Nat.le_of_ble_eq_true rfl⟩) hK hP [0] rfl rfl rfl hl.1 (Nat.le_of_ble_eq_true rfl) ⟨Nat.zero_le _, Nat.zero_le _⟩ dX9_buys_19 ?_
  refine lv_isub hx hb dX9_buys_22 ?_
  obtain ⟨b_4, h⟩ := chk_of h
  refine va_iast hx hb hK hP hD hS 0 0 rfl rfl (i := ((36 + (3 * v1)) + 1)) (x := ((r ((36 + (3 * v1)) + 1).toNatClampNeg) - r_3)) b_4 dX9_buys_23 (fun H locs hP hD hS => ?_)
  have hP : va_P (dC, dI) vwCl ([(q_r, .inl (cI, 51, .inl (upd r ((36 + (3 * v1)) + 1).toNatClampNeg ((r ((36 + (3 * v1)) + 1).toNatClampNeg) - r_3))))]) H := hP
  have hD : va_D A ([(q_r, .inl (cI, 51, .inl (upd r ((36 + (3 * v1)) + 1).toNatClampNeg ((r ((36 + (3 * v1)) + 1).toNatClampNeg) - r_3))))]) := hD
  refine lv_aload_n hx hb dX9_buys_24 rfl (lv_at hl 0 rfl) ?_
  refine lv_bipush (v := 21) hx hb dX9_buys_25 (by decide) ?_
  refine lv_iload_n hx hb dX9_buys_27 rfl (lv_at hl 2 rfl) ?_
  refine lv_iadd hx hb dX9_buys_28 ?_
  refine lv_iload_n hx hb dX9_buys_29 rfl (lv_at hl 1 rfl) ?_
  refine lv_iconst (v := 1) hx hb dX9_buys_30 (by decide) ?_
  refine lv_iadd hx hb dX9_buys_31 ?_
  obtain ⟨b_5, h⟩ := chk_of h
  refine va_iast hx hb hK hP hD hS 0 0 rfl rfl (i := (21 + v2)) (x := (v1 + 1)) b_5 dX9_buys_32 (fun H locs hP hD hS => ?_)
  have hP : va_P (dC, dI) vwCl ([(q_r, .inl (cI, 51, .inl (upd (upd r ((36 + (3 * v1)) + 1).toNatClampNeg ((r ((36 + (3 * v1)) + 1).toNatClampNeg) - r_3)) (21 + v2).toNatClampNeg (v1 + 1))))]) H := hP
  have hD : va_D A ([(q_r, .inl (cI, 51, .inl (upd (upd r ((36 + (3 * v1)) + 1).toNatClampNeg ((r ((36 + (3 * v1)) + 1).toNatClampNeg) - r_3)) (21 + v2).toNatClampNeg (v1 + 1))))]) := hD
  have h := Option.some.inj h
  subst h
  rw [hQQ]
  subst hAe
  exact W.vret hx hb hr (fun t ht hW => ⟨⟨(), rfl, trivial, by rw [ht]; exact hP, va_K.moved hW.alike hK, hD⟩, hS.F ht⟩) hS.2.2 dX9_buys_33
def fX9_layThen_L2 (s_isle : (Nat → Int32)) : Nat → Int32 → (Nat → Int32) → Option ((Nat → Int32))
  | 0, _, _ => none
  | n + 1, v1_h2, s_then_h2 => (if 51 ≤ v1_h2 then some (s_then_h2) else chk (¬ (v1_h2 < 0 ∨ 51 ≤ v1_h2.toNatClampNeg)) (chk (¬ (v1_h2 < 0 ∨ 51 ≤ v1_h2.toNatClampNeg)) (((fX9_layThen_L2 s_isle n) (v1_h2 + 1) (upd s_then_h2 v1_h2.toNatClampNeg (s_isle v1_h2.toNatClampNeg))))))
def fX9_layThen (s_isle : (Nat → Int32)) (s_then : (Nat → Int32)) : Option ((Nat → Int32)) :=
  (fX9_layThen_L2 s_isle FU 0 s_then)
abbrev rmX9_layThen : Room := { frames := 0, cells := 0, slots := 0, locals := 0 }
theorem ddX9_layThen : yX9_layThen.cls ≠ "java/lang/invoke/MethodHandle" ∧ yX9_layThen.cls ≠ "java/lang/invoke/VarHandle" ∧ (parseMethodDescriptor yX9_layThen.desc).map (fun d => d.parameters.length) = some 0 := by decide +kernel
set_option maxHeartbeats 4000000 in
set_option maxRecDepth 100000 in
theorem m_X9_layThen (l : Launch) (dC : Nat → ClassId) (dI : Nat → Nat → Nat) (cI cZ : ClassId) (q_s q_s_lane q_s_many q_s_item q_s_isle q_s_fresh q_s_then q_s_was q_s_tape q_s_isKept q_s_kept q_s_trace : Nat) (s_thrown : Int32) (s_status : Int32) (s_lane : (Nat → Int32)) (s_many : (Nat → Int32)) (s_item : (Nat → Int32)) (s_isle : (Nat → Int32)) (s_fresh : (Nat → Int32)) (s_then : (Nat → Int32)) (s_was : (Nat → Int32)) (s_acts : Int32) (s_tape : (Nat → Int32)) (s_taped : Int32) (s_cursor : Int32) (s_start : Int32) (s_token : Int32) (s_value : Int32) (s_fault : Int32) (s_faultAt : Int32) (s_latest : Int32) (s_isKept : (Nat → Int32)) (s_kept : (Nat → Int32)) (s_trace : (Nat → Int32)) (s_traced : Int32) (sz : Nat) (res : (Nat → Int32)) (hf : fX9_layThen s_isle s_then = some res) : Met l yX9_layThen wsX9_layThen rmX9_layThen (mtPc (dC, dI) (tyZ cI cZ) ((W_M cI cZ q_s q_s_lane q_s_many q_s_item q_s_isle q_s_fresh q_s_then q_s_was q_s_tape q_s_isKept q_s_kept q_s_trace s_thrown s_status s_lane s_many s_item s_isle s_fresh s_then s_was s_acts s_tape s_taped s_cursor s_start s_token s_value s_fault s_faultAt s_latest s_isKept s_kept s_trace s_traced)) [.ref q_s] sz) (mtQv (dC, dI) (tyZ cI cZ) ((W_M cI cZ q_s q_s_lane q_s_many q_s_item q_s_isle q_s_fresh q_s_then q_s_was q_s_tape q_s_isKept q_s_kept q_s_trace s_thrown s_status s_lane s_many s_item s_isle s_fresh s_then s_was s_acts s_tape s_taped s_cursor s_start s_token s_value s_fault s_faultAt s_latest s_isKept s_kept s_trace s_traced)) ((W_M cI cZ q_s q_s_lane q_s_many q_s_item q_s_isle q_s_fresh q_s_then q_s_was q_s_tape q_s_isKept q_s_kept q_s_trace s_thrown s_status s_lane s_many s_item s_isle s_fresh res s_was s_acts s_tape s_taped s_cursor s_start s_token s_value s_fault s_faultAt s_latest s_isKept s_kept s_trace s_traced)) sz) 0 0 (va_A ((W_M cI cZ q_s q_s_lane q_s_many q_s_item q_s_isle q_s_fresh q_s_then q_s_was q_s_tape q_s_isKept q_s_kept q_s_trace s_thrown s_status s_lane s_many s_item s_isle s_fresh s_then s_was s_acts s_tape s_taped s_cursor s_start s_token s_value s_fault s_faultAt s_latest s_isKept s_kept s_trace s_traced)) sz) := by
  refine Met.ofW (cc := cX9_layThen) (maxL := 2) (ret := none) (by decide) rfl ?_
  intro p e s m args below meth c s₁ B hml hv
  obtain ⟨rfl, hsz, hP, hK, hD0⟩ := hv
  have hx := B.exec
  have hb := B.bytes
  have hr := B.returns
  have hts := atoms_spec (ws := wsX9_layThen) B.pre
  have hown : s.vm.findClass RX9 = some m.cls := findClass_of_methodNamed B.named
  have hlocks := B.notSynchronized
  subst hsz
  have hD := hD0.self (sz := s.heap.size)
  obtain ⟨A, hAe⟩ : ∃ A, A = va_A ((W_M cI cZ q_s q_s_lane q_s_many q_s_item q_s_isle q_s_fresh q_s_then q_s_was q_s_tape q_s_isKept q_s_kept q_s_trace s_thrown s_status s_lane s_many s_item s_isle s_fresh s_then s_was s_acts s_tape s_taped s_cursor s_start s_token s_value s_fault s_faultAt s_latest s_isKept s_kept s_trace s_traced)) s.heap.size := ⟨_, rfl⟩
  rw [← hAe] at hD
  have hA : ∀ q : Nat, s.heap.size ≤ q → A q := fun q h => by rw [hAe]; exact Or.inr h
  have hS : va_S A s.heap s.heap [] := va_S.rf
  have hl := lv_entry ([.ref q_s]) (n := 2) (Nat.le_of_ble_eq_true rfl)
  rw [lg_entry_eq]
  generalize (lg_sl ([.ref q_s]) ++ List.replicate (2 - (lg_sl ([.ref q_s])).length) Slot.unset).toArray = ls at hl ⊢
  have hl : lv_has ls 2 [(0, .ref q_s)] := hl
  obtain ⟨QQ, hQQ⟩ : ∃ Q, Q = MQ below (mtQv (dC, dI) (tyZ cI cZ) ((W_M cI cZ q_s q_s_lane q_s_many q_s_item q_s_isle q_s_fresh q_s_then q_s_was q_s_tape q_s_isKept q_s_kept q_s_trace s_thrown s_status s_lane s_many s_item s_isle s_fresh s_then s_was s_acts s_tape s_taped s_cursor s_start s_token s_value s_fault s_faultAt s_latest s_isKept s_kept s_trace s_traced)) ((W_M cI cZ q_s q_s_lane q_s_many q_s_item q_s_isle q_s_fresh q_s_then q_s_was q_s_tape q_s_isKept q_s_kept q_s_trace s_thrown s_status s_lane s_many s_item s_isle s_fresh res s_was s_acts s_tape s_taped s_cursor s_start s_token s_value s_fault s_faultAt s_latest s_isKept s_kept s_trace s_traced)) s.heap.size) ([.ref q_s] : List Value).toArray s 0 0 (va_A ((W_M cI cZ q_s q_s_lane q_s_many q_s_item q_s_isle q_s_fresh q_s_then q_s_was q_s_tape q_s_isKept q_s_kept q_s_trace s_thrown s_status s_lane s_many s_item s_isle s_fresh s_then s_was s_acts s_tape s_taped s_cursor s_start s_token s_value s_fault s_faultAt s_latest s_isKept s_kept s_trace s_traced)) s.heap.size) := ⟨_, rfl⟩
  rw [← hQQ]
  have w_0 := hts (Cond.fieldLink RX9 25 "TideInchesModel" "then" "[I") (List.mem_of_getElem? (i := 1) rfl)
  have w_1 := (fun w hw => List.mem_cons_of_mem _ (List.mem_append_right _ hw) : ∀ w ∈ wsX90, w ∈ wsX9_layThen)
  have w_2 := hts (Cond.fieldLink RX9 19 "TideInchesModel" "isle" "[I") (List.mem_of_getElem? (i := 2) rfl)
  have h := hf
  unfold fX9_layThen at h
  refine lv_iconst (v := 0) hx hb dX9_layThen_0 (by decide) ?_
  refine lv_istore_n (lv' := [(1, .int 0), (0, .ref q_s)]) hx hb dX9_layThen_1 rfl hl (by decide) rfl (fun ls hl => ?_)
  have KL2 : ∀ (n : Nat) (v1_h2 : Int32) (s_then_h2 : (Nat → Int32)) (H : Heap) (locs : List Loc) (ls : Array Slot), va_P (dC, dI) vwCl ((W_M cI cZ q_s q_s_lane q_s_many q_s_item q_s_isle q_s_fresh q_s_then q_s_was q_s_tape q_s_isKept q_s_kept q_s_trace s_thrown s_status s_lane s_many s_item s_isle s_fresh s_then_h2 s_was s_acts s_tape s_taped s_cursor s_start s_token s_value s_fault s_faultAt s_latest s_isKept s_kept s_trace s_traced)) H → va_D A ((W_M cI cZ q_s q_s_lane q_s_many q_s_item q_s_isle q_s_fresh q_s_then q_s_was q_s_tape q_s_isKept q_s_kept q_s_trace s_thrown s_status s_lane s_many s_item s_isle s_fresh s_then_h2 s_was s_acts s_tape s_taped s_cursor s_start s_token s_value s_fault s_faultAt s_latest s_isKept s_kept s_trace s_traced)) → va_S A s.heap H locs → lv_has ls 2 [(0, .ref q_s), (1, .int v1_h2)] → fX9_layThen_L2 s_isle n v1_h2 s_then_h2 = some res → W p l e (headSpec wsX9_layThen rmX9_layThen).room s m ([.ref q_s] : List Value).toArray below meth c H locs 0 0 QQ (F0 m 2 ls []) := by
    intro  n
    induction n with
    | zero => intro v1_h2 s_then_h2 H locs ls hP hD hS hl h; rw [fX9_layThen_L2.eq_1] at h; cases h
    | succ n ih =>
      intro v1_h2 s_then_h2 H locs ls hP hD hS hl h
      rw [fX9_layThen_L2.eq_2] at h
      refine lv_iload_n hx hb dX9_layThen_2 rfl (lv_at hl 1 rfl) ?_
      refine lv_bipush (v := 51) hx hb dX9_layThen_3 (by decide) ?_
      refine lv_icmp_ge (tgt := 26) hx hb dX9_layThen_5 (by decide) (fun c_1 => ?_) (fun c_1 => ?_)
      · have h := (if_pos c_1).symm.trans h
        have h := Option.some.inj h
        subst h
        rw [hQQ]
        subst hAe
        exact W.vret hx hb hr (fun t ht hW => ⟨⟨(), rfl, trivial, by rw [ht]; exact hP, va_K.moved hW.alike hK, hD⟩, hS.F ht⟩) hS.2.2 dX9_layThen_26
      · have h := (if_neg c_1).symm.trans h
        refine lv_aload_n hx hb dX9_layThen_8 rfl (lv_at hl 0 rfl) ?_
        refine va_get (D := (dC, dI)) (ci := 7) (v := .ref q_s_then) (C := RX9) (T := TX9) (N := 23) hx hb hts w_1 hown hK hP 0 rfl rfl 7 (by decide) w_0 (fun _ h9 => h9) rfl dX9_layThen_9 ?_
        refine lv_iload_n hx hb dX9_layThen_12 rfl (lv_at hl 1 rfl) ?_
        refine lv_aload_n hx hb dX9_layThen_13 rfl (lv_at hl 0 rfl) ?_
        refine va_get (D := (dC, dI)) (ci := 7) (v := .ref q_s_isle) (C := RX9) (T := TX9) (N := 23) hx hb hts w_1 hown hK hP 0 rfl rfl 5 (by decide) w_2 (fun _ h9 => h9) rfl dX9_layThen_14 ?_
        refine lv_iload_n hx hb dX9_layThen_17 rfl (lv_at hl 1 rfl) ?_
        obtain ⟨b_2, h⟩ := chk_of h
        refine va_iald hx hb hK hP 4 0 rfl rfl (i := v1_h2) b_2 dX9_layThen_18 ?_
        obtain ⟨b_3, h⟩ := chk_of h
        refine va_iast hx hb hK hP hD hS 6 0 rfl rfl (i := v1_h2) (x := (s_isle v1_h2.toNatClampNeg)) b_3 dX9_layThen_19 (fun H locs hP hD hS => ?_)
        have hP : va_P (dC, dI) vwCl ((W_M cI cZ q_s q_s_lane q_s_many q_s_item q_s_isle q_s_fresh q_s_then q_s_was q_s_tape q_s_isKept q_s_kept q_s_trace s_thrown s_status s_lane s_many s_item s_isle s_fresh (upd s_then_h2 v1_h2.toNatClampNeg (s_isle v1_h2.toNatClampNeg)) s_was s_acts s_tape s_taped s_cursor s_start s_token s_value s_fault s_faultAt s_latest s_isKept s_kept s_trace s_traced)) H := hP
        have hD : va_D A ((W_M cI cZ q_s q_s_lane q_s_many q_s_item q_s_isle q_s_fresh q_s_then q_s_was q_s_tape q_s_isKept q_s_kept q_s_trace s_thrown s_status s_lane s_many s_item s_isle s_fresh (upd s_then_h2 v1_h2.toNatClampNeg (s_isle v1_h2.toNatClampNeg)) s_was s_acts s_tape s_taped s_cursor s_start s_token s_value s_fault s_faultAt s_latest s_isKept s_kept s_trace s_traced)) := hD
        refine lv_iinc (v := (v1_h2 + 1)) (lv' := [(1, .int (v1_h2 + 1)), (0, .ref q_s)]) hx hb dX9_layThen_20 hl (k := 1) rfl rfl (by decide) rfl (fun ls hl => ?_)
        refine lv_goto (tgt := 2) hx hb dX9_layThen_23 (by decide) ?_
        exact ih (v1_h2 + 1) (upd s_then_h2 v1_h2.toNatClampNeg (s_isle v1_h2.toNatClampNeg)) _ _ _ hP hD hS (lv_sub hl [1, 0] rfl) h
  exact KL2 FU 0 s_then _ _ _ hP hD hS (lv_sub hl [1, 0] rfl) h
def fX9_beside_J71 (r4 : Int32 → Int32 → Option (Int32)) (v1_h4 : Int32) (v2_h4 : Int32) (w0_j35 : Int32) (w0_j54 : Int32) (w0_j71 : Int32) : Option (Int32) :=
  (if 10 ≤ v2_h4 then (r4 ((((v1_h4 ||| w0_j35) ||| w0_j54) ||| w0_j71) ||| 0) (v2_h4 + 1)) else (r4 ((((v1_h4 ||| w0_j35) ||| w0_j54) ||| w0_j71) ||| (1 <<< ((v2_h4 + 5) &&& 31))) (v2_h4 + 1)))
def fX9_beside_J54 (r4 : Int32 → Int32 → Option (Int32)) (v1_h4 : Int32) (v2_h4 : Int32) (w0_j35 : Int32) (w0_j54 : Int32) : Option (Int32) :=
  (if v2_h4 ≤ 4 then (fX9_beside_J71 r4 v1_h4 v2_h4 w0_j35 w0_j54 0) else (fX9_beside_J71 r4 v1_h4 v2_h4 w0_j35 w0_j54 (1 <<< ((v2_h4 - 5) &&& 31))))
def fX9_beside_J35 (r4 : Int32 → Int32 → Option (Int32)) (v1_h4 : Int32) (v2_h4 : Int32) (w0_j35 : Int32) : Option (Int32) :=
  (if 4 ≤ (v2_h4 - v2_h4 / 5 * 5) then (fX9_beside_J54 r4 v1_h4 v2_h4 w0_j35 0) else (fX9_beside_J54 r4 v1_h4 v2_h4 w0_j35 (1 <<< ((v2_h4 + 1) &&& 31))))
def fX9_beside_L4 (v0 : Int32) : Nat → Int32 → Int32 → Option (Int32)
  | 0, _, _ => none
  | n + 1, v1_h4, v2_h4 => (if 15 ≤ v2_h4 then some (v1_h4) else (if ((v0 >>> (v2_h4 &&& 31)) &&& 1) = 1 then (if (v2_h4 - v2_h4 / 5 * 5) ≤ 0 then (fX9_beside_J35 (fX9_beside_L4 v0 n) v1_h4 v2_h4 0) else (fX9_beside_J35 (fX9_beside_L4 v0 n) v1_h4 v2_h4 (1 <<< ((v2_h4 - 1) &&& 31)))) else ((fX9_beside_L4 v0 n) v1_h4 (v2_h4 + 1))))
def fX9_beside (v0 : Int32) : Option (Int32) :=
  (fX9_beside_L4 v0 FU 0 0)
abbrev rmX9_beside : Room := { frames := 0, cells := 0, slots := 0, locals := 0 }
theorem ddX9_beside : yX9_beside.cls ≠ "java/lang/invoke/MethodHandle" ∧ yX9_beside.cls ≠ "java/lang/invoke/VarHandle" ∧ (parseMethodDescriptor yX9_beside.desc).map (fun d => d.parameters.length) = some 1 := by decide +kernel
set_option maxHeartbeats 4000000 in
set_option maxRecDepth 100000 in
theorem m_X9_beside (l : Launch) (v0 : Int32) (res : Int32) (hf : fX9_beside v0 = some res) : Met l yX9_beside wsX9_beside rmX9_beside (psPc [.int v0]) (rdQ res) 0 0 (fun _ => False) := by
  refine Met.ofW (cc := cX9_beside) (maxL := 3) (ret := (some .int)) (by decide) rfl ?_
  intro p e s m args below meth c s₁ B hml hv
  obtain rfl := hv
  have hx := B.exec
  have hb := B.bytes
  have hr := B.returns
  have hts := atoms_spec (ws := wsX9_beside) B.pre
  have hown : s.vm.findClass RX9 = some m.cls := findClass_of_methodNamed B.named
  have hlocks := B.notSynchronized
  have hl := lv_entry ([.int v0]) (n := 3) (Nat.le_of_ble_eq_true rfl)
  rw [lg_entry_eq]
  generalize (lg_sl ([.int v0]) ++ List.replicate (3 - (lg_sl ([.int v0])).length) Slot.unset).toArray = ls at hl ⊢
  have hl : lv_has ls 3 [(0, .int v0)] := hl
  obtain ⟨QQ, hQQ⟩ : ∃ Q, Q = MQ below (rdQ res) ([.int v0] : List Value).toArray s 0 0 (fun _ => False) := ⟨_, rfl⟩
  rw [← hQQ]
  have h := hf
  unfold fX9_beside at h
  refine lv_iconst (v := 0) hx hb dX9_beside_0 (by decide) ?_
  refine lv_istore_n (lv' := [(1, .int 0), (0, .int v0)]) hx hb dX9_beside_1 rfl hl (by decide) rfl (fun ls hl => ?_)
  refine lv_iconst (v := 0) hx hb dX9_beside_2 (by decide) ?_
  refine lv_istore_n (lv' := [(2, .int 0), (1, .int 0), (0, .int v0)]) hx hb dX9_beside_3 rfl hl (by decide) rfl (fun ls hl => ?_)
  have KL4 : ∀ (n : Nat) (v1_h4 : Int32) (v2_h4 : Int32) (ls : Array Slot), lv_has ls 3 [(0, .int v0), (1, .int v1_h4), (2, .int v2_h4)] → fX9_beside_L4 v0 n v1_h4 v2_h4 = some res → W p l e (headSpec wsX9_beside rmX9_beside).room s m ([.int v0] : List Value).toArray below meth c s.heap [] 0 0 QQ (F0 m 4 ls []) := by
    intro  n
    induction n with
    | zero => intro v1_h4 v2_h4 ls hl h; rw [fX9_beside_L4.eq_1] at h; cases h
    | succ n ih =>
      intro v1_h4 v2_h4 ls hl h
      rw [fX9_beside_L4.eq_2] at h
      refine lv_iload_n hx hb dX9_beside_4 rfl (lv_at hl 2 rfl) ?_
      refine lv_bipush (v := 15) hx hb dX9_beside_5 (by decide) ?_
      refine lv_icmp_ge (tgt := 97) hx hb dX9_beside_7 (by decide) (fun c_1 => ?_) (fun c_1 => ?_)
      · have h := (if_pos c_1).symm.trans h
        refine lv_iload_n hx hb dX9_beside_97 rfl (lv_at hl 1 rfl) ?_
        rw [hQQ]
        exact W.iret (v := v1_h4) hx hb hr (fun t ht hW => ⟨_, rfl, Option.some.inj h, ht⟩) (fun q hq => by cases hq) dX9_beside_98
      · have h := (if_neg c_1).symm.trans h
        refine lv_iload_n hx hb dX9_beside_10 rfl (lv_at hl 0 rfl) ?_
        refine lv_iload_n hx hb dX9_beside_11 rfl (lv_at hl 2 rfl) ?_
        refine lv_ishr hx hb dX9_beside_12 ?_
        refine lv_iconst (v := 1) hx hb dX9_beside_13 (by decide) ?_
        refine lv_iand hx hb dX9_beside_14 ?_
        refine lv_iconst (v := 1) hx hb dX9_beside_15 (by decide) ?_
        refine lv_icmp_ne (tgt := 91) hx hb dX9_beside_16 (by decide) (fun c_2 => ?_) (fun c_2 => ?_)
        · have h := (if_neg c_2).symm.trans h
          refine lv_iinc (v := (v2_h4 + 1)) (lv' := [(2, .int (v2_h4 + 1)), (0, .int v0), (1, .int v1_h4)]) hx hb dX9_beside_91 hl (k := 2) rfl rfl (by decide) rfl (fun ls hl => ?_)
          refine lv_goto (tgt := 4) hx hb dX9_beside_94 (by decide) ?_
          exact ih v1_h4 (v2_h4 + 1) _ (lv_sub hl [1, 2, 0] rfl) h
        · have h := (if_pos c_2).symm.trans h
          refine lv_iload_n hx hb dX9_beside_19 rfl (lv_at hl 1 rfl) ?_
          refine lv_iload_n hx hb dX9_beside_20 rfl (lv_at hl 2 rfl) ?_
          refine lv_iconst (v := 5) hx hb dX9_beside_21 (by decide) ?_
          refine lv_irem hx hb dX9_beside_22 (by decide) ?_
          have KJ35 : ∀ (w0_j35 : Int32) (ls : Array Slot), lv_has ls 3 [(0, .int v0), (2, .int v2_h4)] → fX9_beside_J35 (fX9_beside_L4 v0 n) v1_h4 v2_h4 w0_j35 = some res → W p l e (headSpec wsX9_beside rmX9_beside).room s m ([.int v0] : List Value).toArray below meth c s.heap [] 0 0 QQ (F0 m 35 ls [.int w0_j35, .int v1_h4]) := by
            intro w0_j35 ls hl h
            unfold fX9_beside_J35 at h
            refine lv_ior hx hb dX9_beside_35 ?_
            refine lv_istore_n (lv' := [(1, .int (v1_h4 ||| w0_j35)), (0, .int v0), (2, .int v2_h4)]) hx hb dX9_beside_36 rfl hl (by decide) rfl (fun ls hl => ?_)
            refine lv_iload_n hx hb dX9_beside_37 rfl (lv_at hl 0 rfl) ?_
            refine lv_iload_n hx hb dX9_beside_38 rfl (lv_at hl 2 rfl) ?_
            refine lv_iconst (v := 5) hx hb dX9_beside_39 (by decide) ?_
            refine lv_irem hx hb dX9_beside_40 (by decide) ?_
            refine lv_iconst (v := 4) hx hb dX9_beside_41 (by decide) ?_
            have KJ54 : ∀ (w0_j54 : Int32) (ls : Array Slot), lv_has ls 3 [(0, .int v0), (2, .int v2_h4)] → fX9_beside_J54 (fX9_beside_L4 v0 n) v1_h4 v2_h4 w0_j35 w0_j54 = some res → W p l e (headSpec wsX9_beside rmX9_beside).room s m ([.int v0] : List Value).toArray below meth c s.heap [] 0 0 QQ (F0 m 54 ls [.int w0_j54, .int (v1_h4 ||| w0_j35)]) := by
              intro w0_j54 ls hl h
              unfold fX9_beside_J54 at h
              refine lv_ior hx hb dX9_beside_54 ?_
              refine lv_istore_n (lv' := [(1, .int ((v1_h4 ||| w0_j35) ||| w0_j54)), (0, .int v0), (2, .int v2_h4)]) hx hb dX9_beside_55 rfl hl (by decide) rfl (fun ls hl => ?_)
              refine lv_iload_n hx hb dX9_beside_56 rfl (lv_at hl 0 rfl) ?_
              refine lv_iload_n hx hb dX9_beside_57 rfl (lv_at hl 2 rfl) ?_
              refine lv_iconst (v := 4) hx hb dX9_beside_58 (by decide) ?_
              have KJ71 : ∀ (w0_j71 : Int32) (ls : Array Slot), lv_has ls 3 [(0, .int v0), (2, .int v2_h4)] → fX9_beside_J71 (fX9_beside_L4 v0 n) v1_h4 v2_h4 w0_j35 w0_j54 w0_j71 = some res → W p l e (headSpec wsX9_beside rmX9_beside).room s m ([.int v0] : List Value).toArray below meth c s.heap [] 0 0 QQ (F0 m 71 ls [.int w0_j71, .int ((v1_h4 ||| w0_j35) ||| w0_j54)]) := by
                intro w0_j71 ls hl h
                unfold fX9_beside_J71 at h
                refine lv_ior hx hb dX9_beside_71 ?_
                refine lv_istore_n (lv' := [(1, .int (((v1_h4 ||| w0_j35) ||| w0_j54) ||| w0_j71)), (0, .int v0), (2, .int v2_h4)]) hx hb dX9_beside_72 rfl hl (by decide) rfl (fun ls hl => ?_)
                refine lv_iload_n hx hb dX9_beside_73 rfl (lv_at hl 0 rfl) ?_
                refine lv_iload_n hx hb dX9_beside_74 rfl (lv_at hl 2 rfl) ?_
                refine lv_bipush (v := 10) hx hb dX9_beside_75 (by decide) ?_
                refine lv_icmp_ge (tgt := 88) hx hb dX9_beside_77 (by decide) (fun c_3 => ?_) (fun c_3 => ?_)
                · have h := (if_pos c_3).symm.trans h
                  refine lv_iconst (v := 0) hx hb dX9_beside_88 (by decide) ?_
                  refine lv_ior hx hb dX9_beside_89 ?_
                  refine lv_istore_n (lv' := [(1, .int ((((v1_h4 ||| w0_j35) ||| w0_j54) ||| w0_j71) ||| 0)), (0, .int v0), (2, .int v2_h4)]) hx hb dX9_beside_90 rfl hl (by decide) rfl (fun ls hl => ?_)
                  refine lv_iinc (v := (v2_h4 + 1)) (lv' := [(2, .int (v2_h4 + 1)), (1, .int ((((v1_h4 ||| w0_j35) ||| w0_j54) ||| w0_j71) ||| 0)), (0, .int v0)]) hx hb dX9_beside_91 hl (k := 2) rfl rfl (by decide) rfl (fun ls hl => ?_)
                  refine lv_goto (tgt := 4) hx hb dX9_beside_94 (by decide) ?_
                  exact ih ((((v1_h4 ||| w0_j35) ||| w0_j54) ||| w0_j71) ||| 0) (v2_h4 + 1) _ (lv_sub hl [2, 1, 0] rfl) h
                · have h := (if_neg c_3).symm.trans h
                  refine lv_iconst (v := 1) hx hb dX9_beside_80 (by decide) ?_
                  refine lv_iload_n hx hb dX9_beside_81 rfl (lv_at hl 2 rfl) ?_
                  refine lv_iconst (v := 5) hx hb dX9_beside_82 (by decide) ?_
                  refine lv_iadd hx hb dX9_beside_83 ?_
                  refine lv_ishl hx hb dX9_beside_84 ?_
                  refine lv_goto (tgt := 89) hx hb dX9_beside_85 (by decide) ?_
                  refine lv_ior hx hb dX9_beside_89 ?_
                  refine lv_istore_n (lv' := [(1, .int ((((v1_h4 ||| w0_j35) ||| w0_j54) ||| w0_j71) ||| (1 <<< ((v2_h4 + 5) &&& 31)))), (0, .int v0), (2, .int v2_h4)]) hx hb dX9_beside_90 rfl hl (by decide) rfl (fun ls hl => ?_)
                  refine lv_iinc (v := (v2_h4 + 1)) (lv' := [(2, .int (v2_h4 + 1)), (1, .int ((((v1_h4 ||| w0_j35) ||| w0_j54) ||| w0_j71) ||| (1 <<< ((v2_h4 + 5) &&& 31)))), (0, .int v0)]) hx hb dX9_beside_91 hl (k := 2) rfl rfl (by decide) rfl (fun ls hl => ?_)
                  refine lv_goto (tgt := 4) hx hb dX9_beside_94 (by decide) ?_
                  exact ih ((((v1_h4 ||| w0_j35) ||| w0_j54) ||| w0_j71) ||| (1 <<< ((v2_h4 + 5) &&& 31))) (v2_h4 + 1) _ (lv_sub hl [2, 1, 0] rfl) h
              refine lv_icmp_le (tgt := 70) hx hb dX9_beside_59 (by decide) (fun c_4 => ?_) (fun c_4 => ?_)
              · have h := (if_pos c_4).symm.trans h
                refine lv_iconst (v := 0) hx hb dX9_beside_70 (by decide) ?_
                exact KJ71 0 _ (lv_sub hl [1, 2] rfl) h
              · have h := (if_neg c_4).symm.trans h
                refine lv_iconst (v := 1) hx hb dX9_beside_62 (by decide) ?_
                refine lv_iload_n hx hb dX9_beside_63 rfl (lv_at hl 2 rfl) ?_
                refine lv_iconst (v := 5) hx hb dX9_beside_64 (by decide) ?_
                refine lv_isub hx hb dX9_beside_65 ?_
                refine lv_ishl hx hb dX9_beside_66 ?_
                refine lv_goto (tgt := 71) hx hb dX9_beside_67 (by decide) ?_
                exact KJ71 (1 <<< ((v2_h4 - 5) &&& 31)) _ (lv_sub hl [1, 2] rfl) h
            refine lv_icmp_ge (tgt := 53) hx hb dX9_beside_42 (by decide) (fun c_5 => ?_) (fun c_5 => ?_)
            · have h := (if_pos c_5).symm.trans h
              refine lv_iconst (v := 0) hx hb dX9_beside_53 (by decide) ?_
              exact KJ54 0 _ (lv_sub hl [1, 2] rfl) h
            · have h := (if_neg c_5).symm.trans h
              refine lv_iconst (v := 1) hx hb dX9_beside_45 (by decide) ?_
              refine lv_iload_n hx hb dX9_beside_46 rfl (lv_at hl 2 rfl) ?_
              refine lv_iconst (v := 1) hx hb dX9_beside_47 (by decide) ?_
              refine lv_iadd hx hb dX9_beside_48 ?_
              refine lv_ishl hx hb dX9_beside_49 ?_
              refine lv_goto (tgt := 54) hx hb dX9_beside_50 (by decide) ?_
              exact KJ54 (1 <<< ((v2_h4 + 1) &&& 31)) _ (lv_sub hl [1, 2] rfl) h
          refine lv_if_le (tgt := 34) hx hb dX9_beside_23 (by decide) (fun c_6 => ?_) (fun c_6 => ?_)
          · have h := (if_pos c_6).symm.trans h
            refine lv_iconst (v := 0) hx hb dX9_beside_34 (by decide) ?_
            exact KJ35 0 _ (lv_sub hl [0, 2] rfl) h
          · have h := (if_neg c_6).symm.trans h
            refine lv_iconst (v := 1) hx hb dX9_beside_26 (by decide) ?_
            refine lv_iload_n hx hb dX9_beside_27 rfl (lv_at hl 2 rfl) ?_
            refine lv_iconst (v := 1) hx hb dX9_beside_28 (by decide) ?_
            refine lv_isub hx hb dX9_beside_29 ?_
            refine lv_ishl hx hb dX9_beside_30 ?_
            refine lv_goto (tgt := 35) hx hb dX9_beside_31 (by decide) ?_
            exact KJ35 (1 <<< ((v2_h4 - 1) &&& 31)) _ (lv_sub hl [0, 2] rfl) h
  exact KL4 FU 0 0 _ (lv_sub hl [2, 1, 0] rfl) h
def fX9_partsOf_L25 (v1_h4 : Int32) (k25_50 : Int32 → Option (Int32)) : Nat → Int32 → Int32 → Option (Int32)
  | 0, _, _ => none
  | n + 1, v3_h25, v4_h25 => (if v4_h25 = 0 then (k25_50 v3_h25) else bd1 (fX9_beside (v3_h25 ||| v4_h25)) (fun r_4 => ((fX9_partsOf_L25 v1_h4 k25_50 n) (v3_h25 ||| v4_h25) ((r_4 &&& v1_h4) &&& ((v3_h25 ||| v4_h25) ^^^ (-1))))))
def fX9_partsOf_L4 : Nat → Int32 → Int32 → Option (Int32)
  | 0, _, _ => none
  | n + 1, v1_h4, v2_h4 => (if v1_h4 = 0 then some (v2_h4) else bd1 (fX9_beside (v1_h4 &&& (-v1_h4))) (fun r_2 => (fX9_partsOf_L25 v1_h4 (fun v3_e50 => ((fX9_partsOf_L4  n) (v1_h4 &&& (v3_e50 ^^^ (-1))) (v2_h4 + 1))) FU (v1_h4 &&& (-v1_h4)) ((r_2 &&& v1_h4) &&& ((v1_h4 &&& (-v1_h4)) ^^^ (-1))))))
def fX9_partsOf (v0 : Int32) : Option (Int32) :=
  (fX9_partsOf_L4 FU v0 0)
abbrev rmX9_partsOf : Room := { frames := 1, cells := 0, slots := 0, locals := 22 }
theorem ddX9_partsOf : yX9_partsOf.cls ≠ "java/lang/invoke/MethodHandle" ∧ yX9_partsOf.cls ≠ "java/lang/invoke/VarHandle" ∧ (parseMethodDescriptor yX9_partsOf.desc).map (fun d => d.parameters.length) = some 1 := by decide +kernel
set_option maxHeartbeats 4000000 in
set_option maxRecDepth 100000 in
theorem m_X9_partsOf (l : Launch) (v0 : Int32) (res : Int32) (hf : fX9_partsOf v0 = some res) : Met l yX9_partsOf wsX9_partsOf rmX9_partsOf (psPc [.int v0]) (rdQ res) 0 0 (fun _ => False) := by
  refine Met.ofW (cc := cX9_partsOf) (maxL := 5) (ret := (some .int)) (by decide) rfl ?_
  intro p e s m args below meth c s₁ B hml hv
  obtain rfl := hv
  have hx := B.exec
  have hb := B.bytes
  have hr := B.returns
  have hts := atoms_spec (ws := wsX9_partsOf) B.pre
  have hown : s.vm.findClass RX9 = some m.cls := findClass_of_methodNamed B.named
  have hlocks := B.notSynchronized
  have hl := lv_entry ([.int v0]) (n := 5) (Nat.le_of_ble_eq_true rfl)
  rw [lg_entry_eq]
  generalize (lg_sl ([.int v0]) ++ List.replicate (5 - (lg_sl ([.int v0])).length) Slot.unset).toArray = ls at hl ⊢
  have hl : lv_has ls 5 [(0, .int v0)] := hl
  obtain ⟨QQ, hQQ⟩ : ∃ Q, Q = MQ below (rdQ res) ([.int v0] : List Value).toArray s 0 0 (fun _ => False) := ⟨_, rfl⟩
  rw [← hQQ]
  have h := hf
  unfold fX9_partsOf at h
  refine lv_iload_n hx hb dX9_partsOf_0 rfl (lv_at hl 0 rfl) ?_
  refine lv_istore_n (lv' := [(1, .int v0), (0, .int v0)]) hx hb dX9_partsOf_1 rfl hl (by decide) rfl (fun ls hl => ?_)
  refine lv_iconst (v := 0) hx hb dX9_partsOf_2 (by decide) ?_
  refine lv_istore_n (lv' := [(2, .int 0), (1, .int v0), (0, .int v0)]) hx hb dX9_partsOf_3 rfl hl (by decide) rfl (fun ls hl => ?_)
  have KL4 : ∀ (n : Nat) (v1_h4 : Int32) (v2_h4 : Int32) (ls : Array Slot), lv_has ls 5 [(1, .int v1_h4), (2, .int v2_h4)] → fX9_partsOf_L4 n v1_h4 v2_h4 = some res → W p l e (headSpec wsX9_partsOf rmX9_partsOf).room s m ([.int v0] : List Value).toArray below meth c s.heap [] 0 0 QQ (F0 m 4 ls []) := by
    intro  n
    induction n with
    | zero => intro v1_h4 v2_h4 ls hl h; rw [fX9_partsOf_L4.eq_1] at h; cases h
    | succ n ih =>
      intro v1_h4 v2_h4 ls hl h
      rw [fX9_partsOf_L4.eq_2] at h
      refine lv_iload_n hx hb dX9_partsOf_4 rfl (lv_at hl 0 rfl) ?_
      refine lv_if_eq (tgt := 62) hx hb dX9_partsOf_5 (by decide) (fun c_1 => ?_) (fun c_1 => ?_)
      · have h := (if_pos c_1).symm.trans h
        refine lv_iload_n hx hb dX9_partsOf_62 rfl (lv_at hl 1 rfl) ?_
        rw [hQQ]
        exact W.iret (v := v2_h4) hx hb hr (fun t ht hW => ⟨_, rfl, Option.some.inj h, ht⟩) (fun q hq => by cases hq) dX9_partsOf_63
      · have h := (if_neg c_1).symm.trans h
        refine lv_iload_n hx hb dX9_partsOf_8 rfl (lv_at hl 0 rfl) ?_
        refine lv_iload_n hx hb dX9_partsOf_9 rfl (lv_at hl 0 rfl) ?_
        refine lv_ineg hx hb dX9_partsOf_10 ?_
        refine lv_iand hx hb dX9_partsOf_11 ?_
        refine lv_istore_n (lv' := [(3, .int (v1_h4 &&& (-v1_h4))), (1, .int v1_h4), (2, .int v2_h4)]) hx hb dX9_partsOf_12 rfl hl (by decide) rfl (fun ls hl => ?_)
        refine lv_iload_n hx hb dX9_partsOf_13 rfl (lv_at hl 0 rfl) ?_
        obtain ⟨r_2, hc_2, h⟩ := bd1_of h
        refine cl_pS (As := [.int (v1_h4 &&& (-v1_h4))]) (rest := []) ⟨hx, hb, hml, hown, hts⟩ (m_X9_beside l (v1_h4 &&& (-v1_h4)) (r_2) hc_2) (va_cwS 1 hts gX9_partsOf_X9_beside rfl rfl rfl ddX9_beside ⟨Nat.le_of_ble_eq_true rfl, Nat.le_of_ble_eq_true rfl⟩) rfl rfl hl.1 (Nat.le_of_ble_eq_true rfl) ⟨Nat.zero_le _, Nat.zero_le _⟩ dX9_partsOf_14 ?_
        refine lv_iload_n hx hb dX9_partsOf_17 rfl (lv_at hl 1 rfl) ?_
        refine lv_iand hx hb dX9_partsOf_18 ?_
        refine lv_iload_n hx hb dX9_partsOf_19 rfl (lv_at hl 0 rfl) ?_
        refine lv_iconst (v := (-1)) hx hb dX9_partsOf_20 (by decide) ?_
        refine lv_ixor hx hb dX9_partsOf_21 ?_
        refine lv_iand hx hb dX9_partsOf_22 ?_
        refine lv_istore (lv' := [(4, .int ((r_2 &&& v1_h4) &&& ((v1_h4 &&& (-v1_h4)) ^^^ (-1)))), (3, .int (v1_h4 &&& (-v1_h4))), (1, .int v1_h4), (2, .int v2_h4)]) hx hb dX9_partsOf_23 hl (by decide) rfl (fun ls hl => ?_)
        have KL25 : ∀ (k25_50 : Int32 → Option (Int32)) , (∀ (v3_e50 : Int32) (ls : Array Slot), lv_has ls 5 [(1, .int v1_h4), (2, .int v2_h4), (3, .int v3_e50)] → k25_50 v3_e50 = some res → W p l e (headSpec wsX9_partsOf rmX9_partsOf).room s m ([.int v0] : List Value).toArray below meth c s.heap [] 0 0 QQ (F0 m 50 ls [])) → ∀ (n : Nat) (v3_h25 : Int32) (v4_h25 : Int32) (ls : Array Slot), lv_has ls 5 [(1, .int v1_h4), (2, .int v2_h4), (3, .int v3_h25), (4, .int v4_h25)] → fX9_partsOf_L25 v1_h4 k25_50 n v3_h25 v4_h25 = some res → W p l e (headSpec wsX9_partsOf rmX9_partsOf).room s m ([.int v0] : List Value).toArray below meth c s.heap [] 0 0 QQ (F0 m 25 ls []) := by
          intro k25_50 Kk25_50 n
          induction n with
          | zero => intro v3_h25 v4_h25 ls hl h; rw [fX9_partsOf_L25.eq_1] at h; cases h
          | succ n ih =>
            intro v3_h25 v4_h25 ls hl h
            rw [fX9_partsOf_L25.eq_2] at h
            refine lv_iload hx hb dX9_partsOf_25 (lv_at hl 3 rfl) ?_
            refine lv_if_eq (tgt := 50) hx hb dX9_partsOf_27 (by decide) (fun c_3 => ?_) (fun c_3 => ?_)
            · have h := (if_pos c_3).symm.trans h
              exact Kk25_50 v3_h25 _ (lv_sub hl [0, 1, 2] rfl) h
            · have h := (if_neg c_3).symm.trans h
              refine lv_iload_n hx hb dX9_partsOf_30 rfl (lv_at hl 2 rfl) ?_
              refine lv_iload hx hb dX9_partsOf_31 (lv_at hl 3 rfl) ?_
              refine lv_ior hx hb dX9_partsOf_33 ?_
              refine lv_istore_n (lv' := [(3, .int (v3_h25 ||| v4_h25)), (1, .int v1_h4), (2, .int v2_h4), (4, .int v4_h25)]) hx hb dX9_partsOf_34 rfl hl (by decide) rfl (fun ls hl => ?_)
              refine lv_iload_n hx hb dX9_partsOf_35 rfl (lv_at hl 0 rfl) ?_
              obtain ⟨r_4, hc_4, h⟩ := bd1_of h
              refine cl_pS (As := [.int (v3_h25 ||| v4_h25)]) (rest := []) ⟨hx, hb, hml, hown, hts⟩ (m_X9_beside l (v3_h25 ||| v4_h25) (r_4) hc_4) (va_cwS 1 hts gX9_partsOf_X9_beside rfl rfl rfl ddX9_beside ⟨Nat.le_of_ble_eq_true rfl, Nat.le_of_ble_eq_true rfl⟩) rfl rfl hl.1 (Nat.le_of_ble_eq_true rfl) ⟨Nat.zero_le _, Nat.zero_le _⟩ dX9_partsOf_36 ?_
              refine lv_iload_n hx hb dX9_partsOf_39 rfl (lv_at hl 1 rfl) ?_
              refine lv_iand hx hb dX9_partsOf_40 ?_
              refine lv_iload_n hx hb dX9_partsOf_41 rfl (lv_at hl 0 rfl) ?_
              refine lv_iconst (v := (-1)) hx hb dX9_partsOf_42 (by decide) ?_
              refine lv_ixor hx hb dX9_partsOf_43 ?_
              refine lv_iand hx hb dX9_partsOf_44 ?_
              refine lv_istore (lv' := [(4, .int ((r_4 &&& v1_h4) &&& ((v3_h25 ||| v4_h25) ^^^ (-1)))), (3, .int (v3_h25 ||| v4_h25)), (1, .int v1_h4), (2, .int v2_h4)]) hx hb dX9_partsOf_45 hl (by decide) rfl (fun ls hl => ?_)
              refine lv_goto (tgt := 25) hx hb dX9_partsOf_47 (by decide) ?_
              exact ih (v3_h25 ||| v4_h25) ((r_4 &&& v1_h4) &&& ((v3_h25 ||| v4_h25) ^^^ (-1))) _ (lv_sub hl [2, 3, 1, 0] rfl) h
        refine KL25 _ (fun v3_e50 ls hl h => ?_) FU (v1_h4 &&& (-v1_h4)) ((r_2 &&& v1_h4) &&& ((v1_h4 &&& (-v1_h4)) ^^^ (-1))) _ (lv_sub hl [2, 3, 1, 0] rfl) h
        refine lv_iload_n hx hb dX9_partsOf_50 rfl (lv_at hl 0 rfl) ?_
        refine lv_iload_n hx hb dX9_partsOf_51 rfl (lv_at hl 2 rfl) ?_
        refine lv_iconst (v := (-1)) hx hb dX9_partsOf_52 (by decide) ?_
        refine lv_ixor hx hb dX9_partsOf_53 ?_
        refine lv_iand hx hb dX9_partsOf_54 ?_
        refine lv_istore_n (lv' := [(1, .int (v1_h4 &&& (v3_e50 ^^^ (-1)))), (2, .int v2_h4), (3, .int v3_e50)]) hx hb dX9_partsOf_55 rfl hl (by decide) rfl (fun ls hl => ?_)
        refine lv_iinc (v := (v2_h4 + 1)) (lv' := [(2, .int (v2_h4 + 1)), (1, .int (v1_h4 &&& (v3_e50 ^^^ (-1)))), (3, .int v3_e50)]) hx hb dX9_partsOf_56 hl (k := 1) rfl rfl (by decide) rfl (fun ls hl => ?_)
        refine lv_goto (tgt := 4) hx hb dX9_partsOf_59 (by decide) ?_
        exact ih (v1_h4 &&& (v3_e50 ^^^ (-1))) (v2_h4 + 1) _ (lv_sub hl [1, 0] rfl) h
  exact KL4 FU v0 0 _ (lv_sub hl [1, 0] rfl) h
def fX9_bits_L4 (v0 : Int32) : Nat → Int32 → Int32 → Option (Int32)
  | 0, _, _ => none
  | n + 1, v1_h4, v2_h4 => (if 15 ≤ v2_h4 then some (v1_h4) else ((fX9_bits_L4 v0 n) (v1_h4 + ((v0 >>> (v2_h4 &&& 31)) &&& 1)) (v2_h4 + 1)))
def fX9_bits (v0 : Int32) : Option (Int32) :=
  (fX9_bits_L4 v0 FU 0 0)
abbrev rmX9_bits : Room := { frames := 0, cells := 0, slots := 0, locals := 0 }
theorem ddX9_bits : yX9_bits.cls ≠ "java/lang/invoke/MethodHandle" ∧ yX9_bits.cls ≠ "java/lang/invoke/VarHandle" ∧ (parseMethodDescriptor yX9_bits.desc).map (fun d => d.parameters.length) = some 1 := by decide +kernel
set_option maxHeartbeats 4000000 in
set_option maxRecDepth 100000 in
theorem m_X9_bits (l : Launch) (v0 : Int32) (res : Int32) (hf : fX9_bits v0 = some res) : Met l yX9_bits wsX9_bits rmX9_bits (psPc [.int v0]) (rdQ res) 0 0 (fun _ => False) := by
  refine Met.ofW (cc := cX9_bits) (maxL := 3) (ret := (some .int)) (by decide) rfl ?_
  intro p e s m args below meth c s₁ B hml hv
  obtain rfl := hv
  have hx := B.exec
  have hb := B.bytes
  have hr := B.returns
  have hts := atoms_spec (ws := wsX9_bits) B.pre
  have hown : s.vm.findClass RX9 = some m.cls := findClass_of_methodNamed B.named
  have hlocks := B.notSynchronized
  have hl := lv_entry ([.int v0]) (n := 3) (Nat.le_of_ble_eq_true rfl)
  rw [lg_entry_eq]
  generalize (lg_sl ([.int v0]) ++ List.replicate (3 - (lg_sl ([.int v0])).length) Slot.unset).toArray = ls at hl ⊢
  have hl : lv_has ls 3 [(0, .int v0)] := hl
  obtain ⟨QQ, hQQ⟩ : ∃ Q, Q = MQ below (rdQ res) ([.int v0] : List Value).toArray s 0 0 (fun _ => False) := ⟨_, rfl⟩
  rw [← hQQ]
  have h := hf
  unfold fX9_bits at h
  refine lv_iconst (v := 0) hx hb dX9_bits_0 (by decide) ?_
  refine lv_istore_n (lv' := [(1, .int 0), (0, .int v0)]) hx hb dX9_bits_1 rfl hl (by decide) rfl (fun ls hl => ?_)
  refine lv_iconst (v := 0) hx hb dX9_bits_2 (by decide) ?_
  refine lv_istore_n (lv' := [(2, .int 0), (1, .int 0), (0, .int v0)]) hx hb dX9_bits_3 rfl hl (by decide) rfl (fun ls hl => ?_)
  have KL4 : ∀ (n : Nat) (v1_h4 : Int32) (v2_h4 : Int32) (ls : Array Slot), lv_has ls 3 [(0, .int v0), (1, .int v1_h4), (2, .int v2_h4)] → fX9_bits_L4 v0 n v1_h4 v2_h4 = some res → W p l e (headSpec wsX9_bits rmX9_bits).room s m ([.int v0] : List Value).toArray below meth c s.heap [] 0 0 QQ (F0 m 4 ls []) := by
    intro  n
    induction n with
    | zero => intro v1_h4 v2_h4 ls hl h; rw [fX9_bits_L4.eq_1] at h; cases h
    | succ n ih =>
      intro v1_h4 v2_h4 ls hl h
      rw [fX9_bits_L4.eq_2] at h
      refine lv_iload_n hx hb dX9_bits_4 rfl (lv_at hl 2 rfl) ?_
      refine lv_bipush (v := 15) hx hb dX9_bits_5 (by decide) ?_
      refine lv_icmp_ge (tgt := 24) hx hb dX9_bits_7 (by decide) (fun c_1 => ?_) (fun c_1 => ?_)
      · have h := (if_pos c_1).symm.trans h
        refine lv_iload_n hx hb dX9_bits_24 rfl (lv_at hl 1 rfl) ?_
        rw [hQQ]
        exact W.iret (v := v1_h4) hx hb hr (fun t ht hW => ⟨_, rfl, Option.some.inj h, ht⟩) (fun q hq => by cases hq) dX9_bits_25
      · have h := (if_neg c_1).symm.trans h
        refine lv_iload_n hx hb dX9_bits_10 rfl (lv_at hl 1 rfl) ?_
        refine lv_iload_n hx hb dX9_bits_11 rfl (lv_at hl 0 rfl) ?_
        refine lv_iload_n hx hb dX9_bits_12 rfl (lv_at hl 2 rfl) ?_
        refine lv_ishr hx hb dX9_bits_13 ?_
        refine lv_iconst (v := 1) hx hb dX9_bits_14 (by decide) ?_
        refine lv_iand hx hb dX9_bits_15 ?_
        refine lv_iadd hx hb dX9_bits_16 ?_
        refine lv_istore_n (lv' := [(1, .int (v1_h4 + ((v0 >>> (v2_h4 &&& 31)) &&& 1))), (0, .int v0), (2, .int v2_h4)]) hx hb dX9_bits_17 rfl hl (by decide) rfl (fun ls hl => ?_)
        refine lv_iinc (v := (v2_h4 + 1)) (lv' := [(2, .int (v2_h4 + 1)), (1, .int (v1_h4 + ((v0 >>> (v2_h4 &&& 31)) &&& 1))), (0, .int v0)]) hx hb dX9_bits_18 hl (k := 2) rfl rfl (by decide) rfl (fun ls hl => ?_)
        refine lv_goto (tgt := 4) hx hb dX9_bits_21 (by decide) ?_
        exact ih (v1_h4 + ((v0 >>> (v2_h4 &&& 31)) &&& 1)) (v2_h4 + 1) _ (lv_sub hl [2, 1, 0] rfl) h
  exact KL4 FU 0 0 _ (lv_sub hl [2, 1, 0] rfl) h
def fX9_keep_L51 (s_isle : (Nat → Int32)) (s_acts_j49 : Int32) (k51_83 : (Nat → Int32) → Option ((Nat → Int32) × Int32)) : Nat → Int32 → (Nat → Int32) → Option ((Nat → Int32) × Int32)
  | 0, _, _ => none
  | n + 1, v1_h51, s_was_h51 => (if 51 ≤ v1_h51 then (k51_83 s_was_h51) else chk (¬ (v1_h51 < 0 ∨ 51 ≤ v1_h51.toNatClampNeg)) (chk (¬ (((51 * s_acts_j49) + v1_h51) < 0 ∨ 1224 ≤ ((51 * s_acts_j49) + v1_h51).toNatClampNeg)) (((fX9_keep_L51 s_isle s_acts_j49 k51_83 n) (v1_h51 + 1) (upd s_was_h51 ((51 * s_acts_j49) + v1_h51).toNatClampNeg (s_isle v1_h51.toNatClampNeg))))))
def fX9_keep_J49 (s_isle : (Nat → Int32)) (s_was_j49 : (Nat → Int32)) (s_acts_j49 : Int32) : Option ((Nat → Int32) × Int32) :=
  (fX9_keep_L51 s_isle s_acts_j49 (fun s_was_e83 => some (s_was_e83, (s_acts_j49 + 1))) FU 0 s_was_j49)
def fX9_keep_L11 (k11_39 : (Nat → Int32) → Option ((Nat → Int32) × Int32)) : Nat → Int32 → (Nat → Int32) → Option ((Nat → Int32) × Int32)
  | 0, _, _ => none
  | n + 1, v1_h11, s_was_h11 => (if 1173 ≤ v1_h11 then (k11_39 s_was_h11) else chk (¬ ((v1_h11 + 51) < 0 ∨ 1224 ≤ (v1_h11 + 51).toNatClampNeg)) (chk (¬ (v1_h11 < 0 ∨ 1224 ≤ v1_h11.toNatClampNeg)) (((fX9_keep_L11 k11_39 n) (v1_h11 + 1) (upd s_was_h11 v1_h11.toNatClampNeg (s_was_h11 (v1_h11 + 51).toNatClampNeg))))))
def fX9_keep (s_isle : (Nat → Int32)) (s_was : (Nat → Int32)) (s_acts : Int32) : Option ((Nat → Int32) × Int32) :=
  (if s_acts = 24 then (fX9_keep_L11 (fun s_was_e39 => (fX9_keep_J49 s_isle s_was_e39 (s_acts - 1))) FU 0 s_was) else (fX9_keep_J49 s_isle s_was s_acts))
abbrev rmX9_keep : Room := { frames := 0, cells := 0, slots := 0, locals := 0 }
theorem ddX9_keep : yX9_keep.cls ≠ "java/lang/invoke/MethodHandle" ∧ yX9_keep.cls ≠ "java/lang/invoke/VarHandle" ∧ (parseMethodDescriptor yX9_keep.desc).map (fun d => d.parameters.length) = some 0 := by decide +kernel
set_option maxHeartbeats 4000000 in
set_option maxRecDepth 100000 in
theorem m_X9_keep (l : Launch) (dC : Nat → ClassId) (dI : Nat → Nat → Nat) (cI cZ : ClassId) (q_s q_s_lane q_s_many q_s_item q_s_isle q_s_fresh q_s_then q_s_was q_s_tape q_s_isKept q_s_kept q_s_trace : Nat) (s_thrown : Int32) (s_status : Int32) (s_lane : (Nat → Int32)) (s_many : (Nat → Int32)) (s_item : (Nat → Int32)) (s_isle : (Nat → Int32)) (s_fresh : (Nat → Int32)) (s_then : (Nat → Int32)) (s_was : (Nat → Int32)) (s_acts : Int32) (s_tape : (Nat → Int32)) (s_taped : Int32) (s_cursor : Int32) (s_start : Int32) (s_token : Int32) (s_value : Int32) (s_fault : Int32) (s_faultAt : Int32) (s_latest : Int32) (s_isKept : (Nat → Int32)) (s_kept : (Nat → Int32)) (s_trace : (Nat → Int32)) (s_traced : Int32) (sz : Nat) (res : (Nat → Int32) × Int32) (hf : fX9_keep s_isle s_was s_acts = some res) : Met l yX9_keep wsX9_keep rmX9_keep (mtPc (dC, dI) (tyZ cI cZ) ((W_M cI cZ q_s q_s_lane q_s_many q_s_item q_s_isle q_s_fresh q_s_then q_s_was q_s_tape q_s_isKept q_s_kept q_s_trace s_thrown s_status s_lane s_many s_item s_isle s_fresh s_then s_was s_acts s_tape s_taped s_cursor s_start s_token s_value s_fault s_faultAt s_latest s_isKept s_kept s_trace s_traced)) [.ref q_s] sz) (mtQv (dC, dI) (tyZ cI cZ) ((W_M cI cZ q_s q_s_lane q_s_many q_s_item q_s_isle q_s_fresh q_s_then q_s_was q_s_tape q_s_isKept q_s_kept q_s_trace s_thrown s_status s_lane s_many s_item s_isle s_fresh s_then s_was s_acts s_tape s_taped s_cursor s_start s_token s_value s_fault s_faultAt s_latest s_isKept s_kept s_trace s_traced)) ((W_M cI cZ q_s q_s_lane q_s_many q_s_item q_s_isle q_s_fresh q_s_then q_s_was q_s_tape q_s_isKept q_s_kept q_s_trace s_thrown s_status s_lane s_many s_item s_isle s_fresh s_then res.1 res.2 s_tape s_taped s_cursor s_start s_token s_value s_fault s_faultAt s_latest s_isKept s_kept s_trace s_traced)) sz) 0 0 (va_A ((W_M cI cZ q_s q_s_lane q_s_many q_s_item q_s_isle q_s_fresh q_s_then q_s_was q_s_tape q_s_isKept q_s_kept q_s_trace s_thrown s_status s_lane s_many s_item s_isle s_fresh s_then s_was s_acts s_tape s_taped s_cursor s_start s_token s_value s_fault s_faultAt s_latest s_isKept s_kept s_trace s_traced)) sz) := by
  refine Met.ofW (cc := cX9_keep) (maxL := 2) (ret := none) (by decide) rfl ?_
  intro p e s m args below meth c s₁ B hml hv
  obtain ⟨rfl, hsz, hP, hK, hD0⟩ := hv
  have hx := B.exec
  have hb := B.bytes
  have hr := B.returns
  have hts := atoms_spec (ws := wsX9_keep) B.pre
  have hown : s.vm.findClass RX9 = some m.cls := findClass_of_methodNamed B.named
  have hlocks := B.notSynchronized
  subst hsz
  have hD := hD0.self (sz := s.heap.size)
  obtain ⟨A, hAe⟩ : ∃ A, A = va_A ((W_M cI cZ q_s q_s_lane q_s_many q_s_item q_s_isle q_s_fresh q_s_then q_s_was q_s_tape q_s_isKept q_s_kept q_s_trace s_thrown s_status s_lane s_many s_item s_isle s_fresh s_then s_was s_acts s_tape s_taped s_cursor s_start s_token s_value s_fault s_faultAt s_latest s_isKept s_kept s_trace s_traced)) s.heap.size := ⟨_, rfl⟩
  rw [← hAe] at hD
  have hA : ∀ q : Nat, s.heap.size ≤ q → A q := fun q h => by rw [hAe]; exact Or.inr h
  have hS : va_S A s.heap s.heap [] := va_S.rf
  have hl := lv_entry ([.ref q_s]) (n := 2) (Nat.le_of_ble_eq_true rfl)
  rw [lg_entry_eq]
  generalize (lg_sl ([.ref q_s]) ++ List.replicate (2 - (lg_sl ([.ref q_s])).length) Slot.unset).toArray = ls at hl ⊢
  have hl : lv_has ls 2 [(0, .ref q_s)] := hl
  obtain ⟨QQ, hQQ⟩ : ∃ Q, Q = MQ below (mtQv (dC, dI) (tyZ cI cZ) ((W_M cI cZ q_s q_s_lane q_s_many q_s_item q_s_isle q_s_fresh q_s_then q_s_was q_s_tape q_s_isKept q_s_kept q_s_trace s_thrown s_status s_lane s_many s_item s_isle s_fresh s_then s_was s_acts s_tape s_taped s_cursor s_start s_token s_value s_fault s_faultAt s_latest s_isKept s_kept s_trace s_traced)) ((W_M cI cZ q_s q_s_lane q_s_many q_s_item q_s_isle q_s_fresh q_s_then q_s_was q_s_tape q_s_isKept q_s_kept q_s_trace s_thrown s_status s_lane s_many s_item s_isle s_fresh s_then res.1 res.2 s_tape s_taped s_cursor s_start s_token s_value s_fault s_faultAt s_latest s_isKept s_kept s_trace s_traced)) s.heap.size) ([.ref q_s] : List Value).toArray s 0 0 (va_A ((W_M cI cZ q_s q_s_lane q_s_many q_s_item q_s_isle q_s_fresh q_s_then q_s_was q_s_tape q_s_isKept q_s_kept q_s_trace s_thrown s_status s_lane s_many s_item s_isle s_fresh s_then s_was s_acts s_tape s_taped s_cursor s_start s_token s_value s_fault s_faultAt s_latest s_isKept s_kept s_trace s_traced)) s.heap.size) := ⟨_, rfl⟩
  rw [← hQQ]
  have w_0 := hts (Cond.fieldLink RX9 145 "TideInchesModel" "acts" "I") (List.mem_of_getElem? (i := 1) rfl)
  have w_1 := (fun w hw => List.mem_cons_of_mem _ (List.mem_append_right _ hw) : ∀ w ∈ wsX90, w ∈ wsX9_keep)
  have w_2 := hts (Cond.fieldLink RX9 28 "TideInchesModel" "was" "[I") (List.mem_of_getElem? (i := 2) rfl)
  have w_3 := hts (Cond.fieldLink RX9 19 "TideInchesModel" "isle" "[I") (List.mem_of_getElem? (i := 3) rfl)
  have h := hf
  unfold fX9_keep at h
  refine lv_aload_n hx hb dX9_keep_0 rfl (lv_at hl 0 rfl) ?_
  refine va_get (D := (dC, dI)) (ci := 7) (v := .int s_acts) (C := RX9) (T := TX9) (N := 23) hx hb hts w_1 hown hK hP 0 rfl rfl 9 (by decide) w_0 (fun _ h9 => h9) rfl dX9_keep_1 ?_
  refine lv_bipush (v := 24) hx hb dX9_keep_4 (by decide) ?_
  have KJ49 : ∀ (s_was_j49 : (Nat → Int32)) (s_acts_j49 : Int32) (H : Heap) (locs : List Loc) (ls : Array Slot), va_P (dC, dI) vwCl ((W_M cI cZ q_s q_s_lane q_s_many q_s_item q_s_isle q_s_fresh q_s_then q_s_was q_s_tape q_s_isKept q_s_kept q_s_trace s_thrown s_status s_lane s_many s_item s_isle s_fresh s_then s_was_j49 s_acts_j49 s_tape s_taped s_cursor s_start s_token s_value s_fault s_faultAt s_latest s_isKept s_kept s_trace s_traced)) H → va_D A ((W_M cI cZ q_s q_s_lane q_s_many q_s_item q_s_isle q_s_fresh q_s_then q_s_was q_s_tape q_s_isKept q_s_kept q_s_trace s_thrown s_status s_lane s_many s_item s_isle s_fresh s_then s_was_j49 s_acts_j49 s_tape s_taped s_cursor s_start s_token s_value s_fault s_faultAt s_latest s_isKept s_kept s_trace s_traced)) → va_S A s.heap H locs → lv_has ls 2 [(0, .ref q_s)] → fX9_keep_J49 s_isle s_was_j49 s_acts_j49 = some res → W p l e (headSpec wsX9_keep rmX9_keep).room s m ([.ref q_s] : List Value).toArray below meth c H locs 0 0 QQ (F0 m 49 ls []) := by
    intro s_was_j49 s_acts_j49 H locs ls hP hD hS hl h
    unfold fX9_keep_J49 at h
    refine lv_iconst (v := 0) hx hb dX9_keep_49 (by decide) ?_
    refine lv_istore_n (lv' := [(1, .int 0), (0, .ref q_s)]) hx hb dX9_keep_50 rfl hl (by decide) rfl (fun ls hl => ?_)
    have KL51 : ∀ (k51_83 : (Nat → Int32) → Option ((Nat → Int32) × Int32)) , (∀ (s_was_e83 : (Nat → Int32)) (H : Heap) (locs : List Loc) (ls : Array Slot), va_P (dC, dI) vwCl ((W_M cI cZ q_s q_s_lane q_s_many q_s_item q_s_isle q_s_fresh q_s_then q_s_was q_s_tape q_s_isKept q_s_kept q_s_trace s_thrown s_status s_lane s_many s_item s_isle s_fresh s_then s_was_e83 s_acts_j49 s_tape s_taped s_cursor s_start s_token s_value s_fault s_faultAt s_latest s_isKept s_kept s_trace s_traced)) H → va_D A ((W_M cI cZ q_s q_s_lane q_s_many q_s_item q_s_isle q_s_fresh q_s_then q_s_was q_s_tape q_s_isKept q_s_kept q_s_trace s_thrown s_status s_lane s_many s_item s_isle s_fresh s_then s_was_e83 s_acts_j49 s_tape s_taped s_cursor s_start s_token s_value s_fault s_faultAt s_latest s_isKept s_kept s_trace s_traced)) → va_S A s.heap H locs → lv_has ls 2 [(0, .ref q_s)] → k51_83 s_was_e83 = some res → W p l e (headSpec wsX9_keep rmX9_keep).room s m ([.ref q_s] : List Value).toArray below meth c H locs 0 0 QQ (F0 m 83 ls [])) → ∀ (n : Nat) (v1_h51 : Int32) (s_was_h51 : (Nat → Int32)) (H : Heap) (locs : List Loc) (ls : Array Slot), va_P (dC, dI) vwCl ((W_M cI cZ q_s q_s_lane q_s_many q_s_item q_s_isle q_s_fresh q_s_then q_s_was q_s_tape q_s_isKept q_s_kept q_s_trace s_thrown s_status s_lane s_many s_item s_isle s_fresh s_then s_was_h51 s_acts_j49 s_tape s_taped s_cursor s_start s_token s_value s_fault s_faultAt s_latest s_isKept s_kept s_trace s_traced)) H → va_D A ((W_M cI cZ q_s q_s_lane q_s_many q_s_item q_s_isle q_s_fresh q_s_then q_s_was q_s_tape q_s_isKept q_s_kept q_s_trace s_thrown s_status s_lane s_many s_item s_isle s_fresh s_then s_was_h51 s_acts_j49 s_tape s_taped s_cursor s_start s_token s_value s_fault s_faultAt s_latest s_isKept s_kept s_trace s_traced)) → va_S A s.heap H locs → lv_has ls 2 [(0, .ref q_s), (1, .int v1_h51)] → fX9_keep_L51 s_isle s_acts_j49 k51_83 n v1_h51 s_was_h51 = some res → W p l e (headSpec wsX9_keep rmX9_keep).room s m ([.ref q_s] : List Value).toArray below meth c H locs 0 0 QQ (F0 m 51 ls []) := by
      intro k51_83 Kk51_83 n
      induction n with
      | zero => intro v1_h51 s_was_h51 H locs ls hP hD hS hl h; rw [fX9_keep_L51.eq_1] at h; cases h
      | succ n ih =>
        intro v1_h51 s_was_h51 H locs ls hP hD hS hl h
        rw [fX9_keep_L51.eq_2] at h
        refine lv_iload_n hx hb dX9_keep_51 rfl (lv_at hl 1 rfl) ?_
        refine lv_bipush (v := 51) hx hb dX9_keep_52 (by decide) ?_
        refine lv_icmp_ge (tgt := 83) hx hb dX9_keep_54 (by decide) (fun c_1 => ?_) (fun c_1 => ?_)
        · have h := (if_pos c_1).symm.trans h
          exact Kk51_83 s_was_h51 _ _ _ hP hD hS (lv_sub hl [0] rfl) h
        · have h := (if_neg c_1).symm.trans h
          refine lv_aload_n hx hb dX9_keep_57 rfl (lv_at hl 0 rfl) ?_
          refine va_get (D := (dC, dI)) (ci := 7) (v := .ref q_s_was) (C := RX9) (T := TX9) (N := 23) hx hb hts w_1 hown hK hP 0 rfl rfl 8 (by decide) w_2 (fun _ h9 => h9) rfl dX9_keep_58 ?_
          refine lv_bipush (v := 51) hx hb dX9_keep_61 (by decide) ?_
          refine lv_aload_n hx hb dX9_keep_63 rfl (lv_at hl 0 rfl) ?_
          refine va_get (D := (dC, dI)) (ci := 7) (v := .int s_acts_j49) (C := RX9) (T := TX9) (N := 23) hx hb hts w_1 hown hK hP 0 rfl rfl 9 (by decide) w_0 (fun _ h9 => h9) rfl dX9_keep_64 ?_
          refine lv_imul hx hb dX9_keep_67 ?_
          refine lv_iload_n hx hb dX9_keep_68 rfl (lv_at hl 1 rfl) ?_
          refine lv_iadd hx hb dX9_keep_69 ?_
          refine lv_aload_n hx hb dX9_keep_70 rfl (lv_at hl 0 rfl) ?_
          refine va_get (D := (dC, dI)) (ci := 7) (v := .ref q_s_isle) (C := RX9) (T := TX9) (N := 23) hx hb hts w_1 hown hK hP 0 rfl rfl 5 (by decide) w_3 (fun _ h9 => h9) rfl dX9_keep_71 ?_
          refine lv_iload_n hx hb dX9_keep_74 rfl (lv_at hl 1 rfl) ?_
          obtain ⟨b_2, h⟩ := chk_of h
          refine va_iald hx hb hK hP 4 0 rfl rfl (i := v1_h51) b_2 dX9_keep_75 ?_
          obtain ⟨b_3, h⟩ := chk_of h
          refine va_iast hx hb hK hP hD hS 7 0 rfl rfl (i := ((51 * s_acts_j49) + v1_h51)) (x := (s_isle v1_h51.toNatClampNeg)) b_3 dX9_keep_76 (fun H locs hP hD hS => ?_)
          have hP : va_P (dC, dI) vwCl ((W_M cI cZ q_s q_s_lane q_s_many q_s_item q_s_isle q_s_fresh q_s_then q_s_was q_s_tape q_s_isKept q_s_kept q_s_trace s_thrown s_status s_lane s_many s_item s_isle s_fresh s_then (upd s_was_h51 ((51 * s_acts_j49) + v1_h51).toNatClampNeg (s_isle v1_h51.toNatClampNeg)) s_acts_j49 s_tape s_taped s_cursor s_start s_token s_value s_fault s_faultAt s_latest s_isKept s_kept s_trace s_traced)) H := hP
          have hD : va_D A ((W_M cI cZ q_s q_s_lane q_s_many q_s_item q_s_isle q_s_fresh q_s_then q_s_was q_s_tape q_s_isKept q_s_kept q_s_trace s_thrown s_status s_lane s_many s_item s_isle s_fresh s_then (upd s_was_h51 ((51 * s_acts_j49) + v1_h51).toNatClampNeg (s_isle v1_h51.toNatClampNeg)) s_acts_j49 s_tape s_taped s_cursor s_start s_token s_value s_fault s_faultAt s_latest s_isKept s_kept s_trace s_traced)) := hD
          refine lv_iinc (v := (v1_h51 + 1)) (lv' := [(1, .int (v1_h51 + 1)), (0, .ref q_s)]) hx hb dX9_keep_77 hl (k := 1) rfl rfl (by decide) rfl (fun ls hl => ?_)
          refine lv_goto (tgt := 51) hx hb dX9_keep_80 (by decide) ?_
          exact ih (v1_h51 + 1) (upd s_was_h51 ((51 * s_acts_j49) + v1_h51).toNatClampNeg (s_isle v1_h51.toNatClampNeg)) _ _ _ hP hD hS (lv_sub hl [1, 0] rfl) h
    refine KL51 _ (fun s_was_e83 H locs ls hP hD hS hl h => ?_) FU 0 s_was_j49 _ _ _ hP hD hS (lv_sub hl [1, 0] rfl) h
    refine lv_aload_n hx hb dX9_keep_83 rfl (lv_at hl 0 rfl) ?_
    refine lv_dup hx hb dX9_keep_84 rfl ?_
    refine va_get (D := (dC, dI)) (ci := 7) (v := .int s_acts_j49) (C := RX9) (T := TX9) (N := 23) hx hb hts w_1 hown hK hP 0 rfl rfl 9 (by decide) w_0 (fun _ h9 => h9) rfl dX9_keep_85 ?_
    refine lv_iconst (v := 1) hx hb dX9_keep_88 (by decide) ?_
    refine lv_iadd hx hb dX9_keep_89 ?_
    refine va_put (D := (dC, dI)) (ci := 7) (v := .int (s_acts_j49 + 1)) (ty := .int) (C := RX9) (T := TX9) (N := 23) hx hb hts w_1 tyX9 tyX9_ok nmX9 hown hK hP hD hS 0 rfl rfl 9 (by decide) w_0 (fun _ h9 => h9) rfl (by decide +kernel) rfl rfl (Nat.le_of_ble_eq_true rfl) dX9_keep_90 (fun H locs hP hD hS => ?_)
    have hP : va_P (dC, dI) vwCl ((W_M cI cZ q_s q_s_lane q_s_many q_s_item q_s_isle q_s_fresh q_s_then q_s_was q_s_tape q_s_isKept q_s_kept q_s_trace s_thrown s_status s_lane s_many s_item s_isle s_fresh s_then s_was_e83 (s_acts_j49 + 1) s_tape s_taped s_cursor s_start s_token s_value s_fault s_faultAt s_latest s_isKept s_kept s_trace s_traced)) H := hP
    have hD : va_D A ((W_M cI cZ q_s q_s_lane q_s_many q_s_item q_s_isle q_s_fresh q_s_then q_s_was q_s_tape q_s_isKept q_s_kept q_s_trace s_thrown s_status s_lane s_many s_item s_isle s_fresh s_then s_was_e83 (s_acts_j49 + 1) s_tape s_taped s_cursor s_start s_token s_value s_fault s_faultAt s_latest s_isKept s_kept s_trace s_traced)) := hD
    have h := Option.some.inj h
    subst h
    rw [hQQ]
    subst hAe
    exact W.vret hx hb hr (fun t ht hW => ⟨⟨(), rfl, trivial, by rw [ht]; exact hP, va_K.moved hW.alike hK, hD⟩, hS.F ht⟩) hS.2.2 dX9_keep_93
  refine lv_icmp_ne (tgt := 49) hx hb dX9_keep_6 (by decide) (fun c_4 => ?_) (fun c_4 => ?_)
  · have h := (if_neg c_4).symm.trans h
    exact KJ49 s_was s_acts _ _ _ hP hD hS (lv_sub hl [0] rfl) h
  · have h := (if_pos c_4).symm.trans h
    refine lv_iconst (v := 0) hx hb dX9_keep_9 (by decide) ?_
    refine lv_istore_n (lv' := [(1, .int 0), (0, .ref q_s)]) hx hb dX9_keep_10 rfl hl (by decide) rfl (fun ls hl => ?_)
    have KL11 : ∀ (k11_39 : (Nat → Int32) → Option ((Nat → Int32) × Int32)) , (∀ (s_was_e39 : (Nat → Int32)) (H : Heap) (locs : List Loc) (ls : Array Slot), va_P (dC, dI) vwCl ((W_M cI cZ q_s q_s_lane q_s_many q_s_item q_s_isle q_s_fresh q_s_then q_s_was q_s_tape q_s_isKept q_s_kept q_s_trace s_thrown s_status s_lane s_many s_item s_isle s_fresh s_then s_was_e39 s_acts s_tape s_taped s_cursor s_start s_token s_value s_fault s_faultAt s_latest s_isKept s_kept s_trace s_traced)) H → va_D A ((W_M cI cZ q_s q_s_lane q_s_many q_s_item q_s_isle q_s_fresh q_s_then q_s_was q_s_tape q_s_isKept q_s_kept q_s_trace s_thrown s_status s_lane s_many s_item s_isle s_fresh s_then s_was_e39 s_acts s_tape s_taped s_cursor s_start s_token s_value s_fault s_faultAt s_latest s_isKept s_kept s_trace s_traced)) → va_S A s.heap H locs → lv_has ls 2 [(0, .ref q_s)] → k11_39 s_was_e39 = some res → W p l e (headSpec wsX9_keep rmX9_keep).room s m ([.ref q_s] : List Value).toArray below meth c H locs 0 0 QQ (F0 m 39 ls [])) → ∀ (n : Nat) (v1_h11 : Int32) (s_was_h11 : (Nat → Int32)) (H : Heap) (locs : List Loc) (ls : Array Slot), va_P (dC, dI) vwCl ((W_M cI cZ q_s q_s_lane q_s_many q_s_item q_s_isle q_s_fresh q_s_then q_s_was q_s_tape q_s_isKept q_s_kept q_s_trace s_thrown s_status s_lane s_many s_item s_isle s_fresh s_then s_was_h11 s_acts s_tape s_taped s_cursor s_start s_token s_value s_fault s_faultAt s_latest s_isKept s_kept s_trace s_traced)) H → va_D A ((W_M cI cZ q_s q_s_lane q_s_many q_s_item q_s_isle q_s_fresh q_s_then q_s_was q_s_tape q_s_isKept q_s_kept q_s_trace s_thrown s_status s_lane s_many s_item s_isle s_fresh s_then s_was_h11 s_acts s_tape s_taped s_cursor s_start s_token s_value s_fault s_faultAt s_latest s_isKept s_kept s_trace s_traced)) → va_S A s.heap H locs → lv_has ls 2 [(0, .ref q_s), (1, .int v1_h11)] → fX9_keep_L11 k11_39 n v1_h11 s_was_h11 = some res → W p l e (headSpec wsX9_keep rmX9_keep).room s m ([.ref q_s] : List Value).toArray below meth c H locs 0 0 QQ (F0 m 11 ls []) := by
      intro k11_39 Kk11_39 n
      induction n with
      | zero => intro v1_h11 s_was_h11 H locs ls hP hD hS hl h; rw [fX9_keep_L11.eq_1] at h; cases h
      | succ n ih =>
        intro v1_h11 s_was_h11 H locs ls hP hD hS hl h
        rw [fX9_keep_L11.eq_2] at h
        refine lv_iload_n hx hb dX9_keep_11 rfl (lv_at hl 1 rfl) ?_
        refine lv_sipush (v := 1173) hx hb dX9_keep_12 (by decide) ?_
        refine lv_icmp_ge (tgt := 39) hx hb dX9_keep_15 (by decide) (fun c_5 => ?_) (fun c_5 => ?_)
        · have h := (if_pos c_5).symm.trans h
          exact Kk11_39 s_was_h11 _ _ _ hP hD hS (lv_sub hl [0] rfl) h
        · have h := (if_neg c_5).symm.trans h
          refine lv_aload_n hx hb dX9_keep_18 rfl (lv_at hl 0 rfl) ?_
          refine va_get (D := (dC, dI)) (ci := 7) (v := .ref q_s_was) (C := RX9) (T := TX9) (N := 23) hx hb hts w_1 hown hK hP 0 rfl rfl 8 (by decide) w_2 (fun _ h9 => h9) rfl dX9_keep_19 ?_
          refine lv_iload_n hx hb dX9_keep_22 rfl (lv_at hl 1 rfl) ?_
          refine lv_aload_n hx hb dX9_keep_23 rfl (lv_at hl 0 rfl) ?_
          refine va_get (D := (dC, dI)) (ci := 7) (v := .ref q_s_was) (C := RX9) (T := TX9) (N := 23) hx hb hts w_1 hown hK hP 0 rfl rfl 8 (by decide) w_2 (fun _ h9 => h9) rfl dX9_keep_24 ?_
          refine lv_iload_n hx hb dX9_keep_27 rfl (lv_at hl 1 rfl) ?_
          refine lv_bipush (v := 51) hx hb dX9_keep_28 (by decide) ?_
          refine lv_iadd hx hb dX9_keep_30 ?_
          obtain ⟨b_6, h⟩ := chk_of h
          refine va_iald hx hb hK hP 7 0 rfl rfl (i := (v1_h11 + 51)) b_6 dX9_keep_31 ?_
          obtain ⟨b_7, h⟩ := chk_of h
          refine va_iast hx hb hK hP hD hS 7 0 rfl rfl (i := v1_h11) (x := (s_was_h11 (v1_h11 + 51).toNatClampNeg)) b_7 dX9_keep_32 (fun H locs hP hD hS => ?_)
          have hP : va_P (dC, dI) vwCl ((W_M cI cZ q_s q_s_lane q_s_many q_s_item q_s_isle q_s_fresh q_s_then q_s_was q_s_tape q_s_isKept q_s_kept q_s_trace s_thrown s_status s_lane s_many s_item s_isle s_fresh s_then (upd s_was_h11 v1_h11.toNatClampNeg (s_was_h11 (v1_h11 + 51).toNatClampNeg)) s_acts s_tape s_taped s_cursor s_start s_token s_value s_fault s_faultAt s_latest s_isKept s_kept s_trace s_traced)) H := hP
          have hD : va_D A ((W_M cI cZ q_s q_s_lane q_s_many q_s_item q_s_isle q_s_fresh q_s_then q_s_was q_s_tape q_s_isKept q_s_kept q_s_trace s_thrown s_status s_lane s_many s_item s_isle s_fresh s_then (upd s_was_h11 v1_h11.toNatClampNeg (s_was_h11 (v1_h11 + 51).toNatClampNeg)) s_acts s_tape s_taped s_cursor s_start s_token s_value s_fault s_faultAt s_latest s_isKept s_kept s_trace s_traced)) := hD
          refine lv_iinc (v := (v1_h11 + 1)) (lv' := [(1, .int (v1_h11 + 1)), (0, .ref q_s)]) hx hb dX9_keep_33 hl (k := 1) rfl rfl (by decide) rfl (fun ls hl => ?_)
          refine lv_goto (tgt := 11) hx hb dX9_keep_36 (by decide) ?_
          exact ih (v1_h11 + 1) (upd s_was_h11 v1_h11.toNatClampNeg (s_was_h11 (v1_h11 + 51).toNatClampNeg)) _ _ _ hP hD hS (lv_sub hl [1, 0] rfl) h
    refine KL11 _ (fun s_was_e39 H locs ls hP hD hS hl h => ?_) FU 0 s_was _ _ _ hP hD hS (lv_sub hl [1, 0] rfl) h
    refine lv_aload_n hx hb dX9_keep_39 rfl (lv_at hl 0 rfl) ?_
    refine lv_dup hx hb dX9_keep_40 rfl ?_
    refine va_get (D := (dC, dI)) (ci := 7) (v := .int s_acts) (C := RX9) (T := TX9) (N := 23) hx hb hts w_1 hown hK hP 0 rfl rfl 9 (by decide) w_0 (fun _ h9 => h9) rfl dX9_keep_41 ?_
    refine lv_iconst (v := 1) hx hb dX9_keep_44 (by decide) ?_
    refine lv_isub hx hb dX9_keep_45 ?_
    refine va_put (D := (dC, dI)) (ci := 7) (v := .int (s_acts - 1)) (ty := .int) (C := RX9) (T := TX9) (N := 23) hx hb hts w_1 tyX9 tyX9_ok nmX9 hown hK hP hD hS 0 rfl rfl 9 (by decide) w_0 (fun _ h9 => h9) rfl (by decide +kernel) rfl rfl (Nat.le_of_ble_eq_true rfl) dX9_keep_46 (fun H locs hP hD hS => ?_)
    have hP : va_P (dC, dI) vwCl ((W_M cI cZ q_s q_s_lane q_s_many q_s_item q_s_isle q_s_fresh q_s_then q_s_was q_s_tape q_s_isKept q_s_kept q_s_trace s_thrown s_status s_lane s_many s_item s_isle s_fresh s_then s_was_e39 (s_acts - 1) s_tape s_taped s_cursor s_start s_token s_value s_fault s_faultAt s_latest s_isKept s_kept s_trace s_traced)) H := hP
    have hD : va_D A ((W_M cI cZ q_s q_s_lane q_s_many q_s_item q_s_isle q_s_fresh q_s_then q_s_was q_s_tape q_s_isKept q_s_kept q_s_trace s_thrown s_status s_lane s_many s_item s_isle s_fresh s_then s_was_e39 (s_acts - 1) s_tape s_taped s_cursor s_start s_token s_value s_fault s_faultAt s_latest s_isKept s_kept s_trace s_traced)) := hD
    exact KJ49 s_was_e39 (s_acts - 1) _ _ _ hP hD hS (lv_sub hl [0] rfl) h
def fX9_hours_L49 (v1 : Int32) (k49_71 : (Nat → Int32) → (Nat → Int32) → Int32 → Option (Int32 × Int32 × (Nat → Int32) × (Nat → Int32) × Int32)) : Nat → Int32 → (Nat → Int32) → (Nat → Int32) → Int32 → Option (Int32 × Int32 × (Nat → Int32) × (Nat → Int32) × Int32)
  | 0, _, _, _, _ => none
  | n + 1, v2_h49, s_isle_h49, s_was_h49, s_acts_h49 => (if v1 ≤ v2_h49 then (k49_71 s_isle_h49 s_was_h49 s_acts_h49) else bd2 (fX9_keep s_isle_h49 s_was_h49 s_acts_h49) (fun s_was_7 s_acts_7 => bd1 (fX9_hour s_isle_h49) (fun s_isle_8 => ((fX9_hours_L49 v1 k49_71 n) (v2_h49 + 1) s_isle_8 s_was_7 s_acts_7))))
def fX9_hours (s_isle : (Nat → Int32)) (s_was : (Nat → Int32)) (s_acts : Int32) (v1 : Int32) : Option (Int32 × Int32 × (Nat → Int32) × (Nat → Int32) × Int32) :=
  bd1 (fX9_isThere s_isle) (fun r_1 => (if r_1 = 0 then some ((-1000002), 0, s_isle, s_was, s_acts) else bd1 (fX9_in v1.toInt64 1 24) (fun r_3 => (if r_3 = 0 then some ((-1000001), 0, s_isle, s_was, s_acts) else (if ((s_isle (5 : Int32).toNatClampNeg) + v1) ≤ 999 then (fX9_hours_L49 v1 (fun s_isle_e71 s_was_e71 s_acts_e71 => bd1 (fX9_heldOf s_isle_e71) (fun r_9 => some (r_9, 0, s_isle_e71, s_was_e71, s_acts_e71))) FU 0 s_isle s_was s_acts) else some ((-1000003), 0, s_isle, s_was, s_acts))))))
abbrev rmX9_hours : Room := { frames := 5, cells := 0, slots := 0, locals := 109 }
theorem ddX9_hours : yX9_hours.cls ≠ "java/lang/invoke/MethodHandle" ∧ yX9_hours.cls ≠ "java/lang/invoke/VarHandle" ∧ (parseMethodDescriptor yX9_hours.desc).map (fun d => d.parameters.length) = some 1 := by decide +kernel
set_option maxHeartbeats 4000000 in
set_option maxRecDepth 100000 in
theorem m_X9_hours (l : Launch) (dC : Nat → ClassId) (dI : Nat → Nat → Nat) (cI cZ : ClassId) (q_s q_s_lane q_s_many q_s_item q_s_isle q_s_fresh q_s_then q_s_was q_s_tape q_s_isKept q_s_kept q_s_trace : Nat) (s_thrown : Int32) (s_status : Int32) (s_lane : (Nat → Int32)) (s_many : (Nat → Int32)) (s_item : (Nat → Int32)) (s_isle : (Nat → Int32)) (s_fresh : (Nat → Int32)) (s_then : (Nat → Int32)) (s_was : (Nat → Int32)) (s_acts : Int32) (s_tape : (Nat → Int32)) (s_taped : Int32) (s_cursor : Int32) (s_start : Int32) (s_token : Int32) (s_value : Int32) (s_fault : Int32) (s_faultAt : Int32) (s_latest : Int32) (s_isKept : (Nat → Int32)) (s_kept : (Nat → Int32)) (s_trace : (Nat → Int32)) (s_traced : Int32) (v1 : Int32) (sz : Nat) (res : Int32 × Int32 × (Nat → Int32) × (Nat → Int32) × Int32) (hf : fX9_hours s_isle s_was s_acts v1 = some res) : Met l yX9_hours wsX9_hours rmX9_hours (mtPc (dC, dI) (tyZ cI cZ) ((W_M cI cZ q_s q_s_lane q_s_many q_s_item q_s_isle q_s_fresh q_s_then q_s_was q_s_tape q_s_isKept q_s_kept q_s_trace s_thrown s_status s_lane s_many s_item s_isle s_fresh s_then s_was s_acts s_tape s_taped s_cursor s_start s_token s_value s_fault s_faultAt s_latest s_isKept s_kept s_trace s_traced)) [.ref q_s, .int v1] sz) (mtQi (dC, dI) (tyZ cI cZ) ((W_M cI cZ q_s q_s_lane q_s_many q_s_item q_s_isle q_s_fresh q_s_then q_s_was q_s_tape q_s_isKept q_s_kept q_s_trace s_thrown s_status s_lane s_many s_item s_isle s_fresh s_then s_was s_acts s_tape s_taped s_cursor s_start s_token s_value s_fault s_faultAt s_latest s_isKept s_kept s_trace s_traced)) ((W_M cI cZ q_s q_s_lane q_s_many q_s_item q_s_isle q_s_fresh q_s_then q_s_was q_s_tape q_s_isKept q_s_kept q_s_trace res.2.1 s_status s_lane s_many s_item res.2.2.1 s_fresh s_then res.2.2.2.1 res.2.2.2.2 s_tape s_taped s_cursor s_start s_token s_value s_fault s_faultAt s_latest s_isKept s_kept s_trace s_traced)) res.1 sz) 0 0 (va_A ((W_M cI cZ q_s q_s_lane q_s_many q_s_item q_s_isle q_s_fresh q_s_then q_s_was q_s_tape q_s_isKept q_s_kept q_s_trace s_thrown s_status s_lane s_many s_item s_isle s_fresh s_then s_was s_acts s_tape s_taped s_cursor s_start s_token s_value s_fault s_faultAt s_latest s_isKept s_kept s_trace s_traced)) sz) := by
  refine Met.ofW (cc := cX9_hours) (maxL := 3) (ret := (some .int)) (by decide) rfl ?_
  intro p e s m args below meth c s₁ B hml hv
  obtain ⟨rfl, hsz, hP, hK, hD0⟩ := hv
  have hx := B.exec
  have hb := B.bytes
  have hr := B.returns
  have hts := atoms_spec (ws := wsX9_hours) B.pre
  have hown : s.vm.findClass RX9 = some m.cls := findClass_of_methodNamed B.named
  have hlocks := B.notSynchronized
  subst hsz
  have hD := hD0.self (sz := s.heap.size)
  obtain ⟨A, hAe⟩ : ∃ A, A = va_A ((W_M cI cZ q_s q_s_lane q_s_many q_s_item q_s_isle q_s_fresh q_s_then q_s_was q_s_tape q_s_isKept q_s_kept q_s_trace s_thrown s_status s_lane s_many s_item s_isle s_fresh s_then s_was s_acts s_tape s_taped s_cursor s_start s_token s_value s_fault s_faultAt s_latest s_isKept s_kept s_trace s_traced)) s.heap.size := ⟨_, rfl⟩
  rw [← hAe] at hD
  have hA : ∀ q : Nat, s.heap.size ≤ q → A q := fun q h => by rw [hAe]; exact Or.inr h
  have hS : va_S A s.heap s.heap [] := va_S.rf
  have hl := lv_entry ([.ref q_s, .int v1]) (n := 3) (Nat.le_of_ble_eq_true rfl)
  rw [lg_entry_eq]
  generalize (lg_sl ([.ref q_s, .int v1]) ++ List.replicate (3 - (lg_sl ([.ref q_s, .int v1])).length) Slot.unset).toArray = ls at hl ⊢
  have hl : lv_has ls 3 [(0, .ref q_s), (1, .int v1)] := hl
  obtain ⟨QQ, hQQ⟩ : ∃ Q, Q = MQ below (mtQi (dC, dI) (tyZ cI cZ) ((W_M cI cZ q_s q_s_lane q_s_many q_s_item q_s_isle q_s_fresh q_s_then q_s_was q_s_tape q_s_isKept q_s_kept q_s_trace s_thrown s_status s_lane s_many s_item s_isle s_fresh s_then s_was s_acts s_tape s_taped s_cursor s_start s_token s_value s_fault s_faultAt s_latest s_isKept s_kept s_trace s_traced)) ((W_M cI cZ q_s q_s_lane q_s_many q_s_item q_s_isle q_s_fresh q_s_then q_s_was q_s_tape q_s_isKept q_s_kept q_s_trace res.2.1 s_status s_lane s_many s_item res.2.2.1 s_fresh s_then res.2.2.2.1 res.2.2.2.2 s_tape s_taped s_cursor s_start s_token s_value s_fault s_faultAt s_latest s_isKept s_kept s_trace s_traced)) res.1 s.heap.size) ([.ref q_s, .int v1] : List Value).toArray s 0 0 (va_A ((W_M cI cZ q_s q_s_lane q_s_many q_s_item q_s_isle q_s_fresh q_s_then q_s_was q_s_tape q_s_isKept q_s_kept q_s_trace s_thrown s_status s_lane s_many s_item s_isle s_fresh s_then s_was s_acts s_tape s_taped s_cursor s_start s_token s_value s_fault s_faultAt s_latest s_isKept s_kept s_trace s_traced)) s.heap.size) := ⟨_, rfl⟩
  rw [← hQQ]
  have w_0 := hts (Cond.fieldLink RX9 44 "TideInchesModel" "thrown" "I") (List.mem_of_getElem? (i := 1) rfl)
  have w_1 := (fun w hw => List.mem_cons_of_mem _ (List.mem_append_right _ hw) : ∀ w ∈ wsX90, w ∈ wsX9_hours)
  have w_2 := hts (Cond.constantLong RX9 182 (24)) (List.mem_of_getElem? (i := 3) rfl)
  have w_3 := hts (Cond.fieldLink RX9 19 "TideInchesModel" "isle" "[I") (List.mem_of_getElem? (i := 5) rfl)
  have w_4 := hts (Cond.constant RX9 74 (-1000003)) (List.mem_of_getElem? (i := 6) rfl)
  have w_5 := hts (Cond.constant RX9 64 (-1000001)) (List.mem_of_getElem? (i := 4) rfl)
  have w_6 := hts (Cond.constant RX9 181 (-1000002)) (List.mem_of_getElem? (i := 2) rfl)
  have h := hf
  unfold fX9_hours at h
  refine lv_aload_n hx hb dX9_hours_0 rfl (lv_at hl 0 rfl) ?_
  refine lv_iconst (v := 0) hx hb dX9_hours_1 (by decide) ?_
  refine va_put (D := (dC, dI)) (ci := 7) (v := .int 0) (ty := .int) (C := RX9) (T := TX9) (N := 23) hx hb hts w_1 tyX9 tyX9_ok nmX9 hown hK hP hD hS 0 rfl rfl 0 (by decide) w_0 (fun _ h9 => h9) rfl (by decide +kernel) rfl rfl (Nat.le_of_ble_eq_true rfl) dX9_hours_2 (fun H locs hP hD hS => ?_)
  have hP : va_P (dC, dI) vwCl ((W_M cI cZ q_s q_s_lane q_s_many q_s_item q_s_isle q_s_fresh q_s_then q_s_was q_s_tape q_s_isKept q_s_kept q_s_trace 0 s_status s_lane s_many s_item s_isle s_fresh s_then s_was s_acts s_tape s_taped s_cursor s_start s_token s_value s_fault s_faultAt s_latest s_isKept s_kept s_trace s_traced)) H := hP
  have hD : va_D A ((W_M cI cZ q_s q_s_lane q_s_many q_s_item q_s_isle q_s_fresh q_s_then q_s_was q_s_tape q_s_isKept q_s_kept q_s_trace 0 s_status s_lane s_many s_item s_isle s_fresh s_then s_was s_acts s_tape s_taped s_cursor s_start s_token s_value s_fault s_faultAt s_latest s_isKept s_kept s_trace s_traced)) := hD
  refine lv_aload_n hx hb dX9_hours_5 rfl (lv_at hl 0 rfl) ?_
  obtain ⟨r_1, hc_1, h⟩ := bd1_of h
  refine cl_rV (As := []) (rest := []) ⟨hx, hb, hml, hown, hts⟩ (m_X9_isThere l dC dI cI cZ q_s q_s_lane q_s_many q_s_item q_s_isle q_s_fresh q_s_then q_s_was q_s_tape q_s_isKept q_s_kept q_s_trace 0 s_status s_lane s_many s_item s_isle s_fresh s_then s_was s_acts s_tape s_taped s_cursor s_start s_token s_value s_fault s_faultAt s_latest s_isKept s_kept s_trace s_traced (r_1) hc_1) (cwV 0 hts gX9_hours_X9_isThere rfl rfl rfl ⟨rfl, ddX9_isThere⟩ ⟨Nat.le_of_ble_eq_true rfl, Nat.le_of_ble_eq_true rfl⟩) hK hP [0, 1, 2, 3, 4, 5, 6, 7, 8, 9, 10, 11] rfl rfl rfl rfl rfl hl.1 (Nat.le_of_ble_eq_true rfl) ⟨Nat.zero_le _, Nat.zero_le _⟩ dX9_hours_6 ?_
  refine lv_if_ne (tgt := 15) hx hb dX9_hours_9 (by decide) (fun c_2 => ?_) (fun c_2 => ?_)
  · have h := (if_neg c_2).symm.trans h
    refine lv_iload_n hx hb dX9_hours_15 rfl (lv_at hl 1 rfl) ?_
    refine lv_i2l hx hb dX9_hours_16 rfl ?_
    refine lv_lconst (v := 1) hx hb dX9_hours_17 (by decide) ?_
    refine lv_ldc2 hx hb hown w_2 dX9_hours_18 ?_
    obtain ⟨r_3, hc_3, h⟩ := bd1_of h
    refine cl_pS (As := [.long v1.toInt64, .long 1, .long 24]) (rest := []) ⟨hx, hb, hml, hown, hts⟩ (m_X9_in l v1.toInt64 1 24 (r_3) hc_3) (va_cwS 3 hts gX9_hours_X9_in rfl rfl rfl ddX9_in ⟨Nat.le_of_ble_eq_true rfl, Nat.le_of_ble_eq_true rfl⟩) rfl rfl hl.1 (Nat.le_of_ble_eq_true rfl) ⟨Nat.zero_le _, Nat.zero_le _⟩ dX9_hours_21 ?_
    refine lv_if_ne (tgt := 30) hx hb dX9_hours_24 (by decide) (fun c_4 => ?_) (fun c_4 => ?_)
    · have h := (if_neg c_4).symm.trans h
      refine lv_aload_n hx hb dX9_hours_30 rfl (lv_at hl 0 rfl) ?_
      refine va_get (D := (dC, dI)) (ci := 7) (v := .ref q_s_isle) (C := RX9) (T := TX9) (N := 23) hx hb hts w_1 hown hK hP 0 rfl rfl 5 (by decide) w_3 (fun _ h9 => h9) rfl dX9_hours_31 ?_
      refine lv_iconst (v := 5) hx hb dX9_hours_34 (by decide) ?_
      refine va_iald hx hb hK hP 4 0 rfl rfl (i := 5) (show ¬ ((5 : Int32) < 0 ∨ 51 ≤ (5 : Int32).toNatClampNeg) by decide +kernel) dX9_hours_35 ?_
      refine lv_iload_n hx hb dX9_hours_36 rfl (lv_at hl 1 rfl) ?_
      refine lv_iadd hx hb dX9_hours_37 ?_
      refine lv_sipush (v := 999) hx hb dX9_hours_38 (by decide) ?_
      refine lv_icmp_le (tgt := 47) hx hb dX9_hours_41 (by decide) (fun c_5 => ?_) (fun c_5 => ?_)
      · have h := (if_pos c_5).symm.trans h
        refine lv_iconst (v := 0) hx hb dX9_hours_47 (by decide) ?_
        refine lv_istore_n (lv' := [(2, .int 0), (0, .ref q_s), (1, .int v1)]) hx hb dX9_hours_48 rfl hl (by decide) rfl (fun ls hl => ?_)
        have KL49 : ∀ (k49_71 : (Nat → Int32) → (Nat → Int32) → Int32 → Option (Int32 × Int32 × (Nat → Int32) × (Nat → Int32) × Int32)) , (∀ (s_isle_e71 : (Nat → Int32)) (s_was_e71 : (Nat → Int32)) (s_acts_e71 : Int32) (H : Heap) (locs : List Loc) (ls : Array Slot), va_P (dC, dI) vwCl ((W_M cI cZ q_s q_s_lane q_s_many q_s_item q_s_isle q_s_fresh q_s_then q_s_was q_s_tape q_s_isKept q_s_kept q_s_trace 0 s_status s_lane s_many s_item s_isle_e71 s_fresh s_then s_was_e71 s_acts_e71 s_tape s_taped s_cursor s_start s_token s_value s_fault s_faultAt s_latest s_isKept s_kept s_trace s_traced)) H → va_D A ((W_M cI cZ q_s q_s_lane q_s_many q_s_item q_s_isle q_s_fresh q_s_then q_s_was q_s_tape q_s_isKept q_s_kept q_s_trace 0 s_status s_lane s_many s_item s_isle_e71 s_fresh s_then s_was_e71 s_acts_e71 s_tape s_taped s_cursor s_start s_token s_value s_fault s_faultAt s_latest s_isKept s_kept s_trace s_traced)) → va_S A s.heap H locs → lv_has ls 3 [(0, .ref q_s)] → k49_71 s_isle_e71 s_was_e71 s_acts_e71 = some res → W p l e (headSpec wsX9_hours rmX9_hours).room s m ([.ref q_s, .int v1] : List Value).toArray below meth c H locs 0 0 QQ (F0 m 71 ls [])) → ∀ (n : Nat) (v2_h49 : Int32) (s_isle_h49 : (Nat → Int32)) (s_was_h49 : (Nat → Int32)) (s_acts_h49 : Int32) (H : Heap) (locs : List Loc) (ls : Array Slot), va_P (dC, dI) vwCl ((W_M cI cZ q_s q_s_lane q_s_many q_s_item q_s_isle q_s_fresh q_s_then q_s_was q_s_tape q_s_isKept q_s_kept q_s_trace 0 s_status s_lane s_many s_item s_isle_h49 s_fresh s_then s_was_h49 s_acts_h49 s_tape s_taped s_cursor s_start s_token s_value s_fault s_faultAt s_latest s_isKept s_kept s_trace s_traced)) H → va_D A ((W_M cI cZ q_s q_s_lane q_s_many q_s_item q_s_isle q_s_fresh q_s_then q_s_was q_s_tape q_s_isKept q_s_kept q_s_trace 0 s_status s_lane s_many s_item s_isle_h49 s_fresh s_then s_was_h49 s_acts_h49 s_tape s_taped s_cursor s_start s_token s_value s_fault s_faultAt s_latest s_isKept s_kept s_trace s_traced)) → va_S A s.heap H locs → lv_has ls 3 [(0, .ref q_s), (1, .int v1), (2, .int v2_h49)] → fX9_hours_L49 v1 k49_71 n v2_h49 s_isle_h49 s_was_h49 s_acts_h49 = some res → W p l e (headSpec wsX9_hours rmX9_hours).room s m ([.ref q_s, .int v1] : List Value).toArray below meth c H locs 0 0 QQ (F0 m 49 ls []) := by
          intro k49_71 Kk49_71 n
          induction n with
          | zero => intro v2_h49 s_isle_h49 s_was_h49 s_acts_h49 H locs ls hP hD hS hl h; rw [fX9_hours_L49.eq_1] at h; cases h
          | succ n ih =>
            intro v2_h49 s_isle_h49 s_was_h49 s_acts_h49 H locs ls hP hD hS hl h
            rw [fX9_hours_L49.eq_2] at h
            refine lv_iload_n hx hb dX9_hours_49 rfl (lv_at hl 2 rfl) ?_
            refine lv_iload_n hx hb dX9_hours_50 rfl (lv_at hl 1 rfl) ?_
            refine lv_icmp_ge (tgt := 71) hx hb dX9_hours_51 (by decide) (fun c_6 => ?_) (fun c_6 => ?_)
            · have h := (if_pos c_6).symm.trans h
              exact Kk49_71 s_isle_h49 s_was_h49 s_acts_h49 _ _ _ hP hD hS (lv_sub hl [0] rfl) h
            · have h := (if_neg c_6).symm.trans h
              refine lv_aload_n hx hb dX9_hours_54 rfl (lv_at hl 0 rfl) ?_
              obtain ⟨s_was_7, s_acts_7, hc_7, h⟩ := bd2_of h
              refine cl_mVv (As := []) (rest := []) (ws' := (W_M cI cZ q_s q_s_lane q_s_many q_s_item q_s_isle q_s_fresh q_s_then q_s_was q_s_tape q_s_isKept q_s_kept q_s_trace 0 s_status s_lane s_many s_item s_isle_h49 s_fresh s_then s_was_7 s_acts_7 s_tape s_taped s_cursor s_start s_token s_value s_fault s_faultAt s_latest s_isKept s_kept s_trace s_traced)) (wr := []) ⟨hx, hb, hml, hown, hts⟩ (m_X9_keep l dC dI cI cZ q_s q_s_lane q_s_many q_s_item q_s_isle q_s_fresh q_s_then q_s_was q_s_tape q_s_isKept q_s_kept q_s_trace 0 s_status s_lane s_many s_item s_isle_h49 s_fresh s_then s_was_h49 s_acts_h49 s_tape s_taped s_cursor s_start s_token s_value s_fault s_faultAt s_latest s_isKept s_kept s_trace s_traced _ (s_was_7, s_acts_7) hc_7) (cwV 0 hts gX9_hours_X9_keep rfl rfl rfl ⟨rfl, ddX9_keep⟩ ⟨Nat.le_of_ble_eq_true rfl, Nat.le_of_ble_eq_true rfl⟩) hK hP hD hS hA [0, 1, 2, 3, 4, 5, 6, 7, 8, 9, 10, 11] [] rfl rfl rfl rfl (by decide) [0, 1, 2, 3, 4, 5, 6, 7, 8, 9, 10, 11] rfl rfl rfl rfl rfl rfl rfl hl.1 (Nat.le_of_ble_eq_true rfl) ⟨Nat.zero_le _, Nat.zero_le _⟩ dX9_hours_55 (fun H locs hP hD hS => ?_)
              refine lv_aload_n hx hb dX9_hours_58 rfl (lv_at hl 0 rfl) ?_
              refine va_get (D := (dC, dI)) (ci := 7) (v := .ref q_s_isle) (C := RX9) (T := TX9) (N := 23) hx hb hts w_1 hown hK hP 0 rfl rfl 5 (by decide) w_3 (fun _ h9 => h9) rfl dX9_hours_59 ?_
              obtain ⟨s_isle_8, hc_8, h⟩ := bd1_of h
              refine cl_mSv (As := [.ref q_s_isle]) (rest := []) (ws' := (W_M cI cZ q_s q_s_lane q_s_many q_s_item q_s_isle q_s_fresh q_s_then q_s_was q_s_tape q_s_isKept q_s_kept q_s_trace 0 s_status s_lane s_many s_item s_isle_8 s_fresh s_then s_was_7 s_acts_7 s_tape s_taped s_cursor s_start s_token s_value s_fault s_faultAt s_latest s_isKept s_kept s_trace s_traced)) (wr := [(q_s, .inr (7, [.int 0, .int s_status, .ref q_s_lane, .ref q_s_many, .ref q_s_item, .ref q_s_isle, .ref q_s_fresh, .ref q_s_then, .ref q_s_was, .int s_acts_7, .ref q_s_tape, .int s_taped, .int s_cursor, .int s_start, .int s_token, .int s_value, .int s_fault, .int s_faultAt, .int s_latest, .ref q_s_isKept, .ref q_s_kept, .ref q_s_trace, .int s_traced]))] ++ ([(q_s_lane, .inl (cI, 8, .inl s_lane))] ++ ([(q_s_many, .inl (cI, 8, .inl s_many))] ++ ([(q_s_item, .inl (cI, 320, .inl s_item))] ++ ([(q_s_fresh, .inl (cI, 51, .inl s_fresh))] ++ ([(q_s_then, .inl (cI, 51, .inl s_then))] ++ ([(q_s_was, .inl (cI, 1224, .inl s_was_7))] ++ ([(q_s_tape, .inl (cI, 100, .inl s_tape))] ++ ([(q_s_isKept, .inl (cZ, 2, .inl s_isKept))] ++ ([(q_s_kept, .inl (cI, 102, .inl s_kept))] ++ ([(q_s_trace, .inl (cI, 16, .inl s_trace))]))))))))))) ⟨hx, hb, hml, hown, hts⟩ (m_X9_hour l dC dI cI cZ q_s_isle s_isle_h49 _ (s_isle_8) hc_8) (va_cwS 1 hts gX9_hours_X9_hour rfl rfl rfl ddX9_hour ⟨Nat.le_of_ble_eq_true rfl, Nat.le_of_ble_eq_true rfl⟩) hK hP hD hS hA [4] [0, 1, 2, 3, 5, 6, 7, 8, 9, 10, 11] rfl rfl rfl rfl (by decide) [0, 1, 2, 3, 11, 4, 5, 6, 7, 8, 9, 10] rfl rfl rfl rfl rfl hl.1 (Nat.le_of_ble_eq_true rfl) ⟨Nat.zero_le _, Nat.zero_le _⟩ dX9_hours_62 (fun H locs hP hD hS => ?_)
              refine lv_iinc (v := (v2_h49 + 1)) (lv' := [(2, .int (v2_h49 + 1)), (0, .ref q_s), (1, .int v1)]) hx hb dX9_hours_65 hl (k := 2) rfl rfl (by decide) rfl (fun ls hl => ?_)
              refine lv_goto (tgt := 49) hx hb dX9_hours_68 (by decide) ?_
              exact ih (v2_h49 + 1) s_isle_8 s_was_7 s_acts_7 _ _ _ hP hD hS (lv_sub hl [1, 2, 0] rfl) h
        refine KL49 _ (fun s_isle_e71 s_was_e71 s_acts_e71 H locs ls hP hD hS hl h => ?_) FU 0 s_isle s_was s_acts _ _ _ hP hD hS (lv_sub hl [1, 2, 0] rfl) h
        refine lv_aload_n hx hb dX9_hours_71 rfl (lv_at hl 0 rfl) ?_
        refine va_get (D := (dC, dI)) (ci := 7) (v := .ref q_s_isle) (C := RX9) (T := TX9) (N := 23) hx hb hts w_1 hown hK hP 0 rfl rfl 5 (by decide) w_3 (fun _ h9 => h9) rfl dX9_hours_72 ?_
        obtain ⟨r_9, hc_9, h⟩ := bd1_of h
        refine cl_rS (As := [.ref q_s_isle]) (rest := []) ⟨hx, hb, hml, hown, hts⟩ (m_X9_heldOf l dC dI cI cZ q_s_isle s_isle_e71 (r_9) hc_9) (va_cwS 1 hts gX9_hours_X9_heldOf rfl rfl rfl ddX9_heldOf ⟨Nat.le_of_ble_eq_true rfl, Nat.le_of_ble_eq_true rfl⟩) hK hP [4] rfl rfl rfl hl.1 (Nat.le_of_ble_eq_true rfl) ⟨Nat.zero_le _, Nat.zero_le _⟩ dX9_hours_75 ?_
        have h := Option.some.inj h
        subst h
        rw [hQQ]
        subst hAe
        exact W.iret (v := r_9) hx hb hr (fun t ht hW => ⟨⟨_, (), rfl, rfl, by rw [ht]; exact hP, va_K.moved hW.alike hK, hD⟩, hS.F ht⟩) hS.2.2 dX9_hours_78
      · have h := (if_neg c_5).symm.trans h
        refine lv_ldc hx hb hown w_4 dX9_hours_44 ?_
        have h := Option.some.inj h
        subst h
        rw [hQQ]
        subst hAe
        exact W.iret (v := (-1000003)) hx hb hr (fun t ht hW => ⟨⟨_, (), rfl, rfl, by rw [ht]; exact hP, va_K.moved hW.alike hK, hD⟩, hS.F ht⟩) hS.2.2 dX9_hours_46
    · have h := (if_pos c_4).symm.trans h
      refine lv_ldc hx hb hown w_5 dX9_hours_27 ?_
      have h := Option.some.inj h
      subst h
      rw [hQQ]
      subst hAe
      exact W.iret (v := (-1000001)) hx hb hr (fun t ht hW => ⟨⟨_, (), rfl, rfl, by rw [ht]; exact hP, va_K.moved hW.alike hK, hD⟩, hS.F ht⟩) hS.2.2 dX9_hours_29
  · have h := (if_pos c_2).symm.trans h
    refine lv_ldc hx hb hown w_6 dX9_hours_12 ?_
    have h := Option.some.inj h
    subst h
    rw [hQQ]
    subst hAe
    exact W.iret (v := (-1000002)) hx hb hr (fun t ht hW => ⟨⟨_, (), rfl, rfl, by rw [ht]; exact hP, va_K.moved hW.alike hK, hD⟩, hS.F ht⟩) hS.2.2 dX9_hours_14
def fX9_bid (s_isle : (Nat → Int32)) (s_was : (Nat → Int32)) (s_acts : Int32) (v1 : Int32) (v2 : Int32) : Option (Int32 × Int32 × (Nat → Int32) × (Nat → Int32) × Int32) :=
  bd1 (fX9_isBidder s_isle v1) (fun r_1 => (if r_1 = 0 then some ((-1000001), 0, s_isle, s_was, s_acts) else bd1 (fX9_isCell v2) (fun r_3 => (if r_3 = 0 then some ((-1000001), 0, s_isle, s_was, s_acts) else bd1 (fX9_mayBid s_isle v1 v2) (fun r_5 => (if r_5 = 0 then some ((-1000002), 0, s_isle, s_was, s_acts) else bd1 (fX9_of s_isle v1 1) (fun r_7 => bd1 (fX9_of s_isle v1 0) (fun r_8 => bd1 (fX9_priceBy s_isle r_8 v2) (fun r_9 => (if r_9 ≤ r_7 then bd2 (fX9_keep s_isle s_was s_acts) (fun s_was_11 s_acts_11 => bd1 (fX9_buys s_isle v1 v2) (fun s_isle_12 => bd1 (fX9_of s_isle_12 v1 1) (fun r_13 => some (r_13, 0, s_isle_12, s_was_11, s_acts_11)))) else some ((-1000003), 0, s_isle, s_was, s_acts)))))))))))
abbrev rmX9_bid : Room := { frames := 4, cells := 0, slots := 0, locals := 87 }
theorem ddX9_bid : yX9_bid.cls ≠ "java/lang/invoke/MethodHandle" ∧ yX9_bid.cls ≠ "java/lang/invoke/VarHandle" ∧ (parseMethodDescriptor yX9_bid.desc).map (fun d => d.parameters.length) = some 2 := by decide +kernel
set_option maxHeartbeats 4000000 in
set_option maxRecDepth 100000 in
theorem m_X9_bid (l : Launch) (dC : Nat → ClassId) (dI : Nat → Nat → Nat) (cI cZ : ClassId) (q_s q_s_lane q_s_many q_s_item q_s_isle q_s_fresh q_s_then q_s_was q_s_tape q_s_isKept q_s_kept q_s_trace : Nat) (s_thrown : Int32) (s_status : Int32) (s_lane : (Nat → Int32)) (s_many : (Nat → Int32)) (s_item : (Nat → Int32)) (s_isle : (Nat → Int32)) (s_fresh : (Nat → Int32)) (s_then : (Nat → Int32)) (s_was : (Nat → Int32)) (s_acts : Int32) (s_tape : (Nat → Int32)) (s_taped : Int32) (s_cursor : Int32) (s_start : Int32) (s_token : Int32) (s_value : Int32) (s_fault : Int32) (s_faultAt : Int32) (s_latest : Int32) (s_isKept : (Nat → Int32)) (s_kept : (Nat → Int32)) (s_trace : (Nat → Int32)) (s_traced : Int32) (v1 : Int32) (v2 : Int32) (sz : Nat) (res : Int32 × Int32 × (Nat → Int32) × (Nat → Int32) × Int32) (hf : fX9_bid s_isle s_was s_acts v1 v2 = some res) : Met l yX9_bid wsX9_bid rmX9_bid (mtPc (dC, dI) (tyZ cI cZ) ((W_M cI cZ q_s q_s_lane q_s_many q_s_item q_s_isle q_s_fresh q_s_then q_s_was q_s_tape q_s_isKept q_s_kept q_s_trace s_thrown s_status s_lane s_many s_item s_isle s_fresh s_then s_was s_acts s_tape s_taped s_cursor s_start s_token s_value s_fault s_faultAt s_latest s_isKept s_kept s_trace s_traced)) [.ref q_s, .int v1, .int v2] sz) (mtQi (dC, dI) (tyZ cI cZ) ((W_M cI cZ q_s q_s_lane q_s_many q_s_item q_s_isle q_s_fresh q_s_then q_s_was q_s_tape q_s_isKept q_s_kept q_s_trace s_thrown s_status s_lane s_many s_item s_isle s_fresh s_then s_was s_acts s_tape s_taped s_cursor s_start s_token s_value s_fault s_faultAt s_latest s_isKept s_kept s_trace s_traced)) ((W_M cI cZ q_s q_s_lane q_s_many q_s_item q_s_isle q_s_fresh q_s_then q_s_was q_s_tape q_s_isKept q_s_kept q_s_trace res.2.1 s_status s_lane s_many s_item res.2.2.1 s_fresh s_then res.2.2.2.1 res.2.2.2.2 s_tape s_taped s_cursor s_start s_token s_value s_fault s_faultAt s_latest s_isKept s_kept s_trace s_traced)) res.1 sz) 0 0 (va_A ((W_M cI cZ q_s q_s_lane q_s_many q_s_item q_s_isle q_s_fresh q_s_then q_s_was q_s_tape q_s_isKept q_s_kept q_s_trace s_thrown s_status s_lane s_many s_item s_isle s_fresh s_then s_was s_acts s_tape s_taped s_cursor s_start s_token s_value s_fault s_faultAt s_latest s_isKept s_kept s_trace s_traced)) sz) := by
  refine Met.ofW (cc := cX9_bid) (maxL := 3) (ret := (some .int)) (by decide) rfl ?_
  intro p e s m args below meth c s₁ B hml hv
  obtain ⟨rfl, hsz, hP, hK, hD0⟩ := hv
  have hx := B.exec
  have hb := B.bytes
  have hr := B.returns
  have hts := atoms_spec (ws := wsX9_bid) B.pre
  have hown : s.vm.findClass RX9 = some m.cls := findClass_of_methodNamed B.named
  have hlocks := B.notSynchronized
  subst hsz
  have hD := hD0.self (sz := s.heap.size)
  obtain ⟨A, hAe⟩ : ∃ A, A = va_A ((W_M cI cZ q_s q_s_lane q_s_many q_s_item q_s_isle q_s_fresh q_s_then q_s_was q_s_tape q_s_isKept q_s_kept q_s_trace s_thrown s_status s_lane s_many s_item s_isle s_fresh s_then s_was s_acts s_tape s_taped s_cursor s_start s_token s_value s_fault s_faultAt s_latest s_isKept s_kept s_trace s_traced)) s.heap.size := ⟨_, rfl⟩
  rw [← hAe] at hD
  have hA : ∀ q : Nat, s.heap.size ≤ q → A q := fun q h => by rw [hAe]; exact Or.inr h
  have hS : va_S A s.heap s.heap [] := va_S.rf
  have hl := lv_entry ([.ref q_s, .int v1, .int v2]) (n := 3) (Nat.le_of_ble_eq_true rfl)
  rw [lg_entry_eq]
  generalize (lg_sl ([.ref q_s, .int v1, .int v2]) ++ List.replicate (3 - (lg_sl ([.ref q_s, .int v1, .int v2])).length) Slot.unset).toArray = ls at hl ⊢
  have hl : lv_has ls 3 [(0, .ref q_s), (1, .int v1), (2, .int v2)] := hl
  obtain ⟨QQ, hQQ⟩ : ∃ Q, Q = MQ below (mtQi (dC, dI) (tyZ cI cZ) ((W_M cI cZ q_s q_s_lane q_s_many q_s_item q_s_isle q_s_fresh q_s_then q_s_was q_s_tape q_s_isKept q_s_kept q_s_trace s_thrown s_status s_lane s_many s_item s_isle s_fresh s_then s_was s_acts s_tape s_taped s_cursor s_start s_token s_value s_fault s_faultAt s_latest s_isKept s_kept s_trace s_traced)) ((W_M cI cZ q_s q_s_lane q_s_many q_s_item q_s_isle q_s_fresh q_s_then q_s_was q_s_tape q_s_isKept q_s_kept q_s_trace res.2.1 s_status s_lane s_many s_item res.2.2.1 s_fresh s_then res.2.2.2.1 res.2.2.2.2 s_tape s_taped s_cursor s_start s_token s_value s_fault s_faultAt s_latest s_isKept s_kept s_trace s_traced)) res.1 s.heap.size) ([.ref q_s, .int v1, .int v2] : List Value).toArray s 0 0 (va_A ((W_M cI cZ q_s q_s_lane q_s_many q_s_item q_s_isle q_s_fresh q_s_then q_s_was q_s_tape q_s_isKept q_s_kept q_s_trace s_thrown s_status s_lane s_many s_item s_isle s_fresh s_then s_was s_acts s_tape s_taped s_cursor s_start s_token s_value s_fault s_faultAt s_latest s_isKept s_kept s_trace s_traced)) s.heap.size) := ⟨_, rfl⟩
  rw [← hQQ]
  have w_0 := hts (Cond.fieldLink RX9 44 "TideInchesModel" "thrown" "I") (List.mem_of_getElem? (i := 1) rfl)
  have w_1 := (fun w hw => List.mem_cons_of_mem _ (List.mem_append_right _ hw) : ∀ w ∈ wsX90, w ∈ wsX9_bid)
  have w_2 := hts (Cond.constant RX9 64 (-1000001)) (List.mem_of_getElem? (i := 2) rfl)
  have w_3 := hts (Cond.fieldLink RX9 19 "TideInchesModel" "isle" "[I") (List.mem_of_getElem? (i := 3) rfl)
  have w_4 := hts (Cond.constant RX9 74 (-1000003)) (List.mem_of_getElem? (i := 5) rfl)
  have w_5 := hts (Cond.constant RX9 181 (-1000002)) (List.mem_of_getElem? (i := 4) rfl)
  have h := hf
  unfold fX9_bid at h
  refine lv_aload_n hx hb dX9_bid_0 rfl (lv_at hl 0 rfl) ?_
  refine lv_iconst (v := 0) hx hb dX9_bid_1 (by decide) ?_
  refine va_put (D := (dC, dI)) (ci := 7) (v := .int 0) (ty := .int) (C := RX9) (T := TX9) (N := 23) hx hb hts w_1 tyX9 tyX9_ok nmX9 hown hK hP hD hS 0 rfl rfl 0 (by decide) w_0 (fun _ h9 => h9) rfl (by decide +kernel) rfl rfl (Nat.le_of_ble_eq_true rfl) dX9_bid_2 (fun H locs hP hD hS => ?_)
  have hP : va_P (dC, dI) vwCl ((W_M cI cZ q_s q_s_lane q_s_many q_s_item q_s_isle q_s_fresh q_s_then q_s_was q_s_tape q_s_isKept q_s_kept q_s_trace 0 s_status s_lane s_many s_item s_isle s_fresh s_then s_was s_acts s_tape s_taped s_cursor s_start s_token s_value s_fault s_faultAt s_latest s_isKept s_kept s_trace s_traced)) H := hP
  have hD : va_D A ((W_M cI cZ q_s q_s_lane q_s_many q_s_item q_s_isle q_s_fresh q_s_then q_s_was q_s_tape q_s_isKept q_s_kept q_s_trace 0 s_status s_lane s_many s_item s_isle s_fresh s_then s_was s_acts s_tape s_taped s_cursor s_start s_token s_value s_fault s_faultAt s_latest s_isKept s_kept s_trace s_traced)) := hD
  refine lv_aload_n hx hb dX9_bid_5 rfl (lv_at hl 0 rfl) ?_
  refine lv_iload_n hx hb dX9_bid_6 rfl (lv_at hl 1 rfl) ?_
  obtain ⟨r_1, hc_1, h⟩ := bd1_of h
  refine cl_rV (As := [.int v1]) (rest := []) ⟨hx, hb, hml, hown, hts⟩ (m_X9_isBidder l dC dI cI cZ q_s q_s_lane q_s_many q_s_item q_s_isle q_s_fresh q_s_then q_s_was q_s_tape q_s_isKept q_s_kept q_s_trace 0 s_status s_lane s_many s_item s_isle s_fresh s_then s_was s_acts s_tape s_taped s_cursor s_start s_token s_value s_fault s_faultAt s_latest s_isKept s_kept s_trace s_traced v1 (r_1) hc_1) (cwV 1 hts gX9_bid_X9_isBidder rfl rfl rfl ⟨rfl, ddX9_isBidder⟩ ⟨Nat.le_of_ble_eq_true rfl, Nat.le_of_ble_eq_true rfl⟩) hK hP [0, 1, 2, 3, 4, 5, 6, 7, 8, 9, 10, 11] rfl rfl rfl rfl rfl hl.1 (Nat.le_of_ble_eq_true rfl) ⟨Nat.zero_le _, Nat.zero_le _⟩ dX9_bid_7 ?_
  refine lv_if_eq (tgt := 20) hx hb dX9_bid_10 (by decide) (fun c_2 => ?_) (fun c_2 => ?_)
  · have h := (if_pos c_2).symm.trans h
    refine lv_ldc hx hb hown w_2 dX9_bid_20 ?_
    have h := Option.some.inj h
    subst h
    rw [hQQ]
    subst hAe
    exact W.iret (v := (-1000001)) hx hb hr (fun t ht hW => ⟨⟨_, (), rfl, rfl, by rw [ht]; exact hP, va_K.moved hW.alike hK, hD⟩, hS.F ht⟩) hS.2.2 dX9_bid_22
  · have h := (if_neg c_2).symm.trans h
    refine lv_iload_n hx hb dX9_bid_13 rfl (lv_at hl 2 rfl) ?_
    obtain ⟨r_3, hc_3, h⟩ := bd1_of h
    refine cl_pS (As := [.int v2]) (rest := []) ⟨hx, hb, hml, hown, hts⟩ (m_X9_isCell l v2 (r_3) hc_3) (va_cwS 1 hts gX9_bid_X9_isCell rfl rfl rfl ddX9_isCell ⟨Nat.le_of_ble_eq_true rfl, Nat.le_of_ble_eq_true rfl⟩) rfl rfl hl.1 (Nat.le_of_ble_eq_true rfl) ⟨Nat.zero_le _, Nat.zero_le _⟩ dX9_bid_14 ?_
    refine lv_if_ne (tgt := 23) hx hb dX9_bid_17 (by decide) (fun c_4 => ?_) (fun c_4 => ?_)
    · have h := (if_neg c_4).symm.trans h
      refine lv_aload_n hx hb dX9_bid_23 rfl (lv_at hl 0 rfl) ?_
      refine va_get (D := (dC, dI)) (ci := 7) (v := .ref q_s_isle) (C := RX9) (T := TX9) (N := 23) hx hb hts w_1 hown hK hP 0 rfl rfl 5 (by decide) w_3 (fun _ h9 => h9) rfl dX9_bid_24 ?_
      refine lv_iload_n hx hb dX9_bid_27 rfl (lv_at hl 1 rfl) ?_
      refine lv_iload_n hx hb dX9_bid_28 rfl (lv_at hl 2 rfl) ?_
      obtain ⟨r_5, hc_5, h⟩ := bd1_of h
      refine cl_rS (As := [.ref q_s_isle, .int v1, .int v2]) (rest := []) ⟨hx, hb, hml, hown, hts⟩ (m_X9_mayBid l dC dI cI cZ q_s_isle s_isle v1 v2 (r_5) hc_5) (va_cwS 3 hts gX9_bid_X9_mayBid rfl rfl rfl ddX9_mayBid ⟨Nat.le_of_ble_eq_true rfl, Nat.le_of_ble_eq_true rfl⟩) hK hP [4] rfl rfl rfl hl.1 (Nat.le_of_ble_eq_true rfl) ⟨Nat.zero_le _, Nat.zero_le _⟩ dX9_bid_29 ?_
      refine lv_if_ne (tgt := 38) hx hb dX9_bid_32 (by decide) (fun c_6 => ?_) (fun c_6 => ?_)
      · have h := (if_neg c_6).symm.trans h
        refine lv_aload_n hx hb dX9_bid_38 rfl (lv_at hl 0 rfl) ?_
        refine va_get (D := (dC, dI)) (ci := 7) (v := .ref q_s_isle) (C := RX9) (T := TX9) (N := 23) hx hb hts w_1 hown hK hP 0 rfl rfl 5 (by decide) w_3 (fun _ h9 => h9) rfl dX9_bid_39 ?_
        refine lv_iload_n hx hb dX9_bid_42 rfl (lv_at hl 1 rfl) ?_
        refine lv_iconst (v := 1) hx hb dX9_bid_43 (by decide) ?_
        obtain ⟨r_7, hc_7, h⟩ := bd1_of h
        refine cl_rS (As := [.ref q_s_isle, .int v1, .int 1]) (rest := []) ⟨hx, hb, hml, hown, hts⟩ (m_X9_of l dC dI cI cZ q_s_isle s_isle v1 1 (r_7) hc_7) (va_cwS 3 hts gX9_bid_X9_of rfl rfl rfl ddX9_of ⟨Nat.le_of_ble_eq_true rfl, Nat.le_of_ble_eq_true rfl⟩) hK hP [4] rfl rfl rfl hl.1 (Nat.le_of_ble_eq_true rfl) ⟨Nat.zero_le _, Nat.zero_le _⟩ dX9_bid_44 ?_
        refine lv_aload_n hx hb dX9_bid_47 rfl (lv_at hl 0 rfl) ?_
        refine va_get (D := (dC, dI)) (ci := 7) (v := .ref q_s_isle) (C := RX9) (T := TX9) (N := 23) hx hb hts w_1 hown hK hP 0 rfl rfl 5 (by decide) w_3 (fun _ h9 => h9) rfl dX9_bid_48 ?_
        refine lv_aload_n hx hb dX9_bid_51 rfl (lv_at hl 0 rfl) ?_
        refine va_get (D := (dC, dI)) (ci := 7) (v := .ref q_s_isle) (C := RX9) (T := TX9) (N := 23) hx hb hts w_1 hown hK hP 0 rfl rfl 5 (by decide) w_3 (fun _ h9 => h9) rfl dX9_bid_52 ?_
        refine lv_iload_n hx hb dX9_bid_55 rfl (lv_at hl 1 rfl) ?_
        refine lv_iconst (v := 0) hx hb dX9_bid_56 (by decide) ?_
        obtain ⟨r_8, hc_8, h⟩ := bd1_of h
        refine cl_rS (As := [.ref q_s_isle, .int v1, .int 0]) (rest := [.ref q_s_isle, .int r_7]) ⟨hx, hb, hml, hown, hts⟩ (m_X9_of l dC dI cI cZ q_s_isle s_isle v1 0 (r_8) hc_8) (va_cwS 3 hts gX9_bid_X9_of rfl rfl rfl ddX9_of ⟨Nat.le_of_ble_eq_true rfl, Nat.le_of_ble_eq_true rfl⟩) hK hP [4] rfl rfl rfl hl.1 (Nat.le_of_ble_eq_true rfl) ⟨Nat.zero_le _, Nat.zero_le _⟩ dX9_bid_57 ?_
        refine lv_iload_n hx hb dX9_bid_60 rfl (lv_at hl 2 rfl) ?_
        obtain ⟨r_9, hc_9, h⟩ := bd1_of h
        refine cl_rS (As := [.ref q_s_isle, .int r_8, .int v2]) (rest := [.int r_7]) ⟨hx, hb, hml, hown, hts⟩ (m_X9_priceBy l dC dI cI cZ q_s_isle s_isle r_8 v2 (r_9) hc_9) (va_cwS 3 hts gX9_bid_X9_priceBy rfl rfl rfl ddX9_priceBy ⟨Nat.le_of_ble_eq_true rfl, Nat.le_of_ble_eq_true rfl⟩) hK hP [4] rfl rfl rfl hl.1 (Nat.le_of_ble_eq_true rfl) ⟨Nat.zero_le _, Nat.zero_le _⟩ dX9_bid_61 ?_
        refine lv_icmp_ge (tgt := 70) hx hb dX9_bid_64 (by decide) (fun c_10 => ?_) (fun c_10 => ?_)
        · have h := (if_pos c_10).symm.trans h
          refine lv_aload_n hx hb dX9_bid_70 rfl (lv_at hl 0 rfl) ?_
          obtain ⟨s_was_11, s_acts_11, hc_11, h⟩ := bd2_of h
          refine cl_mVv (As := []) (rest := []) (ws' := (W_M cI cZ q_s q_s_lane q_s_many q_s_item q_s_isle q_s_fresh q_s_then q_s_was q_s_tape q_s_isKept q_s_kept q_s_trace 0 s_status s_lane s_many s_item s_isle s_fresh s_then s_was_11 s_acts_11 s_tape s_taped s_cursor s_start s_token s_value s_fault s_faultAt s_latest s_isKept s_kept s_trace s_traced)) (wr := []) ⟨hx, hb, hml, hown, hts⟩ (m_X9_keep l dC dI cI cZ q_s q_s_lane q_s_many q_s_item q_s_isle q_s_fresh q_s_then q_s_was q_s_tape q_s_isKept q_s_kept q_s_trace 0 s_status s_lane s_many s_item s_isle s_fresh s_then s_was s_acts s_tape s_taped s_cursor s_start s_token s_value s_fault s_faultAt s_latest s_isKept s_kept s_trace s_traced _ (s_was_11, s_acts_11) hc_11) (cwV 0 hts gX9_bid_X9_keep rfl rfl rfl ⟨rfl, ddX9_keep⟩ ⟨Nat.le_of_ble_eq_true rfl, Nat.le_of_ble_eq_true rfl⟩) hK hP hD hS hA [0, 1, 2, 3, 4, 5, 6, 7, 8, 9, 10, 11] [] rfl rfl rfl rfl (by decide) [0, 1, 2, 3, 4, 5, 6, 7, 8, 9, 10, 11] rfl rfl rfl rfl rfl rfl rfl hl.1 (Nat.le_of_ble_eq_true rfl) ⟨Nat.zero_le _, Nat.zero_le _⟩ dX9_bid_71 (fun H locs hP hD hS => ?_)
          refine lv_aload_n hx hb dX9_bid_74 rfl (lv_at hl 0 rfl) ?_
          refine va_get (D := (dC, dI)) (ci := 7) (v := .ref q_s_isle) (C := RX9) (T := TX9) (N := 23) hx hb hts w_1 hown hK hP 0 rfl rfl 5 (by decide) w_3 (fun _ h9 => h9) rfl dX9_bid_75 ?_
          refine lv_iload_n hx hb dX9_bid_78 rfl (lv_at hl 1 rfl) ?_
          refine lv_iload_n hx hb dX9_bid_79 rfl (lv_at hl 2 rfl) ?_
          obtain ⟨s_isle_12, hc_12, h⟩ := bd1_of h
          refine cl_mSv (As := [.ref q_s_isle, .int v1, .int v2]) (rest := []) (ws' := (W_M cI cZ q_s q_s_lane q_s_many q_s_item q_s_isle q_s_fresh q_s_then q_s_was q_s_tape q_s_isKept q_s_kept q_s_trace 0 s_status s_lane s_many s_item s_isle_12 s_fresh s_then s_was_11 s_acts_11 s_tape s_taped s_cursor s_start s_token s_value s_fault s_faultAt s_latest s_isKept s_kept s_trace s_traced)) (wr := [(q_s, .inr (7, [.int 0, .int s_status, .ref q_s_lane, .ref q_s_many, .ref q_s_item, .ref q_s_isle, .ref q_s_fresh, .ref q_s_then, .ref q_s_was, .int s_acts_11, .ref q_s_tape, .int s_taped, .int s_cursor, .int s_start, .int s_token, .int s_value, .int s_fault, .int s_faultAt, .int s_latest, .ref q_s_isKept, .ref q_s_kept, .ref q_s_trace, .int s_traced]))] ++ ([(q_s_lane, .inl (cI, 8, .inl s_lane))] ++ ([(q_s_many, .inl (cI, 8, .inl s_many))] ++ ([(q_s_item, .inl (cI, 320, .inl s_item))] ++ ([(q_s_fresh, .inl (cI, 51, .inl s_fresh))] ++ ([(q_s_then, .inl (cI, 51, .inl s_then))] ++ ([(q_s_was, .inl (cI, 1224, .inl s_was_11))] ++ ([(q_s_tape, .inl (cI, 100, .inl s_tape))] ++ ([(q_s_isKept, .inl (cZ, 2, .inl s_isKept))] ++ ([(q_s_kept, .inl (cI, 102, .inl s_kept))] ++ ([(q_s_trace, .inl (cI, 16, .inl s_trace))]))))))))))) ⟨hx, hb, hml, hown, hts⟩ (m_X9_buys l dC dI cI cZ q_s_isle s_isle v1 v2 _ (s_isle_12) hc_12) (va_cwS 3 hts gX9_bid_X9_buys rfl rfl rfl ddX9_buys ⟨Nat.le_of_ble_eq_true rfl, Nat.le_of_ble_eq_true rfl⟩) hK hP hD hS hA [4] [0, 1, 2, 3, 5, 6, 7, 8, 9, 10, 11] rfl rfl rfl rfl (by decide) [0, 1, 2, 3, 11, 4, 5, 6, 7, 8, 9, 10] rfl rfl rfl rfl rfl hl.1 (Nat.le_of_ble_eq_true rfl) ⟨Nat.zero_le _, Nat.zero_le _⟩ dX9_bid_80 (fun H locs hP hD hS => ?_)
          refine lv_aload_n hx hb dX9_bid_83 rfl (lv_at hl 0 rfl) ?_
          refine va_get (D := (dC, dI)) (ci := 7) (v := .ref q_s_isle) (C := RX9) (T := TX9) (N := 23) hx hb hts w_1 hown hK hP 0 rfl rfl 5 (by decide) w_3 (fun _ h9 => h9) rfl dX9_bid_84 ?_
          refine lv_iload_n hx hb dX9_bid_87 rfl (lv_at hl 1 rfl) ?_
          refine lv_iconst (v := 1) hx hb dX9_bid_88 (by decide) ?_
          obtain ⟨r_13, hc_13, h⟩ := bd1_of h
          refine cl_rS (As := [.ref q_s_isle, .int v1, .int 1]) (rest := []) ⟨hx, hb, hml, hown, hts⟩ (m_X9_of l dC dI cI cZ q_s_isle s_isle_12 v1 1 (r_13) hc_13) (va_cwS 3 hts gX9_bid_X9_of rfl rfl rfl ddX9_of ⟨Nat.le_of_ble_eq_true rfl, Nat.le_of_ble_eq_true rfl⟩) hK hP [4] rfl rfl rfl hl.1 (Nat.le_of_ble_eq_true rfl) ⟨Nat.zero_le _, Nat.zero_le _⟩ dX9_bid_89 ?_
          have h := Option.some.inj h
          subst h
          rw [hQQ]
          subst hAe
          exact W.iret (v := r_13) hx hb hr (fun t ht hW => ⟨⟨_, (), rfl, rfl, by rw [ht]; exact hP, va_K.moved hW.alike hK, hD⟩, hS.F ht⟩) hS.2.2 dX9_bid_92
        · have h := (if_neg c_10).symm.trans h
          refine lv_ldc hx hb hown w_4 dX9_bid_67 ?_
          have h := Option.some.inj h
          subst h
          rw [hQQ]
          subst hAe
          exact W.iret (v := (-1000003)) hx hb hr (fun t ht hW => ⟨⟨_, (), rfl, rfl, by rw [ht]; exact hP, va_K.moved hW.alike hK, hD⟩, hS.F ht⟩) hS.2.2 dX9_bid_69
      · have h := (if_pos c_6).symm.trans h
        refine lv_ldc hx hb hown w_5 dX9_bid_35 ?_
        have h := Option.some.inj h
        subst h
        rw [hQQ]
        subst hAe
        exact W.iret (v := (-1000002)) hx hb hr (fun t ht hW => ⟨⟨_, (), rfl, rfl, by rw [ht]; exact hP, va_K.moved hW.alike hK, hD⟩, hS.F ht⟩) hS.2.2 dX9_bid_37
    · have h := (if_pos c_4).symm.trans h
      refine lv_ldc hx hb hown w_2 dX9_bid_20 ?_
      have h := Option.some.inj h
      subst h
      rw [hQQ]
      subst hAe
      exact W.iret (v := (-1000001)) hx hb hr (fun t ht hW => ⟨⟨_, (), rfl, rfl, by rw [ht]; exact hP, va_K.moved hW.alike hK, hD⟩, hS.F ht⟩) hS.2.2 dX9_bid_22
def fX9_raise (s_isle : (Nat → Int32)) (s_was : (Nat → Int32)) (s_acts : Int32) (v1 : Int32) (v2 : Int32) : Option (Int32 × Int32 × (Nat → Int32) × (Nat → Int32) × Int32) :=
  bd1 (fX9_isBidder s_isle v1) (fun r_1 => (if r_1 = 0 then some ((-1000001), 0, s_isle, s_was, s_acts) else bd1 (fX9_isCell v2) (fun r_3 => (if r_3 = 0 then some ((-1000001), 0, s_isle, s_was, s_acts) else chk (¬ ((21 + v2) < 0 ∨ 51 ≤ (21 + v2).toNatClampNeg)) ((if (s_isle (21 + v2).toNatClampNeg) = (v1 + 1) then chk (¬ ((6 + v2) < 0 ∨ 51 ≤ (6 + v2).toNatClampNeg)) ((if (s_isle (6 + v2).toNatClampNeg) = 9 then some ((-1000003), 0, s_isle, s_was, s_acts) else bd2 (fX9_keep s_isle s_was s_acts) (fun s_was_9 s_acts_9 => chk (¬ ((6 + v2) < 0 ∨ 51 ≤ (6 + v2).toNatClampNeg)) (chk (¬ ((6 + v2) < 0 ∨ 51 ≤ (6 + v2).toNatClampNeg)) (chk (¬ ((6 + v2) < 0 ∨ 51 ≤ (6 + v2).toNatClampNeg)) (some (((upd s_isle (6 + v2).toNatClampNeg ((s_isle (6 + v2).toNatClampNeg) + 1)) (6 + v2).toNatClampNeg), 0, (upd s_isle (6 + v2).toNatClampNeg ((s_isle (6 + v2).toNatClampNeg) + 1)), s_was_9, s_acts_9))))))) else some ((-1000002), 0, s_isle, s_was, s_acts)))))))
abbrev rmX9_raise : Room := { frames := 2, cells := 0, slots := 0, locals := 46 }
theorem ddX9_raise : yX9_raise.cls ≠ "java/lang/invoke/MethodHandle" ∧ yX9_raise.cls ≠ "java/lang/invoke/VarHandle" ∧ (parseMethodDescriptor yX9_raise.desc).map (fun d => d.parameters.length) = some 2 := by decide +kernel
set_option maxHeartbeats 4000000 in
set_option maxRecDepth 100000 in
theorem m_X9_raise (l : Launch) (dC : Nat → ClassId) (dI : Nat → Nat → Nat) (cI cZ : ClassId) (q_s q_s_lane q_s_many q_s_item q_s_isle q_s_fresh q_s_then q_s_was q_s_tape q_s_isKept q_s_kept q_s_trace : Nat) (s_thrown : Int32) (s_status : Int32) (s_lane : (Nat → Int32)) (s_many : (Nat → Int32)) (s_item : (Nat → Int32)) (s_isle : (Nat → Int32)) (s_fresh : (Nat → Int32)) (s_then : (Nat → Int32)) (s_was : (Nat → Int32)) (s_acts : Int32) (s_tape : (Nat → Int32)) (s_taped : Int32) (s_cursor : Int32) (s_start : Int32) (s_token : Int32) (s_value : Int32) (s_fault : Int32) (s_faultAt : Int32) (s_latest : Int32) (s_isKept : (Nat → Int32)) (s_kept : (Nat → Int32)) (s_trace : (Nat → Int32)) (s_traced : Int32) (v1 : Int32) (v2 : Int32) (sz : Nat) (res : Int32 × Int32 × (Nat → Int32) × (Nat → Int32) × Int32) (hf : fX9_raise s_isle s_was s_acts v1 v2 = some res) : Met l yX9_raise wsX9_raise rmX9_raise (mtPc (dC, dI) (tyZ cI cZ) ((W_M cI cZ q_s q_s_lane q_s_many q_s_item q_s_isle q_s_fresh q_s_then q_s_was q_s_tape q_s_isKept q_s_kept q_s_trace s_thrown s_status s_lane s_many s_item s_isle s_fresh s_then s_was s_acts s_tape s_taped s_cursor s_start s_token s_value s_fault s_faultAt s_latest s_isKept s_kept s_trace s_traced)) [.ref q_s, .int v1, .int v2] sz) (mtQi (dC, dI) (tyZ cI cZ) ((W_M cI cZ q_s q_s_lane q_s_many q_s_item q_s_isle q_s_fresh q_s_then q_s_was q_s_tape q_s_isKept q_s_kept q_s_trace s_thrown s_status s_lane s_many s_item s_isle s_fresh s_then s_was s_acts s_tape s_taped s_cursor s_start s_token s_value s_fault s_faultAt s_latest s_isKept s_kept s_trace s_traced)) ((W_M cI cZ q_s q_s_lane q_s_many q_s_item q_s_isle q_s_fresh q_s_then q_s_was q_s_tape q_s_isKept q_s_kept q_s_trace res.2.1 s_status s_lane s_many s_item res.2.2.1 s_fresh s_then res.2.2.2.1 res.2.2.2.2 s_tape s_taped s_cursor s_start s_token s_value s_fault s_faultAt s_latest s_isKept s_kept s_trace s_traced)) res.1 sz) 0 0 (va_A ((W_M cI cZ q_s q_s_lane q_s_many q_s_item q_s_isle q_s_fresh q_s_then q_s_was q_s_tape q_s_isKept q_s_kept q_s_trace s_thrown s_status s_lane s_many s_item s_isle s_fresh s_then s_was s_acts s_tape s_taped s_cursor s_start s_token s_value s_fault s_faultAt s_latest s_isKept s_kept s_trace s_traced)) sz) := by
  refine Met.ofW (cc := cX9_raise) (maxL := 3) (ret := (some .int)) (by decide) rfl ?_
  intro p e s m args below meth c s₁ B hml hv
  obtain ⟨rfl, hsz, hP, hK, hD0⟩ := hv
  have hx := B.exec
  have hb := B.bytes
  have hr := B.returns
  have hts := atoms_spec (ws := wsX9_raise) B.pre
  have hown : s.vm.findClass RX9 = some m.cls := findClass_of_methodNamed B.named
  have hlocks := B.notSynchronized
  subst hsz
  have hD := hD0.self (sz := s.heap.size)
  obtain ⟨A, hAe⟩ : ∃ A, A = va_A ((W_M cI cZ q_s q_s_lane q_s_many q_s_item q_s_isle q_s_fresh q_s_then q_s_was q_s_tape q_s_isKept q_s_kept q_s_trace s_thrown s_status s_lane s_many s_item s_isle s_fresh s_then s_was s_acts s_tape s_taped s_cursor s_start s_token s_value s_fault s_faultAt s_latest s_isKept s_kept s_trace s_traced)) s.heap.size := ⟨_, rfl⟩
  rw [← hAe] at hD
  have hA : ∀ q : Nat, s.heap.size ≤ q → A q := fun q h => by rw [hAe]; exact Or.inr h
  have hS : va_S A s.heap s.heap [] := va_S.rf
  have hl := lv_entry ([.ref q_s, .int v1, .int v2]) (n := 3) (Nat.le_of_ble_eq_true rfl)
  rw [lg_entry_eq]
  generalize (lg_sl ([.ref q_s, .int v1, .int v2]) ++ List.replicate (3 - (lg_sl ([.ref q_s, .int v1, .int v2])).length) Slot.unset).toArray = ls at hl ⊢
  have hl : lv_has ls 3 [(0, .ref q_s), (1, .int v1), (2, .int v2)] := hl
  obtain ⟨QQ, hQQ⟩ : ∃ Q, Q = MQ below (mtQi (dC, dI) (tyZ cI cZ) ((W_M cI cZ q_s q_s_lane q_s_many q_s_item q_s_isle q_s_fresh q_s_then q_s_was q_s_tape q_s_isKept q_s_kept q_s_trace s_thrown s_status s_lane s_many s_item s_isle s_fresh s_then s_was s_acts s_tape s_taped s_cursor s_start s_token s_value s_fault s_faultAt s_latest s_isKept s_kept s_trace s_traced)) ((W_M cI cZ q_s q_s_lane q_s_many q_s_item q_s_isle q_s_fresh q_s_then q_s_was q_s_tape q_s_isKept q_s_kept q_s_trace res.2.1 s_status s_lane s_many s_item res.2.2.1 s_fresh s_then res.2.2.2.1 res.2.2.2.2 s_tape s_taped s_cursor s_start s_token s_value s_fault s_faultAt s_latest s_isKept s_kept s_trace s_traced)) res.1 s.heap.size) ([.ref q_s, .int v1, .int v2] : List Value).toArray s 0 0 (va_A ((W_M cI cZ q_s q_s_lane q_s_many q_s_item q_s_isle q_s_fresh q_s_then q_s_was q_s_tape q_s_isKept q_s_kept q_s_trace s_thrown s_status s_lane s_many s_item s_isle s_fresh s_then s_was s_acts s_tape s_taped s_cursor s_start s_token s_value s_fault s_faultAt s_latest s_isKept s_kept s_trace s_traced)) s.heap.size) := ⟨_, rfl⟩
  rw [← hQQ]
  have w_0 := hts (Cond.fieldLink RX9 44 "TideInchesModel" "thrown" "I") (List.mem_of_getElem? (i := 1) rfl)
  have w_1 := (fun w hw => List.mem_cons_of_mem _ (List.mem_append_right _ hw) : ∀ w ∈ wsX90, w ∈ wsX9_raise)
  have w_2 := hts (Cond.constant RX9 64 (-1000001)) (List.mem_of_getElem? (i := 2) rfl)
  have w_3 := hts (Cond.fieldLink RX9 19 "TideInchesModel" "isle" "[I") (List.mem_of_getElem? (i := 3) rfl)
  have w_4 := hts (Cond.constant RX9 74 (-1000003)) (List.mem_of_getElem? (i := 5) rfl)
  have w_5 := hts (Cond.constant RX9 181 (-1000002)) (List.mem_of_getElem? (i := 4) rfl)
  have h := hf
  unfold fX9_raise at h
  refine lv_aload_n hx hb dX9_raise_0 rfl (lv_at hl 0 rfl) ?_
  refine lv_iconst (v := 0) hx hb dX9_raise_1 (by decide) ?_
  refine va_put (D := (dC, dI)) (ci := 7) (v := .int 0) (ty := .int) (C := RX9) (T := TX9) (N := 23) hx hb hts w_1 tyX9 tyX9_ok nmX9 hown hK hP hD hS 0 rfl rfl 0 (by decide) w_0 (fun _ h9 => h9) rfl (by decide +kernel) rfl rfl (Nat.le_of_ble_eq_true rfl) dX9_raise_2 (fun H locs hP hD hS => ?_)
  have hP : va_P (dC, dI) vwCl ((W_M cI cZ q_s q_s_lane q_s_many q_s_item q_s_isle q_s_fresh q_s_then q_s_was q_s_tape q_s_isKept q_s_kept q_s_trace 0 s_status s_lane s_many s_item s_isle s_fresh s_then s_was s_acts s_tape s_taped s_cursor s_start s_token s_value s_fault s_faultAt s_latest s_isKept s_kept s_trace s_traced)) H := hP
  have hD : va_D A ((W_M cI cZ q_s q_s_lane q_s_many q_s_item q_s_isle q_s_fresh q_s_then q_s_was q_s_tape q_s_isKept q_s_kept q_s_trace 0 s_status s_lane s_many s_item s_isle s_fresh s_then s_was s_acts s_tape s_taped s_cursor s_start s_token s_value s_fault s_faultAt s_latest s_isKept s_kept s_trace s_traced)) := hD
  refine lv_aload_n hx hb dX9_raise_5 rfl (lv_at hl 0 rfl) ?_
  refine lv_iload_n hx hb dX9_raise_6 rfl (lv_at hl 1 rfl) ?_
  obtain ⟨r_1, hc_1, h⟩ := bd1_of h
  refine cl_rV (As := [.int v1]) (rest := []) ⟨hx, hb, hml, hown, hts⟩ (m_X9_isBidder l dC dI cI cZ q_s q_s_lane q_s_many q_s_item q_s_isle q_s_fresh q_s_then q_s_was q_s_tape q_s_isKept q_s_kept q_s_trace 0 s_status s_lane s_many s_item s_isle s_fresh s_then s_was s_acts s_tape s_taped s_cursor s_start s_token s_value s_fault s_faultAt s_latest s_isKept s_kept s_trace s_traced v1 (r_1) hc_1) (cwV 1 hts gX9_raise_X9_isBidder rfl rfl rfl ⟨rfl, ddX9_isBidder⟩ ⟨Nat.le_of_ble_eq_true rfl, Nat.le_of_ble_eq_true rfl⟩) hK hP [0, 1, 2, 3, 4, 5, 6, 7, 8, 9, 10, 11] rfl rfl rfl rfl rfl hl.1 (Nat.le_of_ble_eq_true rfl) ⟨Nat.zero_le _, Nat.zero_le _⟩ dX9_raise_7 ?_
  refine lv_if_eq (tgt := 20) hx hb dX9_raise_10 (by decide) (fun c_2 => ?_) (fun c_2 => ?_)
  · have h := (if_pos c_2).symm.trans h
    refine lv_ldc hx hb hown w_2 dX9_raise_20 ?_
    have h := Option.some.inj h
    subst h
    rw [hQQ]
    subst hAe
    exact W.iret (v := (-1000001)) hx hb hr (fun t ht hW => ⟨⟨_, (), rfl, rfl, by rw [ht]; exact hP, va_K.moved hW.alike hK, hD⟩, hS.F ht⟩) hS.2.2 dX9_raise_22
  · have h := (if_neg c_2).symm.trans h
    refine lv_iload_n hx hb dX9_raise_13 rfl (lv_at hl 2 rfl) ?_
    obtain ⟨r_3, hc_3, h⟩ := bd1_of h
    refine cl_pS (As := [.int v2]) (rest := []) ⟨hx, hb, hml, hown, hts⟩ (m_X9_isCell l v2 (r_3) hc_3) (va_cwS 1 hts gX9_raise_X9_isCell rfl rfl rfl ddX9_isCell ⟨Nat.le_of_ble_eq_true rfl, Nat.le_of_ble_eq_true rfl⟩) rfl rfl hl.1 (Nat.le_of_ble_eq_true rfl) ⟨Nat.zero_le _, Nat.zero_le _⟩ dX9_raise_14 ?_
    refine lv_if_ne (tgt := 23) hx hb dX9_raise_17 (by decide) (fun c_4 => ?_) (fun c_4 => ?_)
    · have h := (if_neg c_4).symm.trans h
      refine lv_aload_n hx hb dX9_raise_23 rfl (lv_at hl 0 rfl) ?_
      refine va_get (D := (dC, dI)) (ci := 7) (v := .ref q_s_isle) (C := RX9) (T := TX9) (N := 23) hx hb hts w_1 hown hK hP 0 rfl rfl 5 (by decide) w_3 (fun _ h9 => h9) rfl dX9_raise_24 ?_
      refine lv_bipush (v := 21) hx hb dX9_raise_27 (by decide) ?_
      refine lv_iload_n hx hb dX9_raise_29 rfl (lv_at hl 2 rfl) ?_
      refine lv_iadd hx hb dX9_raise_30 ?_
      obtain ⟨b_5, h⟩ := chk_of h
      refine va_iald hx hb hK hP 4 0 rfl rfl (i := (21 + v2)) b_5 dX9_raise_31 ?_
      refine lv_iload_n hx hb dX9_raise_32 rfl (lv_at hl 1 rfl) ?_
      refine lv_iconst (v := 1) hx hb dX9_raise_33 (by decide) ?_
      refine lv_iadd hx hb dX9_raise_34 ?_
      refine lv_icmp_eq (tgt := 41) hx hb dX9_raise_35 (by decide) (fun c_6 => ?_) (fun c_6 => ?_)
      · have h := (if_pos c_6).symm.trans h
        refine lv_aload_n hx hb dX9_raise_41 rfl (lv_at hl 0 rfl) ?_
        refine va_get (D := (dC, dI)) (ci := 7) (v := .ref q_s_isle) (C := RX9) (T := TX9) (N := 23) hx hb hts w_1 hown hK hP 0 rfl rfl 5 (by decide) w_3 (fun _ h9 => h9) rfl dX9_raise_42 ?_
        refine lv_bipush (v := 6) hx hb dX9_raise_45 (by decide) ?_
        refine lv_iload_n hx hb dX9_raise_47 rfl (lv_at hl 2 rfl) ?_
        refine lv_iadd hx hb dX9_raise_48 ?_
        obtain ⟨b_7, h⟩ := chk_of h
        refine va_iald hx hb hK hP 4 0 rfl rfl (i := (6 + v2)) b_7 dX9_raise_49 ?_
        refine lv_bipush (v := 9) hx hb dX9_raise_50 (by decide) ?_
        refine lv_icmp_ne (tgt := 58) hx hb dX9_raise_52 (by decide) (fun c_8 => ?_) (fun c_8 => ?_)
        · have h := (if_neg c_8).symm.trans h
          refine lv_aload_n hx hb dX9_raise_58 rfl (lv_at hl 0 rfl) ?_
          obtain ⟨s_was_9, s_acts_9, hc_9, h⟩ := bd2_of h
          refine cl_mVv (As := []) (rest := []) (ws' := (W_M cI cZ q_s q_s_lane q_s_many q_s_item q_s_isle q_s_fresh q_s_then q_s_was q_s_tape q_s_isKept q_s_kept q_s_trace 0 s_status s_lane s_many s_item s_isle s_fresh s_then s_was_9 s_acts_9 s_tape s_taped s_cursor s_start s_token s_value s_fault s_faultAt s_latest s_isKept s_kept s_trace s_traced)) (wr := []) ⟨hx, hb, hml, hown, hts⟩ (m_X9_keep l dC dI cI cZ q_s q_s_lane q_s_many q_s_item q_s_isle q_s_fresh q_s_then q_s_was q_s_tape q_s_isKept q_s_kept q_s_trace 0 s_status s_lane s_many s_item s_isle s_fresh s_then s_was s_acts s_tape s_taped s_cursor s_start s_token s_value s_fault s_faultAt s_latest s_isKept s_kept s_trace s_traced _ (s_was_9, s_acts_9) hc_9) (cwV 0 hts gX9_raise_X9_keep rfl rfl rfl ⟨rfl, ddX9_keep⟩ ⟨Nat.le_of_ble_eq_true rfl, Nat.le_of_ble_eq_true rfl⟩) hK hP hD hS hA [0, 1, 2, 3, 4, 5, 6, 7, 8, 9, 10, 11] [] rfl rfl rfl rfl (by decide) [0, 1, 2, 3, 4, 5, 6, 7, 8, 9, 10, 11] rfl rfl rfl rfl rfl rfl rfl hl.1 (Nat.le_of_ble_eq_true rfl) ⟨Nat.zero_le _, Nat.zero_le _⟩ dX9_raise_59 (fun H locs hP hD hS => ?_)
          refine lv_aload_n hx hb dX9_raise_62 rfl (lv_at hl 0 rfl) ?_
          refine va_get (D := (dC, dI)) (ci := 7) (v := .ref q_s_isle) (C := RX9) (T := TX9) (N := 23) hx hb hts w_1 hown hK hP 0 rfl rfl 5 (by decide) w_3 (fun _ h9 => h9) rfl dX9_raise_63 ?_
          refine lv_bipush (v := 6) hx hb dX9_raise_66 (by decide) ?_
          refine lv_iload_n hx hb dX9_raise_68 rfl (lv_at hl 2 rfl) ?_
          refine lv_iadd hx hb dX9_raise_69 ?_
          refine lv_dup2_11 hx hb dX9_raise_70 rfl rfl ?_
          obtain ⟨b_10, h⟩ := chk_of h
          refine va_iald hx hb hK hP 4 0 rfl rfl (i := (6 + v2)) b_10 dX9_raise_71 ?_
          refine lv_iconst (v := 1) hx hb dX9_raise_72 (by decide) ?_
          refine lv_iadd hx hb dX9_raise_73 ?_
          obtain ⟨b_11, h⟩ := chk_of h
          refine va_iast hx hb hK hP hD hS 4 0 rfl rfl (i := (6 + v2)) (x := ((s_isle (6 + v2).toNatClampNeg) + 1)) b_11 dX9_raise_74 (fun H locs hP hD hS => ?_)
          have hP : va_P (dC, dI) vwCl ((W_M cI cZ q_s q_s_lane q_s_many q_s_item q_s_isle q_s_fresh q_s_then q_s_was q_s_tape q_s_isKept q_s_kept q_s_trace 0 s_status s_lane s_many s_item (upd s_isle (6 + v2).toNatClampNeg ((s_isle (6 + v2).toNatClampNeg) + 1)) s_fresh s_then s_was_9 s_acts_9 s_tape s_taped s_cursor s_start s_token s_value s_fault s_faultAt s_latest s_isKept s_kept s_trace s_traced)) H := hP
          have hD : va_D A ((W_M cI cZ q_s q_s_lane q_s_many q_s_item q_s_isle q_s_fresh q_s_then q_s_was q_s_tape q_s_isKept q_s_kept q_s_trace 0 s_status s_lane s_many s_item (upd s_isle (6 + v2).toNatClampNeg ((s_isle (6 + v2).toNatClampNeg) + 1)) s_fresh s_then s_was_9 s_acts_9 s_tape s_taped s_cursor s_start s_token s_value s_fault s_faultAt s_latest s_isKept s_kept s_trace s_traced)) := hD
          refine lv_aload_n hx hb dX9_raise_75 rfl (lv_at hl 0 rfl) ?_
          refine va_get (D := (dC, dI)) (ci := 7) (v := .ref q_s_isle) (C := RX9) (T := TX9) (N := 23) hx hb hts w_1 hown hK hP 0 rfl rfl 5 (by decide) w_3 (fun _ h9 => h9) rfl dX9_raise_76 ?_
          refine lv_bipush (v := 6) hx hb dX9_raise_79 (by decide) ?_
          refine lv_iload_n hx hb dX9_raise_81 rfl (lv_at hl 2 rfl) ?_
          refine lv_iadd hx hb dX9_raise_82 ?_
          obtain ⟨b_12, h⟩ := chk_of h
          refine va_iald hx hb hK hP 4 0 rfl rfl (i := (6 + v2)) b_12 dX9_raise_83 ?_
          have h := Option.some.inj h
          subst h
          rw [hQQ]
          subst hAe
          exact W.iret (v := ((upd s_isle (6 + v2).toNatClampNeg ((s_isle (6 + v2).toNatClampNeg) + 1)) (6 + v2).toNatClampNeg)) hx hb hr (fun t ht hW => ⟨⟨_, (), rfl, rfl, by rw [ht]; exact hP, va_K.moved hW.alike hK, hD⟩, hS.F ht⟩) hS.2.2 dX9_raise_84
        · have h := (if_pos c_8).symm.trans h
          refine lv_ldc hx hb hown w_4 dX9_raise_55 ?_
          have h := Option.some.inj h
          subst h
          rw [hQQ]
          subst hAe
          exact W.iret (v := (-1000003)) hx hb hr (fun t ht hW => ⟨⟨_, (), rfl, rfl, by rw [ht]; exact hP, va_K.moved hW.alike hK, hD⟩, hS.F ht⟩) hS.2.2 dX9_raise_57
      · have h := (if_neg c_6).symm.trans h
        refine lv_ldc hx hb hown w_5 dX9_raise_38 ?_
        have h := Option.some.inj h
        subst h
        rw [hQQ]
        subst hAe
        exact W.iret (v := (-1000002)) hx hb hr (fun t ht hW => ⟨⟨_, (), rfl, rfl, by rw [ht]; exact hP, va_K.moved hW.alike hK, hD⟩, hS.F ht⟩) hS.2.2 dX9_raise_40
    · have h := (if_pos c_4).symm.trans h
      refine lv_ldc hx hb hown w_2 dX9_raise_20 ?_
      have h := Option.some.inj h
      subst h
      rw [hQQ]
      subst hAe
      exact W.iret (v := (-1000001)) hx hb hr (fun t ht hW => ⟨⟨_, (), rfl, rfl, by rw [ht]; exact hP, va_K.moved hW.alike hK, hD⟩, hS.F ht⟩) hS.2.2 dX9_raise_22
def fX9_give (s_isle : (Nat → Int32)) (s_was : (Nat → Int32)) (s_acts : Int32) (v1 : Int32) (v2 : Int32) (v3 : Int32) : Option (Int32 × Int32 × (Nat → Int32) × (Nat → Int32) × Int32) :=
  bd1 (fX9_isBidder s_isle v1) (fun r_1 => (if r_1 = 0 then some ((-1000001), 0, s_isle, s_was, s_acts) else bd1 (fX9_isBidder s_isle v2) (fun r_3 => (if r_3 = 0 then some ((-1000001), 0, s_isle, s_was, s_acts) else (if v1 = v2 then some ((-1000001), 0, s_isle, s_was, s_acts) else bd1 (fX9_isCell v3) (fun r_6 => (if r_6 = 0 then some ((-1000001), 0, s_isle, s_was, s_acts) else chk (¬ ((21 + v3) < 0 ∨ 51 ≤ (21 + v3).toNatClampNeg)) ((if (s_isle (21 + v3).toNatClampNeg) = (v1 + 1) then bd2 (fX9_keep s_isle s_was s_acts) (fun s_was_10 s_acts_10 => chk (¬ ((21 + v3) < 0 ∨ 51 ≤ (21 + v3).toNatClampNeg)) (bd1 (fX9_heldBy (upd s_isle (21 + v3).toNatClampNeg (v2 + 1)) v2) (fun r_12 => some (r_12, 0, (upd s_isle (21 + v3).toNatClampNeg (v2 + 1)), s_was_10, s_acts_10)))) else some ((-1000002), 0, s_isle, s_was, s_acts))))))))))
abbrev rmX9_give : Room := { frames := 2, cells := 0, slots := 0, locals := 46 }
theorem ddX9_give : yX9_give.cls ≠ "java/lang/invoke/MethodHandle" ∧ yX9_give.cls ≠ "java/lang/invoke/VarHandle" ∧ (parseMethodDescriptor yX9_give.desc).map (fun d => d.parameters.length) = some 3 := by decide +kernel
set_option maxHeartbeats 4000000 in
set_option maxRecDepth 100000 in
theorem m_X9_give (l : Launch) (dC : Nat → ClassId) (dI : Nat → Nat → Nat) (cI cZ : ClassId) (q_s q_s_lane q_s_many q_s_item q_s_isle q_s_fresh q_s_then q_s_was q_s_tape q_s_isKept q_s_kept q_s_trace : Nat) (s_thrown : Int32) (s_status : Int32) (s_lane : (Nat → Int32)) (s_many : (Nat → Int32)) (s_item : (Nat → Int32)) (s_isle : (Nat → Int32)) (s_fresh : (Nat → Int32)) (s_then : (Nat → Int32)) (s_was : (Nat → Int32)) (s_acts : Int32) (s_tape : (Nat → Int32)) (s_taped : Int32) (s_cursor : Int32) (s_start : Int32) (s_token : Int32) (s_value : Int32) (s_fault : Int32) (s_faultAt : Int32) (s_latest : Int32) (s_isKept : (Nat → Int32)) (s_kept : (Nat → Int32)) (s_trace : (Nat → Int32)) (s_traced : Int32) (v1 : Int32) (v2 : Int32) (v3 : Int32) (sz : Nat) (res : Int32 × Int32 × (Nat → Int32) × (Nat → Int32) × Int32) (hf : fX9_give s_isle s_was s_acts v1 v2 v3 = some res) : Met l yX9_give wsX9_give rmX9_give (mtPc (dC, dI) (tyZ cI cZ) ((W_M cI cZ q_s q_s_lane q_s_many q_s_item q_s_isle q_s_fresh q_s_then q_s_was q_s_tape q_s_isKept q_s_kept q_s_trace s_thrown s_status s_lane s_many s_item s_isle s_fresh s_then s_was s_acts s_tape s_taped s_cursor s_start s_token s_value s_fault s_faultAt s_latest s_isKept s_kept s_trace s_traced)) [.ref q_s, .int v1, .int v2, .int v3] sz) (mtQi (dC, dI) (tyZ cI cZ) ((W_M cI cZ q_s q_s_lane q_s_many q_s_item q_s_isle q_s_fresh q_s_then q_s_was q_s_tape q_s_isKept q_s_kept q_s_trace s_thrown s_status s_lane s_many s_item s_isle s_fresh s_then s_was s_acts s_tape s_taped s_cursor s_start s_token s_value s_fault s_faultAt s_latest s_isKept s_kept s_trace s_traced)) ((W_M cI cZ q_s q_s_lane q_s_many q_s_item q_s_isle q_s_fresh q_s_then q_s_was q_s_tape q_s_isKept q_s_kept q_s_trace res.2.1 s_status s_lane s_many s_item res.2.2.1 s_fresh s_then res.2.2.2.1 res.2.2.2.2 s_tape s_taped s_cursor s_start s_token s_value s_fault s_faultAt s_latest s_isKept s_kept s_trace s_traced)) res.1 sz) 0 0 (va_A ((W_M cI cZ q_s q_s_lane q_s_many q_s_item q_s_isle q_s_fresh q_s_then q_s_was q_s_tape q_s_isKept q_s_kept q_s_trace s_thrown s_status s_lane s_many s_item s_isle s_fresh s_then s_was s_acts s_tape s_taped s_cursor s_start s_token s_value s_fault s_faultAt s_latest s_isKept s_kept s_trace s_traced)) sz) := by
  refine Met.ofW (cc := cX9_give) (maxL := 4) (ret := (some .int)) (by decide) rfl ?_
  intro p e s m args below meth c s₁ B hml hv
  obtain ⟨rfl, hsz, hP, hK, hD0⟩ := hv
  have hx := B.exec
  have hb := B.bytes
  have hr := B.returns
  have hts := atoms_spec (ws := wsX9_give) B.pre
  have hown : s.vm.findClass RX9 = some m.cls := findClass_of_methodNamed B.named
  have hlocks := B.notSynchronized
  subst hsz
  have hD := hD0.self (sz := s.heap.size)
  obtain ⟨A, hAe⟩ : ∃ A, A = va_A ((W_M cI cZ q_s q_s_lane q_s_many q_s_item q_s_isle q_s_fresh q_s_then q_s_was q_s_tape q_s_isKept q_s_kept q_s_trace s_thrown s_status s_lane s_many s_item s_isle s_fresh s_then s_was s_acts s_tape s_taped s_cursor s_start s_token s_value s_fault s_faultAt s_latest s_isKept s_kept s_trace s_traced)) s.heap.size := ⟨_, rfl⟩
  rw [← hAe] at hD
  have hA : ∀ q : Nat, s.heap.size ≤ q → A q := fun q h => by rw [hAe]; exact Or.inr h
  have hS : va_S A s.heap s.heap [] := va_S.rf
  have hl := lv_entry ([.ref q_s, .int v1, .int v2, .int v3]) (n := 4) (Nat.le_of_ble_eq_true rfl)
  rw [lg_entry_eq]
  generalize (lg_sl ([.ref q_s, .int v1, .int v2, .int v3]) ++ List.replicate (4 - (lg_sl ([.ref q_s, .int v1, .int v2, .int v3])).length) Slot.unset).toArray = ls at hl ⊢
  have hl : lv_has ls 4 [(0, .ref q_s), (1, .int v1), (2, .int v2), (3, .int v3)] := hl
  obtain ⟨QQ, hQQ⟩ : ∃ Q, Q = MQ below (mtQi (dC, dI) (tyZ cI cZ) ((W_M cI cZ q_s q_s_lane q_s_many q_s_item q_s_isle q_s_fresh q_s_then q_s_was q_s_tape q_s_isKept q_s_kept q_s_trace s_thrown s_status s_lane s_many s_item s_isle s_fresh s_then s_was s_acts s_tape s_taped s_cursor s_start s_token s_value s_fault s_faultAt s_latest s_isKept s_kept s_trace s_traced)) ((W_M cI cZ q_s q_s_lane q_s_many q_s_item q_s_isle q_s_fresh q_s_then q_s_was q_s_tape q_s_isKept q_s_kept q_s_trace res.2.1 s_status s_lane s_many s_item res.2.2.1 s_fresh s_then res.2.2.2.1 res.2.2.2.2 s_tape s_taped s_cursor s_start s_token s_value s_fault s_faultAt s_latest s_isKept s_kept s_trace s_traced)) res.1 s.heap.size) ([.ref q_s, .int v1, .int v2, .int v3] : List Value).toArray s 0 0 (va_A ((W_M cI cZ q_s q_s_lane q_s_many q_s_item q_s_isle q_s_fresh q_s_then q_s_was q_s_tape q_s_isKept q_s_kept q_s_trace s_thrown s_status s_lane s_many s_item s_isle s_fresh s_then s_was s_acts s_tape s_taped s_cursor s_start s_token s_value s_fault s_faultAt s_latest s_isKept s_kept s_trace s_traced)) s.heap.size) := ⟨_, rfl⟩
  rw [← hQQ]
  have w_0 := hts (Cond.fieldLink RX9 44 "TideInchesModel" "thrown" "I") (List.mem_of_getElem? (i := 1) rfl)
  have w_1 := (fun w hw => List.mem_cons_of_mem _ (List.mem_append_right _ hw) : ∀ w ∈ wsX90, w ∈ wsX9_give)
  have w_2 := hts (Cond.constant RX9 64 (-1000001)) (List.mem_of_getElem? (i := 2) rfl)
  have w_3 := hts (Cond.fieldLink RX9 19 "TideInchesModel" "isle" "[I") (List.mem_of_getElem? (i := 3) rfl)
  have w_4 := hts (Cond.constant RX9 181 (-1000002)) (List.mem_of_getElem? (i := 4) rfl)
  have h := hf
  unfold fX9_give at h
  refine lv_aload_n hx hb dX9_give_0 rfl (lv_at hl 0 rfl) ?_
  refine lv_iconst (v := 0) hx hb dX9_give_1 (by decide) ?_
  refine va_put (D := (dC, dI)) (ci := 7) (v := .int 0) (ty := .int) (C := RX9) (T := TX9) (N := 23) hx hb hts w_1 tyX9 tyX9_ok nmX9 hown hK hP hD hS 0 rfl rfl 0 (by decide) w_0 (fun _ h9 => h9) rfl (by decide +kernel) rfl rfl (Nat.le_of_ble_eq_true rfl) dX9_give_2 (fun H locs hP hD hS => ?_)
  have hP : va_P (dC, dI) vwCl ((W_M cI cZ q_s q_s_lane q_s_many q_s_item q_s_isle q_s_fresh q_s_then q_s_was q_s_tape q_s_isKept q_s_kept q_s_trace 0 s_status s_lane s_many s_item s_isle s_fresh s_then s_was s_acts s_tape s_taped s_cursor s_start s_token s_value s_fault s_faultAt s_latest s_isKept s_kept s_trace s_traced)) H := hP
  have hD : va_D A ((W_M cI cZ q_s q_s_lane q_s_many q_s_item q_s_isle q_s_fresh q_s_then q_s_was q_s_tape q_s_isKept q_s_kept q_s_trace 0 s_status s_lane s_many s_item s_isle s_fresh s_then s_was s_acts s_tape s_taped s_cursor s_start s_token s_value s_fault s_faultAt s_latest s_isKept s_kept s_trace s_traced)) := hD
  refine lv_aload_n hx hb dX9_give_5 rfl (lv_at hl 0 rfl) ?_
  refine lv_iload_n hx hb dX9_give_6 rfl (lv_at hl 1 rfl) ?_
  obtain ⟨r_1, hc_1, h⟩ := bd1_of h
  refine cl_rV (As := [.int v1]) (rest := []) ⟨hx, hb, hml, hown, hts⟩ (m_X9_isBidder l dC dI cI cZ q_s q_s_lane q_s_many q_s_item q_s_isle q_s_fresh q_s_then q_s_was q_s_tape q_s_isKept q_s_kept q_s_trace 0 s_status s_lane s_many s_item s_isle s_fresh s_then s_was s_acts s_tape s_taped s_cursor s_start s_token s_value s_fault s_faultAt s_latest s_isKept s_kept s_trace s_traced v1 (r_1) hc_1) (cwV 1 hts gX9_give_X9_isBidder rfl rfl rfl ⟨rfl, ddX9_isBidder⟩ ⟨Nat.le_of_ble_eq_true rfl, Nat.le_of_ble_eq_true rfl⟩) hK hP [0, 1, 2, 3, 4, 5, 6, 7, 8, 9, 10, 11] rfl rfl rfl rfl rfl hl.1 (Nat.le_of_ble_eq_true rfl) ⟨Nat.zero_le _, Nat.zero_le _⟩ dX9_give_7 ?_
  refine lv_if_eq (tgt := 33) hx hb dX9_give_10 (by decide) (fun c_2 => ?_) (fun c_2 => ?_)
  · have h := (if_pos c_2).symm.trans h
    refine lv_ldc hx hb hown w_2 dX9_give_33 ?_
    have h := Option.some.inj h
    subst h
    rw [hQQ]
    subst hAe
    exact W.iret (v := (-1000001)) hx hb hr (fun t ht hW => ⟨⟨_, (), rfl, rfl, by rw [ht]; exact hP, va_K.moved hW.alike hK, hD⟩, hS.F ht⟩) hS.2.2 dX9_give_35
  · have h := (if_neg c_2).symm.trans h
    refine lv_aload_n hx hb dX9_give_13 rfl (lv_at hl 0 rfl) ?_
    refine lv_iload_n hx hb dX9_give_14 rfl (lv_at hl 2 rfl) ?_
    obtain ⟨r_3, hc_3, h⟩ := bd1_of h
    refine cl_rV (As := [.int v2]) (rest := []) ⟨hx, hb, hml, hown, hts⟩ (m_X9_isBidder l dC dI cI cZ q_s q_s_lane q_s_many q_s_item q_s_isle q_s_fresh q_s_then q_s_was q_s_tape q_s_isKept q_s_kept q_s_trace 0 s_status s_lane s_many s_item s_isle s_fresh s_then s_was s_acts s_tape s_taped s_cursor s_start s_token s_value s_fault s_faultAt s_latest s_isKept s_kept s_trace s_traced v2 (r_3) hc_3) (cwV 1 hts gX9_give_X9_isBidder rfl rfl rfl ⟨rfl, ddX9_isBidder⟩ ⟨Nat.le_of_ble_eq_true rfl, Nat.le_of_ble_eq_true rfl⟩) hK hP [0, 1, 2, 3, 4, 5, 6, 7, 8, 9, 10, 11] rfl rfl rfl rfl rfl hl.1 (Nat.le_of_ble_eq_true rfl) ⟨Nat.zero_le _, Nat.zero_le _⟩ dX9_give_15 ?_
    refine lv_if_eq (tgt := 33) hx hb dX9_give_18 (by decide) (fun c_4 => ?_) (fun c_4 => ?_)
    · have h := (if_pos c_4).symm.trans h
      refine lv_ldc hx hb hown w_2 dX9_give_33 ?_
      have h := Option.some.inj h
      subst h
      rw [hQQ]
      subst hAe
      exact W.iret (v := (-1000001)) hx hb hr (fun t ht hW => ⟨⟨_, (), rfl, rfl, by rw [ht]; exact hP, va_K.moved hW.alike hK, hD⟩, hS.F ht⟩) hS.2.2 dX9_give_35
    · have h := (if_neg c_4).symm.trans h
      refine lv_iload_n hx hb dX9_give_21 rfl (lv_at hl 1 rfl) ?_
      refine lv_iload_n hx hb dX9_give_22 rfl (lv_at hl 2 rfl) ?_
      refine lv_icmp_eq (tgt := 33) hx hb dX9_give_23 (by decide) (fun c_5 => ?_) (fun c_5 => ?_)
      · have h := (if_pos c_5).symm.trans h
        refine lv_ldc hx hb hown w_2 dX9_give_33 ?_
        have h := Option.some.inj h
        subst h
        rw [hQQ]
        subst hAe
        exact W.iret (v := (-1000001)) hx hb hr (fun t ht hW => ⟨⟨_, (), rfl, rfl, by rw [ht]; exact hP, va_K.moved hW.alike hK, hD⟩, hS.F ht⟩) hS.2.2 dX9_give_35
      · have h := (if_neg c_5).symm.trans h
        refine lv_iload_n hx hb dX9_give_26 rfl (lv_at hl 3 rfl) ?_
        obtain ⟨r_6, hc_6, h⟩ := bd1_of h
        refine cl_pS (As := [.int v3]) (rest := []) ⟨hx, hb, hml, hown, hts⟩ (m_X9_isCell l v3 (r_6) hc_6) (va_cwS 1 hts gX9_give_X9_isCell rfl rfl rfl ddX9_isCell ⟨Nat.le_of_ble_eq_true rfl, Nat.le_of_ble_eq_true rfl⟩) rfl rfl hl.1 (Nat.le_of_ble_eq_true rfl) ⟨Nat.zero_le _, Nat.zero_le _⟩ dX9_give_27 ?_
        refine lv_if_ne (tgt := 36) hx hb dX9_give_30 (by decide) (fun c_7 => ?_) (fun c_7 => ?_)
        · have h := (if_neg c_7).symm.trans h
          refine lv_aload_n hx hb dX9_give_36 rfl (lv_at hl 0 rfl) ?_
          refine va_get (D := (dC, dI)) (ci := 7) (v := .ref q_s_isle) (C := RX9) (T := TX9) (N := 23) hx hb hts w_1 hown hK hP 0 rfl rfl 5 (by decide) w_3 (fun _ h9 => h9) rfl dX9_give_37 ?_
          refine lv_bipush (v := 21) hx hb dX9_give_40 (by decide) ?_
          refine lv_iload_n hx hb dX9_give_42 rfl (lv_at hl 3 rfl) ?_
          refine lv_iadd hx hb dX9_give_43 ?_
          obtain ⟨b_8, h⟩ := chk_of h
          refine va_iald hx hb hK hP 4 0 rfl rfl (i := (21 + v3)) b_8 dX9_give_44 ?_
          refine lv_iload_n hx hb dX9_give_45 rfl (lv_at hl 1 rfl) ?_
          refine lv_iconst (v := 1) hx hb dX9_give_46 (by decide) ?_
          refine lv_iadd hx hb dX9_give_47 ?_
          refine lv_icmp_eq (tgt := 54) hx hb dX9_give_48 (by decide) (fun c_9 => ?_) (fun c_9 => ?_)
          · have h := (if_pos c_9).symm.trans h
            refine lv_aload_n hx hb dX9_give_54 rfl (lv_at hl 0 rfl) ?_
            obtain ⟨s_was_10, s_acts_10, hc_10, h⟩ := bd2_of h
            refine cl_mVv (As := []) (rest := []) (ws' := (W_M cI cZ q_s q_s_lane q_s_many q_s_item q_s_isle q_s_fresh q_s_then q_s_was q_s_tape q_s_isKept q_s_kept q_s_trace 0 s_status s_lane s_many s_item s_isle s_fresh s_then s_was_10 s_acts_10 s_tape s_taped s_cursor s_start s_token s_value s_fault s_faultAt s_latest s_isKept s_kept s_trace s_traced)) (wr := []) ⟨hx, hb, hml, hown, hts⟩ (m_X9_keep l dC dI cI cZ q_s q_s_lane q_s_many q_s_item q_s_isle q_s_fresh q_s_then q_s_was q_s_tape q_s_isKept q_s_kept q_s_trace 0 s_status s_lane s_many s_item s_isle s_fresh s_then s_was s_acts s_tape s_taped s_cursor s_start s_token s_value s_fault s_faultAt s_latest s_isKept s_kept s_trace s_traced _ (s_was_10, s_acts_10) hc_10) (cwV 0 hts gX9_give_X9_keep rfl rfl rfl ⟨rfl, ddX9_keep⟩ ⟨Nat.le_of_ble_eq_true rfl, Nat.le_of_ble_eq_true rfl⟩) hK hP hD hS hA [0, 1, 2, 3, 4, 5, 6, 7, 8, 9, 10, 11] [] rfl rfl rfl rfl (by decide) [0, 1, 2, 3, 4, 5, 6, 7, 8, 9, 10, 11] rfl rfl rfl rfl rfl rfl rfl hl.1 (Nat.le_of_ble_eq_true rfl) ⟨Nat.zero_le _, Nat.zero_le _⟩ dX9_give_55 (fun H locs hP hD hS => ?_)
            refine lv_aload_n hx hb dX9_give_58 rfl (lv_at hl 0 rfl) ?_
            refine va_get (D := (dC, dI)) (ci := 7) (v := .ref q_s_isle) (C := RX9) (T := TX9) (N := 23) hx hb hts w_1 hown hK hP 0 rfl rfl 5 (by decide) w_3 (fun _ h9 => h9) rfl dX9_give_59 ?_
            refine lv_bipush (v := 21) hx hb dX9_give_62 (by decide) ?_
            refine lv_iload_n hx hb dX9_give_64 rfl (lv_at hl 3 rfl) ?_
            refine lv_iadd hx hb dX9_give_65 ?_
            refine lv_iload_n hx hb dX9_give_66 rfl (lv_at hl 2 rfl) ?_
            refine lv_iconst (v := 1) hx hb dX9_give_67 (by decide) ?_
            refine lv_iadd hx hb dX9_give_68 ?_
            obtain ⟨b_11, h⟩ := chk_of h
            refine va_iast hx hb hK hP hD hS 4 0 rfl rfl (i := (21 + v3)) (x := (v2 + 1)) b_11 dX9_give_69 (fun H locs hP hD hS => ?_)
            have hP : va_P (dC, dI) vwCl ((W_M cI cZ q_s q_s_lane q_s_many q_s_item q_s_isle q_s_fresh q_s_then q_s_was q_s_tape q_s_isKept q_s_kept q_s_trace 0 s_status s_lane s_many s_item (upd s_isle (21 + v3).toNatClampNeg (v2 + 1)) s_fresh s_then s_was_10 s_acts_10 s_tape s_taped s_cursor s_start s_token s_value s_fault s_faultAt s_latest s_isKept s_kept s_trace s_traced)) H := hP
            have hD : va_D A ((W_M cI cZ q_s q_s_lane q_s_many q_s_item q_s_isle q_s_fresh q_s_then q_s_was q_s_tape q_s_isKept q_s_kept q_s_trace 0 s_status s_lane s_many s_item (upd s_isle (21 + v3).toNatClampNeg (v2 + 1)) s_fresh s_then s_was_10 s_acts_10 s_tape s_taped s_cursor s_start s_token s_value s_fault s_faultAt s_latest s_isKept s_kept s_trace s_traced)) := hD
            refine lv_aload_n hx hb dX9_give_70 rfl (lv_at hl 0 rfl) ?_
            refine va_get (D := (dC, dI)) (ci := 7) (v := .ref q_s_isle) (C := RX9) (T := TX9) (N := 23) hx hb hts w_1 hown hK hP 0 rfl rfl 5 (by decide) w_3 (fun _ h9 => h9) rfl dX9_give_71 ?_
            refine lv_iload_n hx hb dX9_give_74 rfl (lv_at hl 2 rfl) ?_
            obtain ⟨r_12, hc_12, h⟩ := bd1_of h
            refine cl_rS (As := [.ref q_s_isle, .int v2]) (rest := []) ⟨hx, hb, hml, hown, hts⟩ (m_X9_heldBy l dC dI cI cZ q_s_isle (upd s_isle (21 + v3).toNatClampNeg (v2 + 1)) v2 (r_12) hc_12) (va_cwS 2 hts gX9_give_X9_heldBy rfl rfl rfl ddX9_heldBy ⟨Nat.le_of_ble_eq_true rfl, Nat.le_of_ble_eq_true rfl⟩) hK hP [4] rfl rfl rfl hl.1 (Nat.le_of_ble_eq_true rfl) ⟨Nat.zero_le _, Nat.zero_le _⟩ dX9_give_75 ?_
            have h := Option.some.inj h
            subst h
            rw [hQQ]
            subst hAe
            exact W.iret (v := r_12) hx hb hr (fun t ht hW => ⟨⟨_, (), rfl, rfl, by rw [ht]; exact hP, va_K.moved hW.alike hK, hD⟩, hS.F ht⟩) hS.2.2 dX9_give_78
          · have h := (if_neg c_9).symm.trans h
            refine lv_ldc hx hb hown w_4 dX9_give_51 ?_
            have h := Option.some.inj h
            subst h
            rw [hQQ]
            subst hAe
            exact W.iret (v := (-1000002)) hx hb hr (fun t ht hW => ⟨⟨_, (), rfl, rfl, by rw [ht]; exact hP, va_K.moved hW.alike hK, hD⟩, hS.F ht⟩) hS.2.2 dX9_give_53
        · have h := (if_pos c_7).symm.trans h
          refine lv_ldc hx hb hown w_2 dX9_give_33 ?_
          have h := Option.some.inj h
          subst h
          rw [hQQ]
          subst hAe
          exact W.iret (v := (-1000001)) hx hb hr (fun t ht hW => ⟨⟨_, (), rfl, rfl, by rw [ht]; exact hP, va_K.moved hW.alike hK, hD⟩, hS.F ht⟩) hS.2.2 dX9_give_35
def fX9_undo_L27 (s_was : (Nat → Int32)) (s_acts : Int32) (k27_59 : (Nat → Int32) → Option (Int32 × Int32 × (Nat → Int32) × Int32)) : Nat → Int32 → (Nat → Int32) → Option (Int32 × Int32 × (Nat → Int32) × Int32)
  | 0, _, _ => none
  | n + 1, v1_h27, s_isle_h27 => (if 51 ≤ v1_h27 then (k27_59 s_isle_h27) else chk (¬ (((51 * (s_acts - 1)) + v1_h27) < 0 ∨ 1224 ≤ ((51 * (s_acts - 1)) + v1_h27).toNatClampNeg)) (chk (¬ (v1_h27 < 0 ∨ 51 ≤ v1_h27.toNatClampNeg)) (((fX9_undo_L27 s_was s_acts k27_59 n) (v1_h27 + 1) (upd s_isle_h27 v1_h27.toNatClampNeg (s_was ((51 * (s_acts - 1)) + v1_h27).toNatClampNeg))))))
def fX9_undo (s_isle : (Nat → Int32)) (s_was : (Nat → Int32)) (s_acts : Int32) : Option (Int32 × Int32 × (Nat → Int32) × Int32) :=
  (if s_acts = 0 then some ((-1000002), 0, s_isle, s_acts) else (fX9_undo_L27 s_was s_acts (fun s_isle_e59 => some ((s_acts - 1), 0, s_isle_e59, (s_acts - 1))) FU 0 s_isle))
abbrev rmX9_undo : Room := { frames := 0, cells := 0, slots := 0, locals := 0 }
theorem ddX9_undo : yX9_undo.cls ≠ "java/lang/invoke/MethodHandle" ∧ yX9_undo.cls ≠ "java/lang/invoke/VarHandle" ∧ (parseMethodDescriptor yX9_undo.desc).map (fun d => d.parameters.length) = some 0 := by decide +kernel
set_option maxHeartbeats 4000000 in
set_option maxRecDepth 100000 in
theorem m_X9_undo (l : Launch) (dC : Nat → ClassId) (dI : Nat → Nat → Nat) (cI cZ : ClassId) (q_s q_s_lane q_s_many q_s_item q_s_isle q_s_fresh q_s_then q_s_was q_s_tape q_s_isKept q_s_kept q_s_trace : Nat) (s_thrown : Int32) (s_status : Int32) (s_lane : (Nat → Int32)) (s_many : (Nat → Int32)) (s_item : (Nat → Int32)) (s_isle : (Nat → Int32)) (s_fresh : (Nat → Int32)) (s_then : (Nat → Int32)) (s_was : (Nat → Int32)) (s_acts : Int32) (s_tape : (Nat → Int32)) (s_taped : Int32) (s_cursor : Int32) (s_start : Int32) (s_token : Int32) (s_value : Int32) (s_fault : Int32) (s_faultAt : Int32) (s_latest : Int32) (s_isKept : (Nat → Int32)) (s_kept : (Nat → Int32)) (s_trace : (Nat → Int32)) (s_traced : Int32) (sz : Nat) (res : Int32 × Int32 × (Nat → Int32) × Int32) (hf : fX9_undo s_isle s_was s_acts = some res) : Met l yX9_undo wsX9_undo rmX9_undo (mtPc (dC, dI) (tyZ cI cZ) ((W_M cI cZ q_s q_s_lane q_s_many q_s_item q_s_isle q_s_fresh q_s_then q_s_was q_s_tape q_s_isKept q_s_kept q_s_trace s_thrown s_status s_lane s_many s_item s_isle s_fresh s_then s_was s_acts s_tape s_taped s_cursor s_start s_token s_value s_fault s_faultAt s_latest s_isKept s_kept s_trace s_traced)) [.ref q_s] sz) (mtQi (dC, dI) (tyZ cI cZ) ((W_M cI cZ q_s q_s_lane q_s_many q_s_item q_s_isle q_s_fresh q_s_then q_s_was q_s_tape q_s_isKept q_s_kept q_s_trace s_thrown s_status s_lane s_many s_item s_isle s_fresh s_then s_was s_acts s_tape s_taped s_cursor s_start s_token s_value s_fault s_faultAt s_latest s_isKept s_kept s_trace s_traced)) ((W_M cI cZ q_s q_s_lane q_s_many q_s_item q_s_isle q_s_fresh q_s_then q_s_was q_s_tape q_s_isKept q_s_kept q_s_trace res.2.1 s_status s_lane s_many s_item res.2.2.1 s_fresh s_then s_was res.2.2.2 s_tape s_taped s_cursor s_start s_token s_value s_fault s_faultAt s_latest s_isKept s_kept s_trace s_traced)) res.1 sz) 0 0 (va_A ((W_M cI cZ q_s q_s_lane q_s_many q_s_item q_s_isle q_s_fresh q_s_then q_s_was q_s_tape q_s_isKept q_s_kept q_s_trace s_thrown s_status s_lane s_many s_item s_isle s_fresh s_then s_was s_acts s_tape s_taped s_cursor s_start s_token s_value s_fault s_faultAt s_latest s_isKept s_kept s_trace s_traced)) sz) := by
  refine Met.ofW (cc := cX9_undo) (maxL := 2) (ret := (some .int)) (by decide) rfl ?_
  intro p e s m args below meth c s₁ B hml hv
  obtain ⟨rfl, hsz, hP, hK, hD0⟩ := hv
  have hx := B.exec
  have hb := B.bytes
  have hr := B.returns
  have hts := atoms_spec (ws := wsX9_undo) B.pre
  have hown : s.vm.findClass RX9 = some m.cls := findClass_of_methodNamed B.named
  have hlocks := B.notSynchronized
  subst hsz
  have hD := hD0.self (sz := s.heap.size)
  obtain ⟨A, hAe⟩ : ∃ A, A = va_A ((W_M cI cZ q_s q_s_lane q_s_many q_s_item q_s_isle q_s_fresh q_s_then q_s_was q_s_tape q_s_isKept q_s_kept q_s_trace s_thrown s_status s_lane s_many s_item s_isle s_fresh s_then s_was s_acts s_tape s_taped s_cursor s_start s_token s_value s_fault s_faultAt s_latest s_isKept s_kept s_trace s_traced)) s.heap.size := ⟨_, rfl⟩
  rw [← hAe] at hD
  have hA : ∀ q : Nat, s.heap.size ≤ q → A q := fun q h => by rw [hAe]; exact Or.inr h
  have hS : va_S A s.heap s.heap [] := va_S.rf
  have hl := lv_entry ([.ref q_s]) (n := 2) (Nat.le_of_ble_eq_true rfl)
  rw [lg_entry_eq]
  generalize (lg_sl ([.ref q_s]) ++ List.replicate (2 - (lg_sl ([.ref q_s])).length) Slot.unset).toArray = ls at hl ⊢
  have hl : lv_has ls 2 [(0, .ref q_s)] := hl
  obtain ⟨QQ, hQQ⟩ : ∃ Q, Q = MQ below (mtQi (dC, dI) (tyZ cI cZ) ((W_M cI cZ q_s q_s_lane q_s_many q_s_item q_s_isle q_s_fresh q_s_then q_s_was q_s_tape q_s_isKept q_s_kept q_s_trace s_thrown s_status s_lane s_many s_item s_isle s_fresh s_then s_was s_acts s_tape s_taped s_cursor s_start s_token s_value s_fault s_faultAt s_latest s_isKept s_kept s_trace s_traced)) ((W_M cI cZ q_s q_s_lane q_s_many q_s_item q_s_isle q_s_fresh q_s_then q_s_was q_s_tape q_s_isKept q_s_kept q_s_trace res.2.1 s_status s_lane s_many s_item res.2.2.1 s_fresh s_then s_was res.2.2.2 s_tape s_taped s_cursor s_start s_token s_value s_fault s_faultAt s_latest s_isKept s_kept s_trace s_traced)) res.1 s.heap.size) ([.ref q_s] : List Value).toArray s 0 0 (va_A ((W_M cI cZ q_s q_s_lane q_s_many q_s_item q_s_isle q_s_fresh q_s_then q_s_was q_s_tape q_s_isKept q_s_kept q_s_trace s_thrown s_status s_lane s_many s_item s_isle s_fresh s_then s_was s_acts s_tape s_taped s_cursor s_start s_token s_value s_fault s_faultAt s_latest s_isKept s_kept s_trace s_traced)) s.heap.size) := ⟨_, rfl⟩
  rw [← hQQ]
  have w_0 := hts (Cond.fieldLink RX9 44 "TideInchesModel" "thrown" "I") (List.mem_of_getElem? (i := 1) rfl)
  have w_1 := (fun w hw => List.mem_cons_of_mem _ (List.mem_append_right _ hw) : ∀ w ∈ wsX90, w ∈ wsX9_undo)
  have w_2 := hts (Cond.fieldLink RX9 145 "TideInchesModel" "acts" "I") (List.mem_of_getElem? (i := 2) rfl)
  have w_3 := hts (Cond.fieldLink RX9 19 "TideInchesModel" "isle" "[I") (List.mem_of_getElem? (i := 4) rfl)
  have w_4 := hts (Cond.fieldLink RX9 28 "TideInchesModel" "was" "[I") (List.mem_of_getElem? (i := 5) rfl)
  have w_5 := hts (Cond.constant RX9 181 (-1000002)) (List.mem_of_getElem? (i := 3) rfl)
  have h := hf
  unfold fX9_undo at h
  refine lv_aload_n hx hb dX9_undo_0 rfl (lv_at hl 0 rfl) ?_
  refine lv_iconst (v := 0) hx hb dX9_undo_1 (by decide) ?_
  refine va_put (D := (dC, dI)) (ci := 7) (v := .int 0) (ty := .int) (C := RX9) (T := TX9) (N := 23) hx hb hts w_1 tyX9 tyX9_ok nmX9 hown hK hP hD hS 0 rfl rfl 0 (by decide) w_0 (fun _ h9 => h9) rfl (by decide +kernel) rfl rfl (Nat.le_of_ble_eq_true rfl) dX9_undo_2 (fun H locs hP hD hS => ?_)
  have hP : va_P (dC, dI) vwCl ((W_M cI cZ q_s q_s_lane q_s_many q_s_item q_s_isle q_s_fresh q_s_then q_s_was q_s_tape q_s_isKept q_s_kept q_s_trace 0 s_status s_lane s_many s_item s_isle s_fresh s_then s_was s_acts s_tape s_taped s_cursor s_start s_token s_value s_fault s_faultAt s_latest s_isKept s_kept s_trace s_traced)) H := hP
  have hD : va_D A ((W_M cI cZ q_s q_s_lane q_s_many q_s_item q_s_isle q_s_fresh q_s_then q_s_was q_s_tape q_s_isKept q_s_kept q_s_trace 0 s_status s_lane s_many s_item s_isle s_fresh s_then s_was s_acts s_tape s_taped s_cursor s_start s_token s_value s_fault s_faultAt s_latest s_isKept s_kept s_trace s_traced)) := hD
  refine lv_aload_n hx hb dX9_undo_5 rfl (lv_at hl 0 rfl) ?_
  refine va_get (D := (dC, dI)) (ci := 7) (v := .int s_acts) (C := RX9) (T := TX9) (N := 23) hx hb hts w_1 hown hK hP 0 rfl rfl 9 (by decide) w_2 (fun _ h9 => h9) rfl dX9_undo_6 ?_
  refine lv_if_ne (tgt := 15) hx hb dX9_undo_9 (by decide) (fun c_1 => ?_) (fun c_1 => ?_)
  · have h := (if_neg c_1).symm.trans h
    refine lv_aload_n hx hb dX9_undo_15 rfl (lv_at hl 0 rfl) ?_
    refine lv_dup hx hb dX9_undo_16 rfl ?_
    refine va_get (D := (dC, dI)) (ci := 7) (v := .int s_acts) (C := RX9) (T := TX9) (N := 23) hx hb hts w_1 hown hK hP 0 rfl rfl 9 (by decide) w_2 (fun _ h9 => h9) rfl dX9_undo_17 ?_
    refine lv_iconst (v := 1) hx hb dX9_undo_20 (by decide) ?_
    refine lv_isub hx hb dX9_undo_21 ?_
    refine va_put (D := (dC, dI)) (ci := 7) (v := .int (s_acts - 1)) (ty := .int) (C := RX9) (T := TX9) (N := 23) hx hb hts w_1 tyX9 tyX9_ok nmX9 hown hK hP hD hS 0 rfl rfl 9 (by decide) w_2 (fun _ h9 => h9) rfl (by decide +kernel) rfl rfl (Nat.le_of_ble_eq_true rfl) dX9_undo_22 (fun H locs hP hD hS => ?_)
    have hP : va_P (dC, dI) vwCl ((W_M cI cZ q_s q_s_lane q_s_many q_s_item q_s_isle q_s_fresh q_s_then q_s_was q_s_tape q_s_isKept q_s_kept q_s_trace 0 s_status s_lane s_many s_item s_isle s_fresh s_then s_was (s_acts - 1) s_tape s_taped s_cursor s_start s_token s_value s_fault s_faultAt s_latest s_isKept s_kept s_trace s_traced)) H := hP
    have hD : va_D A ((W_M cI cZ q_s q_s_lane q_s_many q_s_item q_s_isle q_s_fresh q_s_then q_s_was q_s_tape q_s_isKept q_s_kept q_s_trace 0 s_status s_lane s_many s_item s_isle s_fresh s_then s_was (s_acts - 1) s_tape s_taped s_cursor s_start s_token s_value s_fault s_faultAt s_latest s_isKept s_kept s_trace s_traced)) := hD
    refine lv_iconst (v := 0) hx hb dX9_undo_25 (by decide) ?_
    refine lv_istore_n (lv' := [(1, .int 0), (0, .ref q_s)]) hx hb dX9_undo_26 rfl hl (by decide) rfl (fun ls hl => ?_)
    have KL27 : ∀ (k27_59 : (Nat → Int32) → Option (Int32 × Int32 × (Nat → Int32) × Int32)) , (∀ (s_isle_e59 : (Nat → Int32)) (H : Heap) (locs : List Loc) (ls : Array Slot), va_P (dC, dI) vwCl ((W_M cI cZ q_s q_s_lane q_s_many q_s_item q_s_isle q_s_fresh q_s_then q_s_was q_s_tape q_s_isKept q_s_kept q_s_trace 0 s_status s_lane s_many s_item s_isle_e59 s_fresh s_then s_was (s_acts - 1) s_tape s_taped s_cursor s_start s_token s_value s_fault s_faultAt s_latest s_isKept s_kept s_trace s_traced)) H → va_D A ((W_M cI cZ q_s q_s_lane q_s_many q_s_item q_s_isle q_s_fresh q_s_then q_s_was q_s_tape q_s_isKept q_s_kept q_s_trace 0 s_status s_lane s_many s_item s_isle_e59 s_fresh s_then s_was (s_acts - 1) s_tape s_taped s_cursor s_start s_token s_value s_fault s_faultAt s_latest s_isKept s_kept s_trace s_traced)) → va_S A s.heap H locs → lv_has ls 2 [(0, .ref q_s)] → k27_59 s_isle_e59 = some res → W p l e (headSpec wsX9_undo rmX9_undo).room s m ([.ref q_s] : List Value).toArray below meth c H locs 0 0 QQ (F0 m 59 ls [])) → ∀ (n : Nat) (v1_h27 : Int32) (s_isle_h27 : (Nat → Int32)) (H : Heap) (locs : List Loc) (ls : Array Slot), va_P (dC, dI) vwCl ((W_M cI cZ q_s q_s_lane q_s_many q_s_item q_s_isle q_s_fresh q_s_then q_s_was q_s_tape q_s_isKept q_s_kept q_s_trace 0 s_status s_lane s_many s_item s_isle_h27 s_fresh s_then s_was (s_acts - 1) s_tape s_taped s_cursor s_start s_token s_value s_fault s_faultAt s_latest s_isKept s_kept s_trace s_traced)) H → va_D A ((W_M cI cZ q_s q_s_lane q_s_many q_s_item q_s_isle q_s_fresh q_s_then q_s_was q_s_tape q_s_isKept q_s_kept q_s_trace 0 s_status s_lane s_many s_item s_isle_h27 s_fresh s_then s_was (s_acts - 1) s_tape s_taped s_cursor s_start s_token s_value s_fault s_faultAt s_latest s_isKept s_kept s_trace s_traced)) → va_S A s.heap H locs → lv_has ls 2 [(0, .ref q_s), (1, .int v1_h27)] → fX9_undo_L27 s_was s_acts k27_59 n v1_h27 s_isle_h27 = some res → W p l e (headSpec wsX9_undo rmX9_undo).room s m ([.ref q_s] : List Value).toArray below meth c H locs 0 0 QQ (F0 m 27 ls []) := by
      intro k27_59 Kk27_59 n
      induction n with
      | zero => intro v1_h27 s_isle_h27 H locs ls hP hD hS hl h; rw [fX9_undo_L27.eq_1] at h; cases h
      | succ n ih =>
        intro v1_h27 s_isle_h27 H locs ls hP hD hS hl h
        rw [fX9_undo_L27.eq_2] at h
        refine lv_iload_n hx hb dX9_undo_27 rfl (lv_at hl 1 rfl) ?_
        refine lv_bipush (v := 51) hx hb dX9_undo_28 (by decide) ?_
        refine lv_icmp_ge (tgt := 59) hx hb dX9_undo_30 (by decide) (fun c_2 => ?_) (fun c_2 => ?_)
        · have h := (if_pos c_2).symm.trans h
          exact Kk27_59 s_isle_h27 _ _ _ hP hD hS (lv_sub hl [0] rfl) h
        · have h := (if_neg c_2).symm.trans h
          refine lv_aload_n hx hb dX9_undo_33 rfl (lv_at hl 0 rfl) ?_
          refine va_get (D := (dC, dI)) (ci := 7) (v := .ref q_s_isle) (C := RX9) (T := TX9) (N := 23) hx hb hts w_1 hown hK hP 0 rfl rfl 5 (by decide) w_3 (fun _ h9 => h9) rfl dX9_undo_34 ?_
          refine lv_iload_n hx hb dX9_undo_37 rfl (lv_at hl 1 rfl) ?_
          refine lv_aload_n hx hb dX9_undo_38 rfl (lv_at hl 0 rfl) ?_
          refine va_get (D := (dC, dI)) (ci := 7) (v := .ref q_s_was) (C := RX9) (T := TX9) (N := 23) hx hb hts w_1 hown hK hP 0 rfl rfl 8 (by decide) w_4 (fun _ h9 => h9) rfl dX9_undo_39 ?_
          refine lv_bipush (v := 51) hx hb dX9_undo_42 (by decide) ?_
          refine lv_aload_n hx hb dX9_undo_44 rfl (lv_at hl 0 rfl) ?_
          refine va_get (D := (dC, dI)) (ci := 7) (v := .int (s_acts - 1)) (C := RX9) (T := TX9) (N := 23) hx hb hts w_1 hown hK hP 0 rfl rfl 9 (by decide) w_2 (fun _ h9 => h9) rfl dX9_undo_45 ?_
          refine lv_imul hx hb dX9_undo_48 ?_
          refine lv_iload_n hx hb dX9_undo_49 rfl (lv_at hl 1 rfl) ?_
          refine lv_iadd hx hb dX9_undo_50 ?_
          obtain ⟨b_3, h⟩ := chk_of h
          refine va_iald hx hb hK hP 7 0 rfl rfl (i := ((51 * (s_acts - 1)) + v1_h27)) b_3 dX9_undo_51 ?_
          obtain ⟨b_4, h⟩ := chk_of h
          refine va_iast hx hb hK hP hD hS 4 0 rfl rfl (i := v1_h27) (x := (s_was ((51 * (s_acts - 1)) + v1_h27).toNatClampNeg)) b_4 dX9_undo_52 (fun H locs hP hD hS => ?_)
          have hP : va_P (dC, dI) vwCl ((W_M cI cZ q_s q_s_lane q_s_many q_s_item q_s_isle q_s_fresh q_s_then q_s_was q_s_tape q_s_isKept q_s_kept q_s_trace 0 s_status s_lane s_many s_item (upd s_isle_h27 v1_h27.toNatClampNeg (s_was ((51 * (s_acts - 1)) + v1_h27).toNatClampNeg)) s_fresh s_then s_was (s_acts - 1) s_tape s_taped s_cursor s_start s_token s_value s_fault s_faultAt s_latest s_isKept s_kept s_trace s_traced)) H := hP
          have hD : va_D A ((W_M cI cZ q_s q_s_lane q_s_many q_s_item q_s_isle q_s_fresh q_s_then q_s_was q_s_tape q_s_isKept q_s_kept q_s_trace 0 s_status s_lane s_many s_item (upd s_isle_h27 v1_h27.toNatClampNeg (s_was ((51 * (s_acts - 1)) + v1_h27).toNatClampNeg)) s_fresh s_then s_was (s_acts - 1) s_tape s_taped s_cursor s_start s_token s_value s_fault s_faultAt s_latest s_isKept s_kept s_trace s_traced)) := hD
          refine lv_iinc (v := (v1_h27 + 1)) (lv' := [(1, .int (v1_h27 + 1)), (0, .ref q_s)]) hx hb dX9_undo_53 hl (k := 1) rfl rfl (by decide) rfl (fun ls hl => ?_)
          refine lv_goto (tgt := 27) hx hb dX9_undo_56 (by decide) ?_
          exact ih (v1_h27 + 1) (upd s_isle_h27 v1_h27.toNatClampNeg (s_was ((51 * (s_acts - 1)) + v1_h27).toNatClampNeg)) _ _ _ hP hD hS (lv_sub hl [1, 0] rfl) h
    refine KL27 _ (fun s_isle_e59 H locs ls hP hD hS hl h => ?_) FU 0 s_isle _ _ _ hP hD hS (lv_sub hl [1, 0] rfl) h
    refine lv_aload_n hx hb dX9_undo_59 rfl (lv_at hl 0 rfl) ?_
    refine va_get (D := (dC, dI)) (ci := 7) (v := .int (s_acts - 1)) (C := RX9) (T := TX9) (N := 23) hx hb hts w_1 hown hK hP 0 rfl rfl 9 (by decide) w_2 (fun _ h9 => h9) rfl dX9_undo_60 ?_
    have h := Option.some.inj h
    subst h
    rw [hQQ]
    subst hAe
    exact W.iret (v := (s_acts - 1)) hx hb hr (fun t ht hW => ⟨⟨_, (), rfl, rfl, by rw [ht]; exact hP, va_K.moved hW.alike hK, hD⟩, hS.F ht⟩) hS.2.2 dX9_undo_63
  · have h := (if_pos c_1).symm.trans h
    refine lv_ldc hx hb hown w_5 dX9_undo_12 ?_
    have h := Option.some.inj h
    subst h
    rw [hQQ]
    subst hAe
    exact W.iret (v := (-1000002)) hx hb hr (fun t ht hW => ⟨⟨_, (), rfl, rfl, by rw [ht]; exact hP, va_K.moved hW.alike hK, hD⟩, hS.F ht⟩) hS.2.2 dX9_undo_14
def fX9_bidder (s_isle : (Nat → Int32)) (v1 : Int32) (v2 : Int32) : Option (Int32 × Int32) :=
  bd1 (fX9_isBidder s_isle v1) (fun r_1 => (if r_1 = 0 then some ((-1000001), 0) else bd1 (fX9_in v2.toInt64 0 2) (fun r_3 => (if r_3 = 0 then some ((-1000001), 0) else (if v2 = 2 then bd1 (fX9_heldBy s_isle v1) (fun r_7 => some (r_7, 0)) else bd1 (fX9_of s_isle v1 (1 + v2)) (fun r_6 => some (r_6, 0)))))))
abbrev rmX9_bidder : Room := { frames := 2, cells := 0, slots := 0, locals := 46 }
theorem ddX9_bidder : yX9_bidder.cls ≠ "java/lang/invoke/MethodHandle" ∧ yX9_bidder.cls ≠ "java/lang/invoke/VarHandle" ∧ (parseMethodDescriptor yX9_bidder.desc).map (fun d => d.parameters.length) = some 2 := by decide +kernel
set_option maxHeartbeats 4000000 in
set_option maxRecDepth 100000 in
theorem m_X9_bidder (l : Launch) (dC : Nat → ClassId) (dI : Nat → Nat → Nat) (cI cZ : ClassId) (q_s q_s_lane q_s_many q_s_item q_s_isle q_s_fresh q_s_then q_s_was q_s_tape q_s_isKept q_s_kept q_s_trace : Nat) (s_thrown : Int32) (s_status : Int32) (s_lane : (Nat → Int32)) (s_many : (Nat → Int32)) (s_item : (Nat → Int32)) (s_isle : (Nat → Int32)) (s_fresh : (Nat → Int32)) (s_then : (Nat → Int32)) (s_was : (Nat → Int32)) (s_acts : Int32) (s_tape : (Nat → Int32)) (s_taped : Int32) (s_cursor : Int32) (s_start : Int32) (s_token : Int32) (s_value : Int32) (s_fault : Int32) (s_faultAt : Int32) (s_latest : Int32) (s_isKept : (Nat → Int32)) (s_kept : (Nat → Int32)) (s_trace : (Nat → Int32)) (s_traced : Int32) (v1 : Int32) (v2 : Int32) (sz : Nat) (res : Int32 × Int32) (hf : fX9_bidder s_isle v1 v2 = some res) : Met l yX9_bidder wsX9_bidder rmX9_bidder (mtPc (dC, dI) (tyZ cI cZ) ((W_M cI cZ q_s q_s_lane q_s_many q_s_item q_s_isle q_s_fresh q_s_then q_s_was q_s_tape q_s_isKept q_s_kept q_s_trace s_thrown s_status s_lane s_many s_item s_isle s_fresh s_then s_was s_acts s_tape s_taped s_cursor s_start s_token s_value s_fault s_faultAt s_latest s_isKept s_kept s_trace s_traced)) [.ref q_s, .int v1, .int v2] sz) (mtQi (dC, dI) (tyZ cI cZ) ((W_M cI cZ q_s q_s_lane q_s_many q_s_item q_s_isle q_s_fresh q_s_then q_s_was q_s_tape q_s_isKept q_s_kept q_s_trace s_thrown s_status s_lane s_many s_item s_isle s_fresh s_then s_was s_acts s_tape s_taped s_cursor s_start s_token s_value s_fault s_faultAt s_latest s_isKept s_kept s_trace s_traced)) ((W_M cI cZ q_s q_s_lane q_s_many q_s_item q_s_isle q_s_fresh q_s_then q_s_was q_s_tape q_s_isKept q_s_kept q_s_trace res.2 s_status s_lane s_many s_item s_isle s_fresh s_then s_was s_acts s_tape s_taped s_cursor s_start s_token s_value s_fault s_faultAt s_latest s_isKept s_kept s_trace s_traced)) res.1 sz) 0 0 (va_A ((W_M cI cZ q_s q_s_lane q_s_many q_s_item q_s_isle q_s_fresh q_s_then q_s_was q_s_tape q_s_isKept q_s_kept q_s_trace s_thrown s_status s_lane s_many s_item s_isle s_fresh s_then s_was s_acts s_tape s_taped s_cursor s_start s_token s_value s_fault s_faultAt s_latest s_isKept s_kept s_trace s_traced)) sz) := by
  refine Met.ofW (cc := cX9_bidder) (maxL := 3) (ret := (some .int)) (by decide) rfl ?_
  intro p e s m args below meth c s₁ B hml hv
  obtain ⟨rfl, hsz, hP, hK, hD0⟩ := hv
  have hx := B.exec
  have hb := B.bytes
  have hr := B.returns
  have hts := atoms_spec (ws := wsX9_bidder) B.pre
  have hown : s.vm.findClass RX9 = some m.cls := findClass_of_methodNamed B.named
  have hlocks := B.notSynchronized
  subst hsz
  have hD := hD0.self (sz := s.heap.size)
  obtain ⟨A, hAe⟩ : ∃ A, A = va_A ((W_M cI cZ q_s q_s_lane q_s_many q_s_item q_s_isle q_s_fresh q_s_then q_s_was q_s_tape q_s_isKept q_s_kept q_s_trace s_thrown s_status s_lane s_many s_item s_isle s_fresh s_then s_was s_acts s_tape s_taped s_cursor s_start s_token s_value s_fault s_faultAt s_latest s_isKept s_kept s_trace s_traced)) s.heap.size := ⟨_, rfl⟩
  rw [← hAe] at hD
  have hA : ∀ q : Nat, s.heap.size ≤ q → A q := fun q h => by rw [hAe]; exact Or.inr h
  have hS : va_S A s.heap s.heap [] := va_S.rf
  have hl := lv_entry ([.ref q_s, .int v1, .int v2]) (n := 3) (Nat.le_of_ble_eq_true rfl)
  rw [lg_entry_eq]
  generalize (lg_sl ([.ref q_s, .int v1, .int v2]) ++ List.replicate (3 - (lg_sl ([.ref q_s, .int v1, .int v2])).length) Slot.unset).toArray = ls at hl ⊢
  have hl : lv_has ls 3 [(0, .ref q_s), (1, .int v1), (2, .int v2)] := hl
  obtain ⟨QQ, hQQ⟩ : ∃ Q, Q = MQ below (mtQi (dC, dI) (tyZ cI cZ) ((W_M cI cZ q_s q_s_lane q_s_many q_s_item q_s_isle q_s_fresh q_s_then q_s_was q_s_tape q_s_isKept q_s_kept q_s_trace s_thrown s_status s_lane s_many s_item s_isle s_fresh s_then s_was s_acts s_tape s_taped s_cursor s_start s_token s_value s_fault s_faultAt s_latest s_isKept s_kept s_trace s_traced)) ((W_M cI cZ q_s q_s_lane q_s_many q_s_item q_s_isle q_s_fresh q_s_then q_s_was q_s_tape q_s_isKept q_s_kept q_s_trace res.2 s_status s_lane s_many s_item s_isle s_fresh s_then s_was s_acts s_tape s_taped s_cursor s_start s_token s_value s_fault s_faultAt s_latest s_isKept s_kept s_trace s_traced)) res.1 s.heap.size) ([.ref q_s, .int v1, .int v2] : List Value).toArray s 0 0 (va_A ((W_M cI cZ q_s q_s_lane q_s_many q_s_item q_s_isle q_s_fresh q_s_then q_s_was q_s_tape q_s_isKept q_s_kept q_s_trace s_thrown s_status s_lane s_many s_item s_isle s_fresh s_then s_was s_acts s_tape s_taped s_cursor s_start s_token s_value s_fault s_faultAt s_latest s_isKept s_kept s_trace s_traced)) s.heap.size) := ⟨_, rfl⟩
  rw [← hQQ]
  have w_0 := hts (Cond.fieldLink RX9 44 "TideInchesModel" "thrown" "I") (List.mem_of_getElem? (i := 1) rfl)
  have w_1 := (fun w hw => List.mem_cons_of_mem _ (List.mem_append_right _ hw) : ∀ w ∈ wsX90, w ∈ wsX9_bidder)
  have w_2 := hts (Cond.constant RX9 64 (-1000001)) (List.mem_of_getElem? (i := 3) rfl)
  have w_3 := hts (Cond.constantLong RX9 62 (2)) (List.mem_of_getElem? (i := 2) rfl)
  have w_4 := hts (Cond.fieldLink RX9 19 "TideInchesModel" "isle" "[I") (List.mem_of_getElem? (i := 4) rfl)
  have h := hf
  unfold fX9_bidder at h
  refine lv_aload_n hx hb dX9_bidder_0 rfl (lv_at hl 0 rfl) ?_
  refine lv_iconst (v := 0) hx hb dX9_bidder_1 (by decide) ?_
  refine va_put (D := (dC, dI)) (ci := 7) (v := .int 0) (ty := .int) (C := RX9) (T := TX9) (N := 23) hx hb hts w_1 tyX9 tyX9_ok nmX9 hown hK hP hD hS 0 rfl rfl 0 (by decide) w_0 (fun _ h9 => h9) rfl (by decide +kernel) rfl rfl (Nat.le_of_ble_eq_true rfl) dX9_bidder_2 (fun H locs hP hD hS => ?_)
  have hP : va_P (dC, dI) vwCl ((W_M cI cZ q_s q_s_lane q_s_many q_s_item q_s_isle q_s_fresh q_s_then q_s_was q_s_tape q_s_isKept q_s_kept q_s_trace 0 s_status s_lane s_many s_item s_isle s_fresh s_then s_was s_acts s_tape s_taped s_cursor s_start s_token s_value s_fault s_faultAt s_latest s_isKept s_kept s_trace s_traced)) H := hP
  have hD : va_D A ((W_M cI cZ q_s q_s_lane q_s_many q_s_item q_s_isle q_s_fresh q_s_then q_s_was q_s_tape q_s_isKept q_s_kept q_s_trace 0 s_status s_lane s_many s_item s_isle s_fresh s_then s_was s_acts s_tape s_taped s_cursor s_start s_token s_value s_fault s_faultAt s_latest s_isKept s_kept s_trace s_traced)) := hD
  refine lv_aload_n hx hb dX9_bidder_5 rfl (lv_at hl 0 rfl) ?_
  refine lv_iload_n hx hb dX9_bidder_6 rfl (lv_at hl 1 rfl) ?_
  obtain ⟨r_1, hc_1, h⟩ := bd1_of h
  refine cl_rV (As := [.int v1]) (rest := []) ⟨hx, hb, hml, hown, hts⟩ (m_X9_isBidder l dC dI cI cZ q_s q_s_lane q_s_many q_s_item q_s_isle q_s_fresh q_s_then q_s_was q_s_tape q_s_isKept q_s_kept q_s_trace 0 s_status s_lane s_many s_item s_isle s_fresh s_then s_was s_acts s_tape s_taped s_cursor s_start s_token s_value s_fault s_faultAt s_latest s_isKept s_kept s_trace s_traced v1 (r_1) hc_1) (cwV 1 hts gX9_bidder_X9_isBidder rfl rfl rfl ⟨rfl, ddX9_isBidder⟩ ⟨Nat.le_of_ble_eq_true rfl, Nat.le_of_ble_eq_true rfl⟩) hK hP [0, 1, 2, 3, 4, 5, 6, 7, 8, 9, 10, 11] rfl rfl rfl rfl rfl hl.1 (Nat.le_of_ble_eq_true rfl) ⟨Nat.zero_le _, Nat.zero_le _⟩ dX9_bidder_7 ?_
  refine lv_if_eq (tgt := 25) hx hb dX9_bidder_10 (by decide) (fun c_2 => ?_) (fun c_2 => ?_)
  · have h := (if_pos c_2).symm.trans h
    refine lv_ldc hx hb hown w_2 dX9_bidder_25 ?_
    have h := Option.some.inj h
    subst h
    rw [hQQ]
    subst hAe
    exact W.iret (v := (-1000001)) hx hb hr (fun t ht hW => ⟨⟨_, (), rfl, rfl, by rw [ht]; exact hP, va_K.moved hW.alike hK, hD⟩, hS.F ht⟩) hS.2.2 dX9_bidder_27
  · have h := (if_neg c_2).symm.trans h
    refine lv_iload_n hx hb dX9_bidder_13 rfl (lv_at hl 2 rfl) ?_
    refine lv_i2l hx hb dX9_bidder_14 rfl ?_
    refine lv_lconst (v := 0) hx hb dX9_bidder_15 (by decide) ?_
    refine lv_ldc2 hx hb hown w_3 dX9_bidder_16 ?_
    obtain ⟨r_3, hc_3, h⟩ := bd1_of h
    refine cl_pS (As := [.long v2.toInt64, .long 0, .long 2]) (rest := []) ⟨hx, hb, hml, hown, hts⟩ (m_X9_in l v2.toInt64 0 2 (r_3) hc_3) (va_cwS 3 hts gX9_bidder_X9_in rfl rfl rfl ddX9_in ⟨Nat.le_of_ble_eq_true rfl, Nat.le_of_ble_eq_true rfl⟩) rfl rfl hl.1 (Nat.le_of_ble_eq_true rfl) ⟨Nat.zero_le _, Nat.zero_le _⟩ dX9_bidder_19 ?_
    refine lv_if_ne (tgt := 28) hx hb dX9_bidder_22 (by decide) (fun c_4 => ?_) (fun c_4 => ?_)
    · have h := (if_neg c_4).symm.trans h
      refine lv_iload_n hx hb dX9_bidder_28 rfl (lv_at hl 2 rfl) ?_
      refine lv_iconst (v := 2) hx hb dX9_bidder_29 (by decide) ?_
      refine lv_icmp_ne (tgt := 44) hx hb dX9_bidder_30 (by decide) (fun c_5 => ?_) (fun c_5 => ?_)
      · have h := (if_neg c_5).symm.trans h
        refine lv_aload_n hx hb dX9_bidder_44 rfl (lv_at hl 0 rfl) ?_
        refine va_get (D := (dC, dI)) (ci := 7) (v := .ref q_s_isle) (C := RX9) (T := TX9) (N := 23) hx hb hts w_1 hown hK hP 0 rfl rfl 5 (by decide) w_4 (fun _ h9 => h9) rfl dX9_bidder_45 ?_
        refine lv_iload_n hx hb dX9_bidder_48 rfl (lv_at hl 1 rfl) ?_
        refine lv_iconst (v := 1) hx hb dX9_bidder_49 (by decide) ?_
        refine lv_iload_n hx hb dX9_bidder_50 rfl (lv_at hl 2 rfl) ?_
        refine lv_iadd hx hb dX9_bidder_51 ?_
        obtain ⟨r_6, hc_6, h⟩ := bd1_of h
        refine cl_rS (As := [.ref q_s_isle, .int v1, .int (1 + v2)]) (rest := []) ⟨hx, hb, hml, hown, hts⟩ (m_X9_of l dC dI cI cZ q_s_isle s_isle v1 (1 + v2) (r_6) hc_6) (va_cwS 3 hts gX9_bidder_X9_of rfl rfl rfl ddX9_of ⟨Nat.le_of_ble_eq_true rfl, Nat.le_of_ble_eq_true rfl⟩) hK hP [4] rfl rfl rfl hl.1 (Nat.le_of_ble_eq_true rfl) ⟨Nat.zero_le _, Nat.zero_le _⟩ dX9_bidder_52 ?_
        have h := Option.some.inj h
        subst h
        rw [hQQ]
        subst hAe
        exact W.iret (v := r_6) hx hb hr (fun t ht hW => ⟨⟨_, (), rfl, rfl, by rw [ht]; exact hP, va_K.moved hW.alike hK, hD⟩, hS.F ht⟩) hS.2.2 dX9_bidder_55
      · have h := (if_pos c_5).symm.trans h
        refine lv_aload_n hx hb dX9_bidder_33 rfl (lv_at hl 0 rfl) ?_
        refine va_get (D := (dC, dI)) (ci := 7) (v := .ref q_s_isle) (C := RX9) (T := TX9) (N := 23) hx hb hts w_1 hown hK hP 0 rfl rfl 5 (by decide) w_4 (fun _ h9 => h9) rfl dX9_bidder_34 ?_
        refine lv_iload_n hx hb dX9_bidder_37 rfl (lv_at hl 1 rfl) ?_
        obtain ⟨r_7, hc_7, h⟩ := bd1_of h
        refine cl_rS (As := [.ref q_s_isle, .int v1]) (rest := []) ⟨hx, hb, hml, hown, hts⟩ (m_X9_heldBy l dC dI cI cZ q_s_isle s_isle v1 (r_7) hc_7) (va_cwS 2 hts gX9_bidder_X9_heldBy rfl rfl rfl ddX9_heldBy ⟨Nat.le_of_ble_eq_true rfl, Nat.le_of_ble_eq_true rfl⟩) hK hP [4] rfl rfl rfl hl.1 (Nat.le_of_ble_eq_true rfl) ⟨Nat.zero_le _, Nat.zero_le _⟩ dX9_bidder_38 ?_
        refine lv_goto (tgt := 55) hx hb dX9_bidder_41 (by decide) ?_
        have h := Option.some.inj h
        subst h
        rw [hQQ]
        subst hAe
        exact W.iret (v := r_7) hx hb hr (fun t ht hW => ⟨⟨_, (), rfl, rfl, by rw [ht]; exact hP, va_K.moved hW.alike hK, hD⟩, hS.F ht⟩) hS.2.2 dX9_bidder_55
    · have h := (if_pos c_4).symm.trans h
      refine lv_ldc hx hb hown w_2 dX9_bidder_25 ?_
      have h := Option.some.inj h
      subst h
      rw [hQQ]
      subst hAe
      exact W.iret (v := (-1000001)) hx hb hr (fun t ht hW => ⟨⟨_, (), rfl, rfl, by rw [ht]; exact hP, va_K.moved hW.alike hK, hD⟩, hS.F ht⟩) hS.2.2 dX9_bidder_27
def fX9_cell (s_isle : (Nat → Int32)) (v1 : Int32) (v2 : Int32) : Option (Int32 × Int32) :=
  bd1 (fX9_isThere s_isle) (fun r_1 => (if r_1 = 0 then some ((-1000002), 0) else bd1 (fX9_isCell v1) (fun r_3 => (if r_3 = 0 then some ((-1000001), 0) else (if v2 = 0 then chk (¬ ((6 + v1) < 0 ∨ 51 ≤ (6 + v1).toNatClampNeg)) (some ((s_isle (6 + v1).toNatClampNeg), 0)) else (if v2 = 1 then chk (¬ ((21 + v1) < 0 ∨ 51 ≤ (21 + v1).toNatClampNeg)) ((if (s_isle (21 + v1).toNatClampNeg) = 0 then some ((-1000000), 0) else chk (¬ ((21 + v1) < 0 ∨ 51 ≤ (21 + v1).toNatClampNeg)) (some (((s_isle (21 + v1).toNatClampNeg) - 1), 0)))) else (if v2 = 2 then bd1 (fX9_isDry s_isle v1) (fun r_12 => (if r_12 = 0 then some (0, 0) else some (1, 0))) else (if v2 = 3 then bd1 (fX9_deepOf s_isle v1) (fun r_15 => some (r_15, 0)) else some ((-1000001), 0)))))))))
abbrev rmX9_cell : Room := { frames := 3, cells := 0, slots := 0, locals := 64 }
theorem ddX9_cell : yX9_cell.cls ≠ "java/lang/invoke/MethodHandle" ∧ yX9_cell.cls ≠ "java/lang/invoke/VarHandle" ∧ (parseMethodDescriptor yX9_cell.desc).map (fun d => d.parameters.length) = some 2 := by decide +kernel
set_option maxHeartbeats 4000000 in
set_option maxRecDepth 100000 in
theorem m_X9_cell (l : Launch) (dC : Nat → ClassId) (dI : Nat → Nat → Nat) (cI cZ : ClassId) (q_s q_s_lane q_s_many q_s_item q_s_isle q_s_fresh q_s_then q_s_was q_s_tape q_s_isKept q_s_kept q_s_trace : Nat) (s_thrown : Int32) (s_status : Int32) (s_lane : (Nat → Int32)) (s_many : (Nat → Int32)) (s_item : (Nat → Int32)) (s_isle : (Nat → Int32)) (s_fresh : (Nat → Int32)) (s_then : (Nat → Int32)) (s_was : (Nat → Int32)) (s_acts : Int32) (s_tape : (Nat → Int32)) (s_taped : Int32) (s_cursor : Int32) (s_start : Int32) (s_token : Int32) (s_value : Int32) (s_fault : Int32) (s_faultAt : Int32) (s_latest : Int32) (s_isKept : (Nat → Int32)) (s_kept : (Nat → Int32)) (s_trace : (Nat → Int32)) (s_traced : Int32) (v1 : Int32) (v2 : Int32) (sz : Nat) (res : Int32 × Int32) (hf : fX9_cell s_isle v1 v2 = some res) : Met l yX9_cell wsX9_cell rmX9_cell (mtPc (dC, dI) (tyZ cI cZ) ((W_M cI cZ q_s q_s_lane q_s_many q_s_item q_s_isle q_s_fresh q_s_then q_s_was q_s_tape q_s_isKept q_s_kept q_s_trace s_thrown s_status s_lane s_many s_item s_isle s_fresh s_then s_was s_acts s_tape s_taped s_cursor s_start s_token s_value s_fault s_faultAt s_latest s_isKept s_kept s_trace s_traced)) [.ref q_s, .int v1, .int v2] sz) (mtQi (dC, dI) (tyZ cI cZ) ((W_M cI cZ q_s q_s_lane q_s_many q_s_item q_s_isle q_s_fresh q_s_then q_s_was q_s_tape q_s_isKept q_s_kept q_s_trace s_thrown s_status s_lane s_many s_item s_isle s_fresh s_then s_was s_acts s_tape s_taped s_cursor s_start s_token s_value s_fault s_faultAt s_latest s_isKept s_kept s_trace s_traced)) ((W_M cI cZ q_s q_s_lane q_s_many q_s_item q_s_isle q_s_fresh q_s_then q_s_was q_s_tape q_s_isKept q_s_kept q_s_trace res.2 s_status s_lane s_many s_item s_isle s_fresh s_then s_was s_acts s_tape s_taped s_cursor s_start s_token s_value s_fault s_faultAt s_latest s_isKept s_kept s_trace s_traced)) res.1 sz) 0 0 (va_A ((W_M cI cZ q_s q_s_lane q_s_many q_s_item q_s_isle q_s_fresh q_s_then q_s_was q_s_tape q_s_isKept q_s_kept q_s_trace s_thrown s_status s_lane s_many s_item s_isle s_fresh s_then s_was s_acts s_tape s_taped s_cursor s_start s_token s_value s_fault s_faultAt s_latest s_isKept s_kept s_trace s_traced)) sz) := by
  refine Met.ofW (cc := cX9_cell) (maxL := 3) (ret := (some .int)) (by decide) rfl ?_
  intro p e s m args below meth c s₁ B hml hv
  obtain ⟨rfl, hsz, hP, hK, hD0⟩ := hv
  have hx := B.exec
  have hb := B.bytes
  have hr := B.returns
  have hts := atoms_spec (ws := wsX9_cell) B.pre
  have hown : s.vm.findClass RX9 = some m.cls := findClass_of_methodNamed B.named
  have hlocks := B.notSynchronized
  subst hsz
  have hD := hD0.self (sz := s.heap.size)
  obtain ⟨A, hAe⟩ : ∃ A, A = va_A ((W_M cI cZ q_s q_s_lane q_s_many q_s_item q_s_isle q_s_fresh q_s_then q_s_was q_s_tape q_s_isKept q_s_kept q_s_trace s_thrown s_status s_lane s_many s_item s_isle s_fresh s_then s_was s_acts s_tape s_taped s_cursor s_start s_token s_value s_fault s_faultAt s_latest s_isKept s_kept s_trace s_traced)) s.heap.size := ⟨_, rfl⟩
  rw [← hAe] at hD
  have hA : ∀ q : Nat, s.heap.size ≤ q → A q := fun q h => by rw [hAe]; exact Or.inr h
  have hS : va_S A s.heap s.heap [] := va_S.rf
  have hl := lv_entry ([.ref q_s, .int v1, .int v2]) (n := 3) (Nat.le_of_ble_eq_true rfl)
  rw [lg_entry_eq]
  generalize (lg_sl ([.ref q_s, .int v1, .int v2]) ++ List.replicate (3 - (lg_sl ([.ref q_s, .int v1, .int v2])).length) Slot.unset).toArray = ls at hl ⊢
  have hl : lv_has ls 3 [(0, .ref q_s), (1, .int v1), (2, .int v2)] := hl
  obtain ⟨QQ, hQQ⟩ : ∃ Q, Q = MQ below (mtQi (dC, dI) (tyZ cI cZ) ((W_M cI cZ q_s q_s_lane q_s_many q_s_item q_s_isle q_s_fresh q_s_then q_s_was q_s_tape q_s_isKept q_s_kept q_s_trace s_thrown s_status s_lane s_many s_item s_isle s_fresh s_then s_was s_acts s_tape s_taped s_cursor s_start s_token s_value s_fault s_faultAt s_latest s_isKept s_kept s_trace s_traced)) ((W_M cI cZ q_s q_s_lane q_s_many q_s_item q_s_isle q_s_fresh q_s_then q_s_was q_s_tape q_s_isKept q_s_kept q_s_trace res.2 s_status s_lane s_many s_item s_isle s_fresh s_then s_was s_acts s_tape s_taped s_cursor s_start s_token s_value s_fault s_faultAt s_latest s_isKept s_kept s_trace s_traced)) res.1 s.heap.size) ([.ref q_s, .int v1, .int v2] : List Value).toArray s 0 0 (va_A ((W_M cI cZ q_s q_s_lane q_s_many q_s_item q_s_isle q_s_fresh q_s_then q_s_was q_s_tape q_s_isKept q_s_kept q_s_trace s_thrown s_status s_lane s_many s_item s_isle s_fresh s_then s_was s_acts s_tape s_taped s_cursor s_start s_token s_value s_fault s_faultAt s_latest s_isKept s_kept s_trace s_traced)) s.heap.size) := ⟨_, rfl⟩
  rw [← hQQ]
  have w_0 := hts (Cond.fieldLink RX9 44 "TideInchesModel" "thrown" "I") (List.mem_of_getElem? (i := 1) rfl)
  have w_1 := (fun w hw => List.mem_cons_of_mem _ (List.mem_append_right _ hw) : ∀ w ∈ wsX90, w ∈ wsX9_cell)
  have w_2 := hts (Cond.fieldLink RX9 19 "TideInchesModel" "isle" "[I") (List.mem_of_getElem? (i := 4) rfl)
  have w_3 := hts (Cond.constant RX9 87 (-1000000)) (List.mem_of_getElem? (i := 5) rfl)
  have w_4 := hts (Cond.constant RX9 64 (-1000001)) (List.mem_of_getElem? (i := 3) rfl)
  have w_5 := hts (Cond.constant RX9 181 (-1000002)) (List.mem_of_getElem? (i := 2) rfl)
  have h := hf
  unfold fX9_cell at h
  refine lv_aload_n hx hb dX9_cell_0 rfl (lv_at hl 0 rfl) ?_
  refine lv_iconst (v := 0) hx hb dX9_cell_1 (by decide) ?_
  refine va_put (D := (dC, dI)) (ci := 7) (v := .int 0) (ty := .int) (C := RX9) (T := TX9) (N := 23) hx hb hts w_1 tyX9 tyX9_ok nmX9 hown hK hP hD hS 0 rfl rfl 0 (by decide) w_0 (fun _ h9 => h9) rfl (by decide +kernel) rfl rfl (Nat.le_of_ble_eq_true rfl) dX9_cell_2 (fun H locs hP hD hS => ?_)
  have hP : va_P (dC, dI) vwCl ((W_M cI cZ q_s q_s_lane q_s_many q_s_item q_s_isle q_s_fresh q_s_then q_s_was q_s_tape q_s_isKept q_s_kept q_s_trace 0 s_status s_lane s_many s_item s_isle s_fresh s_then s_was s_acts s_tape s_taped s_cursor s_start s_token s_value s_fault s_faultAt s_latest s_isKept s_kept s_trace s_traced)) H := hP
  have hD : va_D A ((W_M cI cZ q_s q_s_lane q_s_many q_s_item q_s_isle q_s_fresh q_s_then q_s_was q_s_tape q_s_isKept q_s_kept q_s_trace 0 s_status s_lane s_many s_item s_isle s_fresh s_then s_was s_acts s_tape s_taped s_cursor s_start s_token s_value s_fault s_faultAt s_latest s_isKept s_kept s_trace s_traced)) := hD
  refine lv_aload_n hx hb dX9_cell_5 rfl (lv_at hl 0 rfl) ?_
  obtain ⟨r_1, hc_1, h⟩ := bd1_of h
  refine cl_rV (As := []) (rest := []) ⟨hx, hb, hml, hown, hts⟩ (m_X9_isThere l dC dI cI cZ q_s q_s_lane q_s_many q_s_item q_s_isle q_s_fresh q_s_then q_s_was q_s_tape q_s_isKept q_s_kept q_s_trace 0 s_status s_lane s_many s_item s_isle s_fresh s_then s_was s_acts s_tape s_taped s_cursor s_start s_token s_value s_fault s_faultAt s_latest s_isKept s_kept s_trace s_traced (r_1) hc_1) (cwV 0 hts gX9_cell_X9_isThere rfl rfl rfl ⟨rfl, ddX9_isThere⟩ ⟨Nat.le_of_ble_eq_true rfl, Nat.le_of_ble_eq_true rfl⟩) hK hP [0, 1, 2, 3, 4, 5, 6, 7, 8, 9, 10, 11] rfl rfl rfl rfl rfl hl.1 (Nat.le_of_ble_eq_true rfl) ⟨Nat.zero_le _, Nat.zero_le _⟩ dX9_cell_6 ?_
  refine lv_if_ne (tgt := 15) hx hb dX9_cell_9 (by decide) (fun c_2 => ?_) (fun c_2 => ?_)
  · have h := (if_neg c_2).symm.trans h
    refine lv_iload_n hx hb dX9_cell_15 rfl (lv_at hl 1 rfl) ?_
    obtain ⟨r_3, hc_3, h⟩ := bd1_of h
    refine cl_pS (As := [.int v1]) (rest := []) ⟨hx, hb, hml, hown, hts⟩ (m_X9_isCell l v1 (r_3) hc_3) (va_cwS 1 hts gX9_cell_X9_isCell rfl rfl rfl ddX9_isCell ⟨Nat.le_of_ble_eq_true rfl, Nat.le_of_ble_eq_true rfl⟩) rfl rfl hl.1 (Nat.le_of_ble_eq_true rfl) ⟨Nat.zero_le _, Nat.zero_le _⟩ dX9_cell_16 ?_
    refine lv_if_ne (tgt := 25) hx hb dX9_cell_19 (by decide) (fun c_4 => ?_) (fun c_4 => ?_)
    · have h := (if_neg c_4).symm.trans h
      refine lv_iload_n hx hb dX9_cell_25 rfl (lv_at hl 2 rfl) ?_
      by_cases c_5 : v2 = 0
      · have h := (if_pos c_5).symm.trans h
        refine lv_tableIn (tgt := 56) hx hb dX9_cell_26 (by rw [c_5]; decide) (by rw [c_5]; decide) (by rw [c_5]; rfl) (by decide) ?_
        refine lv_aload_n hx hb dX9_cell_56 rfl (lv_at hl 0 rfl) ?_
        refine va_get (D := (dC, dI)) (ci := 7) (v := .ref q_s_isle) (C := RX9) (T := TX9) (N := 23) hx hb hts w_1 hown hK hP 0 rfl rfl 5 (by decide) w_2 (fun _ h9 => h9) rfl dX9_cell_57 ?_
        refine lv_bipush (v := 6) hx hb dX9_cell_60 (by decide) ?_
        refine lv_iload_n hx hb dX9_cell_62 rfl (lv_at hl 1 rfl) ?_
        refine lv_iadd hx hb dX9_cell_63 ?_
        obtain ⟨b_6, h⟩ := chk_of h
        refine va_iald hx hb hK hP 4 0 rfl rfl (i := (6 + v1)) b_6 dX9_cell_64 ?_
        have h := Option.some.inj h
        subst h
        rw [hQQ]
        subst hAe
        exact W.iret (v := (s_isle (6 + v1).toNatClampNeg)) hx hb hr (fun t ht hW => ⟨⟨_, (), rfl, rfl, by rw [ht]; exact hP, va_K.moved hW.alike hK, hD⟩, hS.F ht⟩) hS.2.2 dX9_cell_65
      have h := (if_neg c_5).symm.trans h
      by_cases c_7 : v2 = 1
      · have h := (if_pos c_7).symm.trans h
        refine lv_tableIn (tgt := 66) hx hb dX9_cell_26 (by rw [c_7]; decide) (by rw [c_7]; decide) (by rw [c_7]; rfl) (by decide) ?_
        refine lv_aload_n hx hb dX9_cell_66 rfl (lv_at hl 0 rfl) ?_
        refine va_get (D := (dC, dI)) (ci := 7) (v := .ref q_s_isle) (C := RX9) (T := TX9) (N := 23) hx hb hts w_1 hown hK hP 0 rfl rfl 5 (by decide) w_2 (fun _ h9 => h9) rfl dX9_cell_67 ?_
        refine lv_bipush (v := 21) hx hb dX9_cell_70 (by decide) ?_
        refine lv_iload_n hx hb dX9_cell_72 rfl (lv_at hl 1 rfl) ?_
        refine lv_iadd hx hb dX9_cell_73 ?_
        obtain ⟨b_8, h⟩ := chk_of h
        refine va_iald hx hb hK hP 4 0 rfl rfl (i := (21 + v1)) b_8 dX9_cell_74 ?_
        refine lv_if_ne (tgt := 83) hx hb dX9_cell_75 (by decide) (fun c_9 => ?_) (fun c_9 => ?_)
        · have h := (if_neg c_9).symm.trans h
          refine lv_aload_n hx hb dX9_cell_83 rfl (lv_at hl 0 rfl) ?_
          refine va_get (D := (dC, dI)) (ci := 7) (v := .ref q_s_isle) (C := RX9) (T := TX9) (N := 23) hx hb hts w_1 hown hK hP 0 rfl rfl 5 (by decide) w_2 (fun _ h9 => h9) rfl dX9_cell_84 ?_
          refine lv_bipush (v := 21) hx hb dX9_cell_87 (by decide) ?_
          refine lv_iload_n hx hb dX9_cell_89 rfl (lv_at hl 1 rfl) ?_
          refine lv_iadd hx hb dX9_cell_90 ?_
          obtain ⟨b_10, h⟩ := chk_of h
          refine va_iald hx hb hK hP 4 0 rfl rfl (i := (21 + v1)) b_10 dX9_cell_91 ?_
          refine lv_iconst (v := 1) hx hb dX9_cell_92 (by decide) ?_
          refine lv_isub hx hb dX9_cell_93 ?_
          have h := Option.some.inj h
          subst h
          rw [hQQ]
          subst hAe
          exact W.iret (v := ((s_isle (21 + v1).toNatClampNeg) - 1)) hx hb hr (fun t ht hW => ⟨⟨_, (), rfl, rfl, by rw [ht]; exact hP, va_K.moved hW.alike hK, hD⟩, hS.F ht⟩) hS.2.2 dX9_cell_94
        · have h := (if_pos c_9).symm.trans h
          refine lv_ldc hx hb hown w_3 dX9_cell_78 ?_
          refine lv_goto (tgt := 94) hx hb dX9_cell_80 (by decide) ?_
          have h := Option.some.inj h
          subst h
          rw [hQQ]
          subst hAe
          exact W.iret (v := (-1000000)) hx hb hr (fun t ht hW => ⟨⟨_, (), rfl, rfl, by rw [ht]; exact hP, va_K.moved hW.alike hK, hD⟩, hS.F ht⟩) hS.2.2 dX9_cell_94
      have h := (if_neg c_7).symm.trans h
      by_cases c_11 : v2 = 2
      · have h := (if_pos c_11).symm.trans h
        refine lv_tableIn (tgt := 95) hx hb dX9_cell_26 (by rw [c_11]; decide) (by rw [c_11]; decide) (by rw [c_11]; rfl) (by decide) ?_
        refine lv_aload_n hx hb dX9_cell_95 rfl (lv_at hl 0 rfl) ?_
        refine va_get (D := (dC, dI)) (ci := 7) (v := .ref q_s_isle) (C := RX9) (T := TX9) (N := 23) hx hb hts w_1 hown hK hP 0 rfl rfl 5 (by decide) w_2 (fun _ h9 => h9) rfl dX9_cell_96 ?_
        refine lv_iload_n hx hb dX9_cell_99 rfl (lv_at hl 1 rfl) ?_
        obtain ⟨r_12, hc_12, h⟩ := bd1_of h
        refine cl_rS (As := [.ref q_s_isle, .int v1]) (rest := []) ⟨hx, hb, hml, hown, hts⟩ (m_X9_isDry l dC dI cI cZ q_s_isle s_isle v1 (r_12) hc_12) (va_cwS 2 hts gX9_cell_X9_isDry rfl rfl rfl ddX9_isDry ⟨Nat.le_of_ble_eq_true rfl, Nat.le_of_ble_eq_true rfl⟩) hK hP [4] rfl rfl rfl hl.1 (Nat.le_of_ble_eq_true rfl) ⟨Nat.zero_le _, Nat.zero_le _⟩ dX9_cell_100 ?_
        refine lv_if_eq (tgt := 110) hx hb dX9_cell_103 (by decide) (fun c_13 => ?_) (fun c_13 => ?_)
        · have h := (if_pos c_13).symm.trans h
          refine lv_iconst (v := 0) hx hb dX9_cell_110 (by decide) ?_
          have h := Option.some.inj h
          subst h
          rw [hQQ]
          subst hAe
          exact W.iret (v := 0) hx hb hr (fun t ht hW => ⟨⟨_, (), rfl, rfl, by rw [ht]; exact hP, va_K.moved hW.alike hK, hD⟩, hS.F ht⟩) hS.2.2 dX9_cell_111
        · have h := (if_neg c_13).symm.trans h
          refine lv_iconst (v := 1) hx hb dX9_cell_106 (by decide) ?_
          refine lv_goto (tgt := 111) hx hb dX9_cell_107 (by decide) ?_
          have h := Option.some.inj h
          subst h
          rw [hQQ]
          subst hAe
          exact W.iret (v := 1) hx hb hr (fun t ht hW => ⟨⟨_, (), rfl, rfl, by rw [ht]; exact hP, va_K.moved hW.alike hK, hD⟩, hS.F ht⟩) hS.2.2 dX9_cell_111
      have h := (if_neg c_11).symm.trans h
      by_cases c_14 : v2 = 3
      · have h := (if_pos c_14).symm.trans h
        refine lv_tableIn (tgt := 112) hx hb dX9_cell_26 (by rw [c_14]; decide) (by rw [c_14]; decide) (by rw [c_14]; rfl) (by decide) ?_
        refine lv_aload_n hx hb dX9_cell_112 rfl (lv_at hl 0 rfl) ?_
        refine va_get (D := (dC, dI)) (ci := 7) (v := .ref q_s_isle) (C := RX9) (T := TX9) (N := 23) hx hb hts w_1 hown hK hP 0 rfl rfl 5 (by decide) w_2 (fun _ h9 => h9) rfl dX9_cell_113 ?_
        refine lv_iload_n hx hb dX9_cell_116 rfl (lv_at hl 1 rfl) ?_
        obtain ⟨r_15, hc_15, h⟩ := bd1_of h
        refine cl_rS (As := [.ref q_s_isle, .int v1]) (rest := []) ⟨hx, hb, hml, hown, hts⟩ (m_X9_deepOf l dC dI cI cZ q_s_isle s_isle v1 (r_15) hc_15) (va_cwS 2 hts gX9_cell_X9_deepOf rfl rfl rfl ddX9_deepOf ⟨Nat.le_of_ble_eq_true rfl, Nat.le_of_ble_eq_true rfl⟩) hK hP [4] rfl rfl rfl hl.1 (Nat.le_of_ble_eq_true rfl) ⟨Nat.zero_le _, Nat.zero_le _⟩ dX9_cell_117 ?_
        have h := Option.some.inj h
        subst h
        rw [hQQ]
        subst hAe
        exact W.iret (v := r_15) hx hb hr (fun t ht hW => ⟨⟨_, (), rfl, rfl, by rw [ht]; exact hP, va_K.moved hW.alike hK, hD⟩, hS.F ht⟩) hS.2.2 dX9_cell_120
      have h := (if_neg c_14).symm.trans h
      have n_5 : (v2).toInt ≠ 0 := ne_tn c_5 rfl
      have n_7 : (v2).toInt ≠ 1 := ne_tn c_7 rfl
      have n_11 : (v2).toInt ≠ 2 := ne_tn c_11 rfl
      have n_14 : (v2).toInt ≠ 3 := ne_tn c_14 rfl
      refine lv_tableOut (tgt := 121) hx hb dX9_cell_26 (by omega) (by decide) ?_
      refine lv_ldc hx hb hown w_4 dX9_cell_121 ?_
      have h := Option.some.inj h
      subst h
      rw [hQQ]
      subst hAe
      exact W.iret (v := (-1000001)) hx hb hr (fun t ht hW => ⟨⟨_, (), rfl, rfl, by rw [ht]; exact hP, va_K.moved hW.alike hK, hD⟩, hS.F ht⟩) hS.2.2 dX9_cell_123
    · have h := (if_pos c_4).symm.trans h
      refine lv_ldc hx hb hown w_4 dX9_cell_22 ?_
      have h := Option.some.inj h
      subst h
      rw [hQQ]
      subst hAe
      exact W.iret (v := (-1000001)) hx hb hr (fun t ht hW => ⟨⟨_, (), rfl, rfl, by rw [ht]; exact hP, va_K.moved hW.alike hK, hD⟩, hS.F ht⟩) hS.2.2 dX9_cell_24
  · have h := (if_pos c_2).symm.trans h
    refine lv_ldc hx hb hown w_5 dX9_cell_12 ?_
    have h := Option.some.inj h
    subst h
    rw [hQQ]
    subst hAe
    exact W.iret (v := (-1000002)) hx hb hr (fun t ht hW => ⟨⟨_, (), rfl, rfl, by rw [ht]; exact hP, va_K.moved hW.alike hK, hD⟩, hS.F ht⟩) hS.2.2 dX9_cell_14
def fX9_price (s_isle : (Nat → Int32)) (v1 : Int32) (v2 : Int32) : Option (Int32 × Int32) :=
  bd1 (fX9_isBidder s_isle v1) (fun r_1 => (if r_1 = 0 then some ((-1000001), 0) else bd1 (fX9_isCell v2) (fun r_3 => (if r_3 = 0 then some ((-1000001), 0) else bd1 (fX9_mayHave s_isle v1 v2) (fun r_5 => (if r_5 = 0 then some ((-1000000), 0) else bd1 (fX9_of s_isle v1 0) (fun r_7 => bd1 (fX9_priceBy s_isle r_7 v2) (fun r_8 => some (r_8, 0)))))))))
abbrev rmX9_price : Room := { frames := 3, cells := 0, slots := 0, locals := 65 }
theorem ddX9_price : yX9_price.cls ≠ "java/lang/invoke/MethodHandle" ∧ yX9_price.cls ≠ "java/lang/invoke/VarHandle" ∧ (parseMethodDescriptor yX9_price.desc).map (fun d => d.parameters.length) = some 2 := by decide +kernel
set_option maxHeartbeats 4000000 in
set_option maxRecDepth 100000 in
theorem m_X9_price (l : Launch) (dC : Nat → ClassId) (dI : Nat → Nat → Nat) (cI cZ : ClassId) (q_s q_s_lane q_s_many q_s_item q_s_isle q_s_fresh q_s_then q_s_was q_s_tape q_s_isKept q_s_kept q_s_trace : Nat) (s_thrown : Int32) (s_status : Int32) (s_lane : (Nat → Int32)) (s_many : (Nat → Int32)) (s_item : (Nat → Int32)) (s_isle : (Nat → Int32)) (s_fresh : (Nat → Int32)) (s_then : (Nat → Int32)) (s_was : (Nat → Int32)) (s_acts : Int32) (s_tape : (Nat → Int32)) (s_taped : Int32) (s_cursor : Int32) (s_start : Int32) (s_token : Int32) (s_value : Int32) (s_fault : Int32) (s_faultAt : Int32) (s_latest : Int32) (s_isKept : (Nat → Int32)) (s_kept : (Nat → Int32)) (s_trace : (Nat → Int32)) (s_traced : Int32) (v1 : Int32) (v2 : Int32) (sz : Nat) (res : Int32 × Int32) (hf : fX9_price s_isle v1 v2 = some res) : Met l yX9_price wsX9_price rmX9_price (mtPc (dC, dI) (tyZ cI cZ) ((W_M cI cZ q_s q_s_lane q_s_many q_s_item q_s_isle q_s_fresh q_s_then q_s_was q_s_tape q_s_isKept q_s_kept q_s_trace s_thrown s_status s_lane s_many s_item s_isle s_fresh s_then s_was s_acts s_tape s_taped s_cursor s_start s_token s_value s_fault s_faultAt s_latest s_isKept s_kept s_trace s_traced)) [.ref q_s, .int v1, .int v2] sz) (mtQi (dC, dI) (tyZ cI cZ) ((W_M cI cZ q_s q_s_lane q_s_many q_s_item q_s_isle q_s_fresh q_s_then q_s_was q_s_tape q_s_isKept q_s_kept q_s_trace s_thrown s_status s_lane s_many s_item s_isle s_fresh s_then s_was s_acts s_tape s_taped s_cursor s_start s_token s_value s_fault s_faultAt s_latest s_isKept s_kept s_trace s_traced)) ((W_M cI cZ q_s q_s_lane q_s_many q_s_item q_s_isle q_s_fresh q_s_then q_s_was q_s_tape q_s_isKept q_s_kept q_s_trace res.2 s_status s_lane s_many s_item s_isle s_fresh s_then s_was s_acts s_tape s_taped s_cursor s_start s_token s_value s_fault s_faultAt s_latest s_isKept s_kept s_trace s_traced)) res.1 sz) 0 0 (va_A ((W_M cI cZ q_s q_s_lane q_s_many q_s_item q_s_isle q_s_fresh q_s_then q_s_was q_s_tape q_s_isKept q_s_kept q_s_trace s_thrown s_status s_lane s_many s_item s_isle s_fresh s_then s_was s_acts s_tape s_taped s_cursor s_start s_token s_value s_fault s_faultAt s_latest s_isKept s_kept s_trace s_traced)) sz) := by
  refine Met.ofW (cc := cX9_price) (maxL := 3) (ret := (some .int)) (by decide) rfl ?_
  intro p e s m args below meth c s₁ B hml hv
  obtain ⟨rfl, hsz, hP, hK, hD0⟩ := hv
  have hx := B.exec
  have hb := B.bytes
  have hr := B.returns
  have hts := atoms_spec (ws := wsX9_price) B.pre
  have hown : s.vm.findClass RX9 = some m.cls := findClass_of_methodNamed B.named
  have hlocks := B.notSynchronized
  subst hsz
  have hD := hD0.self (sz := s.heap.size)
  obtain ⟨A, hAe⟩ : ∃ A, A = va_A ((W_M cI cZ q_s q_s_lane q_s_many q_s_item q_s_isle q_s_fresh q_s_then q_s_was q_s_tape q_s_isKept q_s_kept q_s_trace s_thrown s_status s_lane s_many s_item s_isle s_fresh s_then s_was s_acts s_tape s_taped s_cursor s_start s_token s_value s_fault s_faultAt s_latest s_isKept s_kept s_trace s_traced)) s.heap.size := ⟨_, rfl⟩
  rw [← hAe] at hD
  have hA : ∀ q : Nat, s.heap.size ≤ q → A q := fun q h => by rw [hAe]; exact Or.inr h
  have hS : va_S A s.heap s.heap [] := va_S.rf
  have hl := lv_entry ([.ref q_s, .int v1, .int v2]) (n := 3) (Nat.le_of_ble_eq_true rfl)
  rw [lg_entry_eq]
  generalize (lg_sl ([.ref q_s, .int v1, .int v2]) ++ List.replicate (3 - (lg_sl ([.ref q_s, .int v1, .int v2])).length) Slot.unset).toArray = ls at hl ⊢
  have hl : lv_has ls 3 [(0, .ref q_s), (1, .int v1), (2, .int v2)] := hl
  obtain ⟨QQ, hQQ⟩ : ∃ Q, Q = MQ below (mtQi (dC, dI) (tyZ cI cZ) ((W_M cI cZ q_s q_s_lane q_s_many q_s_item q_s_isle q_s_fresh q_s_then q_s_was q_s_tape q_s_isKept q_s_kept q_s_trace s_thrown s_status s_lane s_many s_item s_isle s_fresh s_then s_was s_acts s_tape s_taped s_cursor s_start s_token s_value s_fault s_faultAt s_latest s_isKept s_kept s_trace s_traced)) ((W_M cI cZ q_s q_s_lane q_s_many q_s_item q_s_isle q_s_fresh q_s_then q_s_was q_s_tape q_s_isKept q_s_kept q_s_trace res.2 s_status s_lane s_many s_item s_isle s_fresh s_then s_was s_acts s_tape s_taped s_cursor s_start s_token s_value s_fault s_faultAt s_latest s_isKept s_kept s_trace s_traced)) res.1 s.heap.size) ([.ref q_s, .int v1, .int v2] : List Value).toArray s 0 0 (va_A ((W_M cI cZ q_s q_s_lane q_s_many q_s_item q_s_isle q_s_fresh q_s_then q_s_was q_s_tape q_s_isKept q_s_kept q_s_trace s_thrown s_status s_lane s_many s_item s_isle s_fresh s_then s_was s_acts s_tape s_taped s_cursor s_start s_token s_value s_fault s_faultAt s_latest s_isKept s_kept s_trace s_traced)) s.heap.size) := ⟨_, rfl⟩
  rw [← hQQ]
  have w_0 := hts (Cond.fieldLink RX9 44 "TideInchesModel" "thrown" "I") (List.mem_of_getElem? (i := 1) rfl)
  have w_1 := (fun w hw => List.mem_cons_of_mem _ (List.mem_append_right _ hw) : ∀ w ∈ wsX90, w ∈ wsX9_price)
  have w_2 := hts (Cond.constant RX9 64 (-1000001)) (List.mem_of_getElem? (i := 2) rfl)
  have w_3 := hts (Cond.fieldLink RX9 19 "TideInchesModel" "isle" "[I") (List.mem_of_getElem? (i := 3) rfl)
  have w_4 := hts (Cond.constant RX9 87 (-1000000)) (List.mem_of_getElem? (i := 4) rfl)
  have h := hf
  unfold fX9_price at h
  refine lv_aload_n hx hb dX9_price_0 rfl (lv_at hl 0 rfl) ?_
  refine lv_iconst (v := 0) hx hb dX9_price_1 (by decide) ?_
  refine va_put (D := (dC, dI)) (ci := 7) (v := .int 0) (ty := .int) (C := RX9) (T := TX9) (N := 23) hx hb hts w_1 tyX9 tyX9_ok nmX9 hown hK hP hD hS 0 rfl rfl 0 (by decide) w_0 (fun _ h9 => h9) rfl (by decide +kernel) rfl rfl (Nat.le_of_ble_eq_true rfl) dX9_price_2 (fun H locs hP hD hS => ?_)
  have hP : va_P (dC, dI) vwCl ((W_M cI cZ q_s q_s_lane q_s_many q_s_item q_s_isle q_s_fresh q_s_then q_s_was q_s_tape q_s_isKept q_s_kept q_s_trace 0 s_status s_lane s_many s_item s_isle s_fresh s_then s_was s_acts s_tape s_taped s_cursor s_start s_token s_value s_fault s_faultAt s_latest s_isKept s_kept s_trace s_traced)) H := hP
  have hD : va_D A ((W_M cI cZ q_s q_s_lane q_s_many q_s_item q_s_isle q_s_fresh q_s_then q_s_was q_s_tape q_s_isKept q_s_kept q_s_trace 0 s_status s_lane s_many s_item s_isle s_fresh s_then s_was s_acts s_tape s_taped s_cursor s_start s_token s_value s_fault s_faultAt s_latest s_isKept s_kept s_trace s_traced)) := hD
  refine lv_aload_n hx hb dX9_price_5 rfl (lv_at hl 0 rfl) ?_
  refine lv_iload_n hx hb dX9_price_6 rfl (lv_at hl 1 rfl) ?_
  obtain ⟨r_1, hc_1, h⟩ := bd1_of h
  refine cl_rV (As := [.int v1]) (rest := []) ⟨hx, hb, hml, hown, hts⟩ (m_X9_isBidder l dC dI cI cZ q_s q_s_lane q_s_many q_s_item q_s_isle q_s_fresh q_s_then q_s_was q_s_tape q_s_isKept q_s_kept q_s_trace 0 s_status s_lane s_many s_item s_isle s_fresh s_then s_was s_acts s_tape s_taped s_cursor s_start s_token s_value s_fault s_faultAt s_latest s_isKept s_kept s_trace s_traced v1 (r_1) hc_1) (cwV 1 hts gX9_price_X9_isBidder rfl rfl rfl ⟨rfl, ddX9_isBidder⟩ ⟨Nat.le_of_ble_eq_true rfl, Nat.le_of_ble_eq_true rfl⟩) hK hP [0, 1, 2, 3, 4, 5, 6, 7, 8, 9, 10, 11] rfl rfl rfl rfl rfl hl.1 (Nat.le_of_ble_eq_true rfl) ⟨Nat.zero_le _, Nat.zero_le _⟩ dX9_price_7 ?_
  refine lv_if_eq (tgt := 20) hx hb dX9_price_10 (by decide) (fun c_2 => ?_) (fun c_2 => ?_)
  · have h := (if_pos c_2).symm.trans h
    refine lv_ldc hx hb hown w_2 dX9_price_20 ?_
    have h := Option.some.inj h
    subst h
    rw [hQQ]
    subst hAe
    exact W.iret (v := (-1000001)) hx hb hr (fun t ht hW => ⟨⟨_, (), rfl, rfl, by rw [ht]; exact hP, va_K.moved hW.alike hK, hD⟩, hS.F ht⟩) hS.2.2 dX9_price_22
  · have h := (if_neg c_2).symm.trans h
    refine lv_iload_n hx hb dX9_price_13 rfl (lv_at hl 2 rfl) ?_
    obtain ⟨r_3, hc_3, h⟩ := bd1_of h
    refine cl_pS (As := [.int v2]) (rest := []) ⟨hx, hb, hml, hown, hts⟩ (m_X9_isCell l v2 (r_3) hc_3) (va_cwS 1 hts gX9_price_X9_isCell rfl rfl rfl ddX9_isCell ⟨Nat.le_of_ble_eq_true rfl, Nat.le_of_ble_eq_true rfl⟩) rfl rfl hl.1 (Nat.le_of_ble_eq_true rfl) ⟨Nat.zero_le _, Nat.zero_le _⟩ dX9_price_14 ?_
    refine lv_if_ne (tgt := 23) hx hb dX9_price_17 (by decide) (fun c_4 => ?_) (fun c_4 => ?_)
    · have h := (if_neg c_4).symm.trans h
      refine lv_aload_n hx hb dX9_price_23 rfl (lv_at hl 0 rfl) ?_
      refine va_get (D := (dC, dI)) (ci := 7) (v := .ref q_s_isle) (C := RX9) (T := TX9) (N := 23) hx hb hts w_1 hown hK hP 0 rfl rfl 5 (by decide) w_3 (fun _ h9 => h9) rfl dX9_price_24 ?_
      refine lv_iload_n hx hb dX9_price_27 rfl (lv_at hl 1 rfl) ?_
      refine lv_iload_n hx hb dX9_price_28 rfl (lv_at hl 2 rfl) ?_
      obtain ⟨r_5, hc_5, h⟩ := bd1_of h
      refine cl_rS (As := [.ref q_s_isle, .int v1, .int v2]) (rest := []) ⟨hx, hb, hml, hown, hts⟩ (m_X9_mayHave l dC dI cI cZ q_s_isle s_isle v1 v2 (r_5) hc_5) (va_cwS 3 hts gX9_price_X9_mayHave rfl rfl rfl ddX9_mayHave ⟨Nat.le_of_ble_eq_true rfl, Nat.le_of_ble_eq_true rfl⟩) hK hP [4] rfl rfl rfl hl.1 (Nat.le_of_ble_eq_true rfl) ⟨Nat.zero_le _, Nat.zero_le _⟩ dX9_price_29 ?_
      refine lv_if_eq (tgt := 55) hx hb dX9_price_32 (by decide) (fun c_6 => ?_) (fun c_6 => ?_)
      · have h := (if_pos c_6).symm.trans h
        refine lv_ldc hx hb hown w_4 dX9_price_55 ?_
        have h := Option.some.inj h
        subst h
        rw [hQQ]
        subst hAe
        exact W.iret (v := (-1000000)) hx hb hr (fun t ht hW => ⟨⟨_, (), rfl, rfl, by rw [ht]; exact hP, va_K.moved hW.alike hK, hD⟩, hS.F ht⟩) hS.2.2 dX9_price_57
      · have h := (if_neg c_6).symm.trans h
        refine lv_aload_n hx hb dX9_price_35 rfl (lv_at hl 0 rfl) ?_
        refine va_get (D := (dC, dI)) (ci := 7) (v := .ref q_s_isle) (C := RX9) (T := TX9) (N := 23) hx hb hts w_1 hown hK hP 0 rfl rfl 5 (by decide) w_3 (fun _ h9 => h9) rfl dX9_price_36 ?_
        refine lv_aload_n hx hb dX9_price_39 rfl (lv_at hl 0 rfl) ?_
        refine va_get (D := (dC, dI)) (ci := 7) (v := .ref q_s_isle) (C := RX9) (T := TX9) (N := 23) hx hb hts w_1 hown hK hP 0 rfl rfl 5 (by decide) w_3 (fun _ h9 => h9) rfl dX9_price_40 ?_
        refine lv_iload_n hx hb dX9_price_43 rfl (lv_at hl 1 rfl) ?_
        refine lv_iconst (v := 0) hx hb dX9_price_44 (by decide) ?_
        obtain ⟨r_7, hc_7, h⟩ := bd1_of h
        refine cl_rS (As := [.ref q_s_isle, .int v1, .int 0]) (rest := [.ref q_s_isle]) ⟨hx, hb, hml, hown, hts⟩ (m_X9_of l dC dI cI cZ q_s_isle s_isle v1 0 (r_7) hc_7) (va_cwS 3 hts gX9_price_X9_of rfl rfl rfl ddX9_of ⟨Nat.le_of_ble_eq_true rfl, Nat.le_of_ble_eq_true rfl⟩) hK hP [4] rfl rfl rfl hl.1 (Nat.le_of_ble_eq_true rfl) ⟨Nat.zero_le _, Nat.zero_le _⟩ dX9_price_45 ?_
        refine lv_iload_n hx hb dX9_price_48 rfl (lv_at hl 2 rfl) ?_
        obtain ⟨r_8, hc_8, h⟩ := bd1_of h
        refine cl_rS (As := [.ref q_s_isle, .int r_7, .int v2]) (rest := []) ⟨hx, hb, hml, hown, hts⟩ (m_X9_priceBy l dC dI cI cZ q_s_isle s_isle r_7 v2 (r_8) hc_8) (va_cwS 3 hts gX9_price_X9_priceBy rfl rfl rfl ddX9_priceBy ⟨Nat.le_of_ble_eq_true rfl, Nat.le_of_ble_eq_true rfl⟩) hK hP [4] rfl rfl rfl hl.1 (Nat.le_of_ble_eq_true rfl) ⟨Nat.zero_le _, Nat.zero_le _⟩ dX9_price_49 ?_
        refine lv_goto (tgt := 57) hx hb dX9_price_52 (by decide) ?_
        have h := Option.some.inj h
        subst h
        rw [hQQ]
        subst hAe
        exact W.iret (v := r_8) hx hb hr (fun t ht hW => ⟨⟨_, (), rfl, rfl, by rw [ht]; exact hP, va_K.moved hW.alike hK, hD⟩, hS.F ht⟩) hS.2.2 dX9_price_57
    · have h := (if_pos c_4).symm.trans h
      refine lv_ldc hx hb hown w_2 dX9_price_20 ?_
      have h := Option.some.inj h
      subst h
      rw [hQQ]
      subst hAe
      exact W.iret (v := (-1000001)) hx hb hr (fun t ht hW => ⟨⟨_, (), rfl, rfl, by rw [ht]; exact hP, va_K.moved hW.alike hK, hD⟩, hS.F ht⟩) hS.2.2 dX9_price_22
def fX9_layHour (s_isle : (Nat → Int32)) (s_then : (Nat → Int32)) (v1 : Int32) : Option ((Nat → Int32)) :=
  bd1 (fX9_layThen s_isle s_then) (fun s_then_1 => some ((upd s_then_1 (5 : Int32).toNatClampNeg ((s_then_1 (5 : Int32).toNatClampNeg) + v1))))
abbrev rmX9_layHour : Room := { frames := 1, cells := 0, slots := 0, locals := 21 }
theorem ddX9_layHour : yX9_layHour.cls ≠ "java/lang/invoke/MethodHandle" ∧ yX9_layHour.cls ≠ "java/lang/invoke/VarHandle" ∧ (parseMethodDescriptor yX9_layHour.desc).map (fun d => d.parameters.length) = some 1 := by decide +kernel
set_option maxHeartbeats 4000000 in
set_option maxRecDepth 100000 in
theorem m_X9_layHour (l : Launch) (dC : Nat → ClassId) (dI : Nat → Nat → Nat) (cI cZ : ClassId) (q_s q_s_lane q_s_many q_s_item q_s_isle q_s_fresh q_s_then q_s_was q_s_tape q_s_isKept q_s_kept q_s_trace : Nat) (s_thrown : Int32) (s_status : Int32) (s_lane : (Nat → Int32)) (s_many : (Nat → Int32)) (s_item : (Nat → Int32)) (s_isle : (Nat → Int32)) (s_fresh : (Nat → Int32)) (s_then : (Nat → Int32)) (s_was : (Nat → Int32)) (s_acts : Int32) (s_tape : (Nat → Int32)) (s_taped : Int32) (s_cursor : Int32) (s_start : Int32) (s_token : Int32) (s_value : Int32) (s_fault : Int32) (s_faultAt : Int32) (s_latest : Int32) (s_isKept : (Nat → Int32)) (s_kept : (Nat → Int32)) (s_trace : (Nat → Int32)) (s_traced : Int32) (v1 : Int32) (sz : Nat) (res : (Nat → Int32)) (hf : fX9_layHour s_isle s_then v1 = some res) : Met l yX9_layHour wsX9_layHour rmX9_layHour (mtPc (dC, dI) (tyZ cI cZ) ((W_M cI cZ q_s q_s_lane q_s_many q_s_item q_s_isle q_s_fresh q_s_then q_s_was q_s_tape q_s_isKept q_s_kept q_s_trace s_thrown s_status s_lane s_many s_item s_isle s_fresh s_then s_was s_acts s_tape s_taped s_cursor s_start s_token s_value s_fault s_faultAt s_latest s_isKept s_kept s_trace s_traced)) [.ref q_s, .int v1] sz) (mtQv (dC, dI) (tyZ cI cZ) ((W_M cI cZ q_s q_s_lane q_s_many q_s_item q_s_isle q_s_fresh q_s_then q_s_was q_s_tape q_s_isKept q_s_kept q_s_trace s_thrown s_status s_lane s_many s_item s_isle s_fresh s_then s_was s_acts s_tape s_taped s_cursor s_start s_token s_value s_fault s_faultAt s_latest s_isKept s_kept s_trace s_traced)) ((W_M cI cZ q_s q_s_lane q_s_many q_s_item q_s_isle q_s_fresh q_s_then q_s_was q_s_tape q_s_isKept q_s_kept q_s_trace s_thrown s_status s_lane s_many s_item s_isle s_fresh res s_was s_acts s_tape s_taped s_cursor s_start s_token s_value s_fault s_faultAt s_latest s_isKept s_kept s_trace s_traced)) sz) 0 0 (va_A ((W_M cI cZ q_s q_s_lane q_s_many q_s_item q_s_isle q_s_fresh q_s_then q_s_was q_s_tape q_s_isKept q_s_kept q_s_trace s_thrown s_status s_lane s_many s_item s_isle s_fresh s_then s_was s_acts s_tape s_taped s_cursor s_start s_token s_value s_fault s_faultAt s_latest s_isKept s_kept s_trace s_traced)) sz) := by
  refine Met.ofW (cc := cX9_layHour) (maxL := 2) (ret := none) (by decide) rfl ?_
  intro p e s m args below meth c s₁ B hml hv
  obtain ⟨rfl, hsz, hP, hK, hD0⟩ := hv
  have hx := B.exec
  have hb := B.bytes
  have hr := B.returns
  have hts := atoms_spec (ws := wsX9_layHour) B.pre
  have hown : s.vm.findClass RX9 = some m.cls := findClass_of_methodNamed B.named
  have hlocks := B.notSynchronized
  subst hsz
  have hD := hD0.self (sz := s.heap.size)
  obtain ⟨A, hAe⟩ : ∃ A, A = va_A ((W_M cI cZ q_s q_s_lane q_s_many q_s_item q_s_isle q_s_fresh q_s_then q_s_was q_s_tape q_s_isKept q_s_kept q_s_trace s_thrown s_status s_lane s_many s_item s_isle s_fresh s_then s_was s_acts s_tape s_taped s_cursor s_start s_token s_value s_fault s_faultAt s_latest s_isKept s_kept s_trace s_traced)) s.heap.size := ⟨_, rfl⟩
  rw [← hAe] at hD
  have hA : ∀ q : Nat, s.heap.size ≤ q → A q := fun q h => by rw [hAe]; exact Or.inr h
  have hS : va_S A s.heap s.heap [] := va_S.rf
  have hl := lv_entry ([.ref q_s, .int v1]) (n := 2) (Nat.le_of_ble_eq_true rfl)
  rw [lg_entry_eq]
  generalize (lg_sl ([.ref q_s, .int v1]) ++ List.replicate (2 - (lg_sl ([.ref q_s, .int v1])).length) Slot.unset).toArray = ls at hl ⊢
  have hl : lv_has ls 2 [(0, .ref q_s), (1, .int v1)] := hl
  obtain ⟨QQ, hQQ⟩ : ∃ Q, Q = MQ below (mtQv (dC, dI) (tyZ cI cZ) ((W_M cI cZ q_s q_s_lane q_s_many q_s_item q_s_isle q_s_fresh q_s_then q_s_was q_s_tape q_s_isKept q_s_kept q_s_trace s_thrown s_status s_lane s_many s_item s_isle s_fresh s_then s_was s_acts s_tape s_taped s_cursor s_start s_token s_value s_fault s_faultAt s_latest s_isKept s_kept s_trace s_traced)) ((W_M cI cZ q_s q_s_lane q_s_many q_s_item q_s_isle q_s_fresh q_s_then q_s_was q_s_tape q_s_isKept q_s_kept q_s_trace s_thrown s_status s_lane s_many s_item s_isle s_fresh res s_was s_acts s_tape s_taped s_cursor s_start s_token s_value s_fault s_faultAt s_latest s_isKept s_kept s_trace s_traced)) s.heap.size) ([.ref q_s, .int v1] : List Value).toArray s 0 0 (va_A ((W_M cI cZ q_s q_s_lane q_s_many q_s_item q_s_isle q_s_fresh q_s_then q_s_was q_s_tape q_s_isKept q_s_kept q_s_trace s_thrown s_status s_lane s_many s_item s_isle s_fresh s_then s_was s_acts s_tape s_taped s_cursor s_start s_token s_value s_fault s_faultAt s_latest s_isKept s_kept s_trace s_traced)) s.heap.size) := ⟨_, rfl⟩
  rw [← hQQ]
  have w_0 := hts (Cond.fieldLink RX9 25 "TideInchesModel" "then" "[I") (List.mem_of_getElem? (i := 1) rfl)
  have w_1 := (fun w hw => List.mem_cons_of_mem _ (List.mem_append_right _ hw) : ∀ w ∈ wsX90, w ∈ wsX9_layHour)
  have h := hf
  unfold fX9_layHour at h
  refine lv_aload_n hx hb dX9_layHour_0 rfl (lv_at hl 0 rfl) ?_
  obtain ⟨s_then_1, hc_1, h⟩ := bd1_of h
  refine cl_mVv (As := []) (rest := []) (ws' := (W_M cI cZ q_s q_s_lane q_s_many q_s_item q_s_isle q_s_fresh q_s_then q_s_was q_s_tape q_s_isKept q_s_kept q_s_trace s_thrown s_status s_lane s_many s_item s_isle s_fresh s_then_1 s_was s_acts s_tape s_taped s_cursor s_start s_token s_value s_fault s_faultAt s_latest s_isKept s_kept s_trace s_traced)) (wr := []) ⟨hx, hb, hml, hown, hts⟩ (m_X9_layThen l dC dI cI cZ q_s q_s_lane q_s_many q_s_item q_s_isle q_s_fresh q_s_then q_s_was q_s_tape q_s_isKept q_s_kept q_s_trace s_thrown s_status s_lane s_many s_item s_isle s_fresh s_then s_was s_acts s_tape s_taped s_cursor s_start s_token s_value s_fault s_faultAt s_latest s_isKept s_kept s_trace s_traced _ (s_then_1) hc_1) (cwV 0 hts gX9_layHour_X9_layThen rfl rfl rfl ⟨rfl, ddX9_layThen⟩ ⟨Nat.le_of_ble_eq_true rfl, Nat.le_of_ble_eq_true rfl⟩) hK hP hD hS hA [0, 1, 2, 3, 4, 5, 6, 7, 8, 9, 10, 11] [] rfl rfl rfl rfl (by decide) [0, 1, 2, 3, 4, 5, 6, 7, 8, 9, 10, 11] rfl rfl rfl rfl rfl rfl rfl hl.1 (Nat.le_of_ble_eq_true rfl) ⟨Nat.zero_le _, Nat.zero_le _⟩ dX9_layHour_1 (fun H locs hP hD hS => ?_)
  refine lv_aload_n hx hb dX9_layHour_4 rfl (lv_at hl 0 rfl) ?_
  refine va_get (D := (dC, dI)) (ci := 7) (v := .ref q_s_then) (C := RX9) (T := TX9) (N := 23) hx hb hts w_1 hown hK hP 0 rfl rfl 7 (by decide) w_0 (fun _ h9 => h9) rfl dX9_layHour_5 ?_
  refine lv_iconst (v := 5) hx hb dX9_layHour_8 (by decide) ?_
  refine lv_dup2_11 hx hb dX9_layHour_9 rfl rfl ?_
  refine va_iald hx hb hK hP 6 0 rfl rfl (i := 5) (show ¬ ((5 : Int32) < 0 ∨ 51 ≤ (5 : Int32).toNatClampNeg) by decide +kernel) dX9_layHour_10 ?_
  refine lv_iload_n hx hb dX9_layHour_11 rfl (lv_at hl 1 rfl) ?_
  refine lv_iadd hx hb dX9_layHour_12 ?_
  refine va_iast hx hb hK hP hD hS 6 0 rfl rfl (i := 5) (x := ((s_then_1 (5 : Int32).toNatClampNeg) + v1)) (show ¬ ((5 : Int32) < 0 ∨ 51 ≤ (5 : Int32).toNatClampNeg) by decide +kernel) dX9_layHour_13 (fun H locs hP hD hS => ?_)
  have hP : va_P (dC, dI) vwCl ((W_M cI cZ q_s q_s_lane q_s_many q_s_item q_s_isle q_s_fresh q_s_then q_s_was q_s_tape q_s_isKept q_s_kept q_s_trace s_thrown s_status s_lane s_many s_item s_isle s_fresh (upd s_then_1 (5 : Int32).toNatClampNeg ((s_then_1 (5 : Int32).toNatClampNeg) + v1)) s_was s_acts s_tape s_taped s_cursor s_start s_token s_value s_fault s_faultAt s_latest s_isKept s_kept s_trace s_traced)) H := hP
  have hD : va_D A ((W_M cI cZ q_s q_s_lane q_s_many q_s_item q_s_isle q_s_fresh q_s_then q_s_was q_s_tape q_s_isKept q_s_kept q_s_trace s_thrown s_status s_lane s_many s_item s_isle s_fresh (upd s_then_1 (5 : Int32).toNatClampNeg ((s_then_1 (5 : Int32).toNatClampNeg) + v1)) s_was s_acts s_tape s_taped s_cursor s_start s_token s_value s_fault s_faultAt s_latest s_isKept s_kept s_trace s_traced)) := hD
  have h := Option.some.inj h
  subst h
  rw [hQQ]
  subst hAe
  exact W.vret hx hb hr (fun t ht hW => ⟨⟨(), rfl, trivial, by rw [ht]; exact hP, va_K.moved hW.alike hK, hD⟩, hS.F ht⟩) hS.2.2 dX9_layHour_14
def fX9_ahead (s_isle : (Nat → Int32)) (s_then : (Nat → Int32)) (v1 : Int32) (v2 : Int32) : Option (Int32 × Int32 × (Nat → Int32)) :=
  bd1 (fX9_isThere s_isle) (fun r_1 => (if r_1 = 0 then some ((-1000002), 0, s_then) else bd1 (fX9_in v1.toInt64 0 60) (fun r_3 => (if r_3 = 0 then some ((-1000001), 0, s_then) else bd1 (fX9_in v2.toInt64 0 2) (fun r_5 => (if r_5 = 0 then some ((-1000001), 0, s_then) else bd1 (fX9_layHour s_isle s_then v1) (fun s_then_7 => bd1 (fX9_dryOf s_then_7) (fun r_8 => (if v2 = 0 then bd1 (fX9_levelBy s_then_7 (s_then_7 (5 : Int32).toNatClampNeg)) (fun r_12 => some (r_12, 0, s_then_7)) else (if v2 = 1 then some (r_8, 0, s_then_7) else bd1 (fX9_partsOf r_8) (fun r_11 => some (r_11, 0, s_then_7))))))))))))
abbrev rmX9_ahead : Room := { frames := 3, cells := 0, slots := 0, locals := 65 }
theorem ddX9_ahead : yX9_ahead.cls ≠ "java/lang/invoke/MethodHandle" ∧ yX9_ahead.cls ≠ "java/lang/invoke/VarHandle" ∧ (parseMethodDescriptor yX9_ahead.desc).map (fun d => d.parameters.length) = some 2 := by decide +kernel
set_option maxHeartbeats 4000000 in
set_option maxRecDepth 100000 in
theorem m_X9_ahead (l : Launch) (dC : Nat → ClassId) (dI : Nat → Nat → Nat) (cI cZ : ClassId) (q_s q_s_lane q_s_many q_s_item q_s_isle q_s_fresh q_s_then q_s_was q_s_tape q_s_isKept q_s_kept q_s_trace : Nat) (s_thrown : Int32) (s_status : Int32) (s_lane : (Nat → Int32)) (s_many : (Nat → Int32)) (s_item : (Nat → Int32)) (s_isle : (Nat → Int32)) (s_fresh : (Nat → Int32)) (s_then : (Nat → Int32)) (s_was : (Nat → Int32)) (s_acts : Int32) (s_tape : (Nat → Int32)) (s_taped : Int32) (s_cursor : Int32) (s_start : Int32) (s_token : Int32) (s_value : Int32) (s_fault : Int32) (s_faultAt : Int32) (s_latest : Int32) (s_isKept : (Nat → Int32)) (s_kept : (Nat → Int32)) (s_trace : (Nat → Int32)) (s_traced : Int32) (v1 : Int32) (v2 : Int32) (sz : Nat) (res : Int32 × Int32 × (Nat → Int32)) (hf : fX9_ahead s_isle s_then v1 v2 = some res) : Met l yX9_ahead wsX9_ahead rmX9_ahead (mtPc (dC, dI) (tyZ cI cZ) ((W_M cI cZ q_s q_s_lane q_s_many q_s_item q_s_isle q_s_fresh q_s_then q_s_was q_s_tape q_s_isKept q_s_kept q_s_trace s_thrown s_status s_lane s_many s_item s_isle s_fresh s_then s_was s_acts s_tape s_taped s_cursor s_start s_token s_value s_fault s_faultAt s_latest s_isKept s_kept s_trace s_traced)) [.ref q_s, .int v1, .int v2] sz) (mtQi (dC, dI) (tyZ cI cZ) ((W_M cI cZ q_s q_s_lane q_s_many q_s_item q_s_isle q_s_fresh q_s_then q_s_was q_s_tape q_s_isKept q_s_kept q_s_trace s_thrown s_status s_lane s_many s_item s_isle s_fresh s_then s_was s_acts s_tape s_taped s_cursor s_start s_token s_value s_fault s_faultAt s_latest s_isKept s_kept s_trace s_traced)) ((W_M cI cZ q_s q_s_lane q_s_many q_s_item q_s_isle q_s_fresh q_s_then q_s_was q_s_tape q_s_isKept q_s_kept q_s_trace res.2.1 s_status s_lane s_many s_item s_isle s_fresh res.2.2 s_was s_acts s_tape s_taped s_cursor s_start s_token s_value s_fault s_faultAt s_latest s_isKept s_kept s_trace s_traced)) res.1 sz) 0 0 (va_A ((W_M cI cZ q_s q_s_lane q_s_many q_s_item q_s_isle q_s_fresh q_s_then q_s_was q_s_tape q_s_isKept q_s_kept q_s_trace s_thrown s_status s_lane s_many s_item s_isle s_fresh s_then s_was s_acts s_tape s_taped s_cursor s_start s_token s_value s_fault s_faultAt s_latest s_isKept s_kept s_trace s_traced)) sz) := by
  refine Met.ofW (cc := cX9_ahead) (maxL := 4) (ret := (some .int)) (by decide) rfl ?_
  intro p e s m args below meth c s₁ B hml hv
  obtain ⟨rfl, hsz, hP, hK, hD0⟩ := hv
  have hx := B.exec
  have hb := B.bytes
  have hr := B.returns
  have hts := atoms_spec (ws := wsX9_ahead) B.pre
  have hown : s.vm.findClass RX9 = some m.cls := findClass_of_methodNamed B.named
  have hlocks := B.notSynchronized
  subst hsz
  have hD := hD0.self (sz := s.heap.size)
  obtain ⟨A, hAe⟩ : ∃ A, A = va_A ((W_M cI cZ q_s q_s_lane q_s_many q_s_item q_s_isle q_s_fresh q_s_then q_s_was q_s_tape q_s_isKept q_s_kept q_s_trace s_thrown s_status s_lane s_many s_item s_isle s_fresh s_then s_was s_acts s_tape s_taped s_cursor s_start s_token s_value s_fault s_faultAt s_latest s_isKept s_kept s_trace s_traced)) s.heap.size := ⟨_, rfl⟩
  rw [← hAe] at hD
  have hA : ∀ q : Nat, s.heap.size ≤ q → A q := fun q h => by rw [hAe]; exact Or.inr h
  have hS : va_S A s.heap s.heap [] := va_S.rf
  have hl := lv_entry ([.ref q_s, .int v1, .int v2]) (n := 4) (Nat.le_of_ble_eq_true rfl)
  rw [lg_entry_eq]
  generalize (lg_sl ([.ref q_s, .int v1, .int v2]) ++ List.replicate (4 - (lg_sl ([.ref q_s, .int v1, .int v2])).length) Slot.unset).toArray = ls at hl ⊢
  have hl : lv_has ls 4 [(0, .ref q_s), (1, .int v1), (2, .int v2)] := hl
  obtain ⟨QQ, hQQ⟩ : ∃ Q, Q = MQ below (mtQi (dC, dI) (tyZ cI cZ) ((W_M cI cZ q_s q_s_lane q_s_many q_s_item q_s_isle q_s_fresh q_s_then q_s_was q_s_tape q_s_isKept q_s_kept q_s_trace s_thrown s_status s_lane s_many s_item s_isle s_fresh s_then s_was s_acts s_tape s_taped s_cursor s_start s_token s_value s_fault s_faultAt s_latest s_isKept s_kept s_trace s_traced)) ((W_M cI cZ q_s q_s_lane q_s_many q_s_item q_s_isle q_s_fresh q_s_then q_s_was q_s_tape q_s_isKept q_s_kept q_s_trace res.2.1 s_status s_lane s_many s_item s_isle s_fresh res.2.2 s_was s_acts s_tape s_taped s_cursor s_start s_token s_value s_fault s_faultAt s_latest s_isKept s_kept s_trace s_traced)) res.1 s.heap.size) ([.ref q_s, .int v1, .int v2] : List Value).toArray s 0 0 (va_A ((W_M cI cZ q_s q_s_lane q_s_many q_s_item q_s_isle q_s_fresh q_s_then q_s_was q_s_tape q_s_isKept q_s_kept q_s_trace s_thrown s_status s_lane s_many s_item s_isle s_fresh s_then s_was s_acts s_tape s_taped s_cursor s_start s_token s_value s_fault s_faultAt s_latest s_isKept s_kept s_trace s_traced)) s.heap.size) := ⟨_, rfl⟩
  rw [← hQQ]
  have w_0 := hts (Cond.fieldLink RX9 44 "TideInchesModel" "thrown" "I") (List.mem_of_getElem? (i := 1) rfl)
  have w_1 := (fun w hw => List.mem_cons_of_mem _ (List.mem_append_right _ hw) : ∀ w ∈ wsX90, w ∈ wsX9_ahead)
  have w_2 := hts (Cond.constantLong RX9 214 (60)) (List.mem_of_getElem? (i := 3) rfl)
  have w_3 := hts (Cond.constant RX9 64 (-1000001)) (List.mem_of_getElem? (i := 5) rfl)
  have w_4 := hts (Cond.constantLong RX9 62 (2)) (List.mem_of_getElem? (i := 4) rfl)
  have w_5 := hts (Cond.fieldLink RX9 25 "TideInchesModel" "then" "[I") (List.mem_of_getElem? (i := 6) rfl)
  have w_6 := hts (Cond.constant RX9 181 (-1000002)) (List.mem_of_getElem? (i := 2) rfl)
  have h := hf
  unfold fX9_ahead at h
  refine lv_aload_n hx hb dX9_ahead_0 rfl (lv_at hl 0 rfl) ?_
  refine lv_iconst (v := 0) hx hb dX9_ahead_1 (by decide) ?_
  refine va_put (D := (dC, dI)) (ci := 7) (v := .int 0) (ty := .int) (C := RX9) (T := TX9) (N := 23) hx hb hts w_1 tyX9 tyX9_ok nmX9 hown hK hP hD hS 0 rfl rfl 0 (by decide) w_0 (fun _ h9 => h9) rfl (by decide +kernel) rfl rfl (Nat.le_of_ble_eq_true rfl) dX9_ahead_2 (fun H locs hP hD hS => ?_)
  have hP : va_P (dC, dI) vwCl ((W_M cI cZ q_s q_s_lane q_s_many q_s_item q_s_isle q_s_fresh q_s_then q_s_was q_s_tape q_s_isKept q_s_kept q_s_trace 0 s_status s_lane s_many s_item s_isle s_fresh s_then s_was s_acts s_tape s_taped s_cursor s_start s_token s_value s_fault s_faultAt s_latest s_isKept s_kept s_trace s_traced)) H := hP
  have hD : va_D A ((W_M cI cZ q_s q_s_lane q_s_many q_s_item q_s_isle q_s_fresh q_s_then q_s_was q_s_tape q_s_isKept q_s_kept q_s_trace 0 s_status s_lane s_many s_item s_isle s_fresh s_then s_was s_acts s_tape s_taped s_cursor s_start s_token s_value s_fault s_faultAt s_latest s_isKept s_kept s_trace s_traced)) := hD
  refine lv_aload_n hx hb dX9_ahead_5 rfl (lv_at hl 0 rfl) ?_
  obtain ⟨r_1, hc_1, h⟩ := bd1_of h
  refine cl_rV (As := []) (rest := []) ⟨hx, hb, hml, hown, hts⟩ (m_X9_isThere l dC dI cI cZ q_s q_s_lane q_s_many q_s_item q_s_isle q_s_fresh q_s_then q_s_was q_s_tape q_s_isKept q_s_kept q_s_trace 0 s_status s_lane s_many s_item s_isle s_fresh s_then s_was s_acts s_tape s_taped s_cursor s_start s_token s_value s_fault s_faultAt s_latest s_isKept s_kept s_trace s_traced (r_1) hc_1) (cwV 0 hts gX9_ahead_X9_isThere rfl rfl rfl ⟨rfl, ddX9_isThere⟩ ⟨Nat.le_of_ble_eq_true rfl, Nat.le_of_ble_eq_true rfl⟩) hK hP [0, 1, 2, 3, 4, 5, 6, 7, 8, 9, 10, 11] rfl rfl rfl rfl rfl hl.1 (Nat.le_of_ble_eq_true rfl) ⟨Nat.zero_le _, Nat.zero_le _⟩ dX9_ahead_6 ?_
  refine lv_if_ne (tgt := 15) hx hb dX9_ahead_9 (by decide) (fun c_2 => ?_) (fun c_2 => ?_)
  · have h := (if_neg c_2).symm.trans h
    refine lv_iload_n hx hb dX9_ahead_15 rfl (lv_at hl 1 rfl) ?_
    refine lv_i2l hx hb dX9_ahead_16 rfl ?_
    refine lv_lconst (v := 0) hx hb dX9_ahead_17 (by decide) ?_
    refine lv_ldc2 hx hb hown w_2 dX9_ahead_18 ?_
    obtain ⟨r_3, hc_3, h⟩ := bd1_of h
    refine cl_pS (As := [.long v1.toInt64, .long 0, .long 60]) (rest := []) ⟨hx, hb, hml, hown, hts⟩ (m_X9_in l v1.toInt64 0 60 (r_3) hc_3) (va_cwS 3 hts gX9_ahead_X9_in rfl rfl rfl ddX9_in ⟨Nat.le_of_ble_eq_true rfl, Nat.le_of_ble_eq_true rfl⟩) rfl rfl hl.1 (Nat.le_of_ble_eq_true rfl) ⟨Nat.zero_le _, Nat.zero_le _⟩ dX9_ahead_21 ?_
    refine lv_if_eq (tgt := 39) hx hb dX9_ahead_24 (by decide) (fun c_4 => ?_) (fun c_4 => ?_)
    · have h := (if_pos c_4).symm.trans h
      refine lv_ldc hx hb hown w_3 dX9_ahead_39 ?_
      have h := Option.some.inj h
      subst h
      rw [hQQ]
      subst hAe
      exact W.iret (v := (-1000001)) hx hb hr (fun t ht hW => ⟨⟨_, (), rfl, rfl, by rw [ht]; exact hP, va_K.moved hW.alike hK, hD⟩, hS.F ht⟩) hS.2.2 dX9_ahead_41
    · have h := (if_neg c_4).symm.trans h
      refine lv_iload_n hx hb dX9_ahead_27 rfl (lv_at hl 2 rfl) ?_
      refine lv_i2l hx hb dX9_ahead_28 rfl ?_
      refine lv_lconst (v := 0) hx hb dX9_ahead_29 (by decide) ?_
      refine lv_ldc2 hx hb hown w_4 dX9_ahead_30 ?_
      obtain ⟨r_5, hc_5, h⟩ := bd1_of h
      refine cl_pS (As := [.long v2.toInt64, .long 0, .long 2]) (rest := []) ⟨hx, hb, hml, hown, hts⟩ (m_X9_in l v2.toInt64 0 2 (r_5) hc_5) (va_cwS 3 hts gX9_ahead_X9_in rfl rfl rfl ddX9_in ⟨Nat.le_of_ble_eq_true rfl, Nat.le_of_ble_eq_true rfl⟩) rfl rfl hl.1 (Nat.le_of_ble_eq_true rfl) ⟨Nat.zero_le _, Nat.zero_le _⟩ dX9_ahead_33 ?_
      refine lv_if_ne (tgt := 42) hx hb dX9_ahead_36 (by decide) (fun c_6 => ?_) (fun c_6 => ?_)
      · have h := (if_neg c_6).symm.trans h
        refine lv_aload_n hx hb dX9_ahead_42 rfl (lv_at hl 0 rfl) ?_
        refine lv_iload_n hx hb dX9_ahead_43 rfl (lv_at hl 1 rfl) ?_
        obtain ⟨s_then_7, hc_7, h⟩ := bd1_of h
        refine cl_mVv (As := [.int v1]) (rest := []) (ws' := (W_M cI cZ q_s q_s_lane q_s_many q_s_item q_s_isle q_s_fresh q_s_then q_s_was q_s_tape q_s_isKept q_s_kept q_s_trace 0 s_status s_lane s_many s_item s_isle s_fresh s_then_7 s_was s_acts s_tape s_taped s_cursor s_start s_token s_value s_fault s_faultAt s_latest s_isKept s_kept s_trace s_traced)) (wr := []) ⟨hx, hb, hml, hown, hts⟩ (m_X9_layHour l dC dI cI cZ q_s q_s_lane q_s_many q_s_item q_s_isle q_s_fresh q_s_then q_s_was q_s_tape q_s_isKept q_s_kept q_s_trace 0 s_status s_lane s_many s_item s_isle s_fresh s_then s_was s_acts s_tape s_taped s_cursor s_start s_token s_value s_fault s_faultAt s_latest s_isKept s_kept s_trace s_traced v1 _ (s_then_7) hc_7) (cwV 1 hts gX9_ahead_X9_layHour rfl rfl rfl ⟨rfl, ddX9_layHour⟩ ⟨Nat.le_of_ble_eq_true rfl, Nat.le_of_ble_eq_true rfl⟩) hK hP hD hS hA [0, 1, 2, 3, 4, 5, 6, 7, 8, 9, 10, 11] [] rfl rfl rfl rfl (by decide) [0, 1, 2, 3, 4, 5, 6, 7, 8, 9, 10, 11] rfl rfl rfl rfl rfl rfl rfl hl.1 (Nat.le_of_ble_eq_true rfl) ⟨Nat.zero_le _, Nat.zero_le _⟩ dX9_ahead_44 (fun H locs hP hD hS => ?_)
        refine lv_aload_n hx hb dX9_ahead_47 rfl (lv_at hl 0 rfl) ?_
        refine va_get (D := (dC, dI)) (ci := 7) (v := .ref q_s_then) (C := RX9) (T := TX9) (N := 23) hx hb hts w_1 hown hK hP 0 rfl rfl 7 (by decide) w_5 (fun _ h9 => h9) rfl dX9_ahead_48 ?_
        obtain ⟨r_8, hc_8, h⟩ := bd1_of h
        refine cl_rS (As := [.ref q_s_then]) (rest := []) ⟨hx, hb, hml, hown, hts⟩ (m_X9_dryOf l dC dI cI cZ q_s_then s_then_7 (r_8) hc_8) (va_cwS 1 hts gX9_ahead_X9_dryOf rfl rfl rfl ddX9_dryOf ⟨Nat.le_of_ble_eq_true rfl, Nat.le_of_ble_eq_true rfl⟩) hK hP [6] rfl rfl rfl hl.1 (Nat.le_of_ble_eq_true rfl) ⟨Nat.zero_le _, Nat.zero_le _⟩ dX9_ahead_51 ?_
        refine lv_istore_n (lv' := [(3, .int r_8), (0, .ref q_s), (1, .int v1), (2, .int v2)]) hx hb dX9_ahead_54 rfl hl (by decide) rfl (fun ls hl => ?_)
        refine lv_iload_n hx hb dX9_ahead_55 rfl (lv_at hl 3 rfl) ?_
        refine lv_if_ne (tgt := 75) hx hb dX9_ahead_56 (by decide) (fun c_9 => ?_) (fun c_9 => ?_)
        · have h := (if_neg c_9).symm.trans h
          refine lv_iload_n hx hb dX9_ahead_75 rfl (lv_at hl 3 rfl) ?_
          refine lv_iconst (v := 1) hx hb dX9_ahead_76 (by decide) ?_
          refine lv_icmp_ne (tgt := 84) hx hb dX9_ahead_77 (by decide) (fun c_10 => ?_) (fun c_10 => ?_)
          · have h := (if_neg c_10).symm.trans h
            refine lv_iload_n hx hb dX9_ahead_84 rfl (lv_at hl 0 rfl) ?_
            obtain ⟨r_11, hc_11, h⟩ := bd1_of h
            refine cl_pS (As := [.int r_8]) (rest := []) ⟨hx, hb, hml, hown, hts⟩ (m_X9_partsOf l r_8 (r_11) hc_11) (va_cwS 1 hts gX9_ahead_X9_partsOf rfl rfl rfl ddX9_partsOf ⟨Nat.le_of_ble_eq_true rfl, Nat.le_of_ble_eq_true rfl⟩) rfl rfl hl.1 (Nat.le_of_ble_eq_true rfl) ⟨Nat.zero_le _, Nat.zero_le _⟩ dX9_ahead_85 ?_
            have h := Option.some.inj h
            subst h
            rw [hQQ]
            subst hAe
            exact W.iret (v := r_11) hx hb hr (fun t ht hW => ⟨⟨_, (), rfl, rfl, by rw [ht]; exact hP, va_K.moved hW.alike hK, hD⟩, hS.F ht⟩) hS.2.2 dX9_ahead_88
          · have h := (if_pos c_10).symm.trans h
            refine lv_iload_n hx hb dX9_ahead_80 rfl (lv_at hl 0 rfl) ?_
            refine lv_goto (tgt := 88) hx hb dX9_ahead_81 (by decide) ?_
            have h := Option.some.inj h
            subst h
            rw [hQQ]
            subst hAe
            exact W.iret (v := r_8) hx hb hr (fun t ht hW => ⟨⟨_, (), rfl, rfl, by rw [ht]; exact hP, va_K.moved hW.alike hK, hD⟩, hS.F ht⟩) hS.2.2 dX9_ahead_88
        · have h := (if_pos c_9).symm.trans h
          refine lv_aload_n hx hb dX9_ahead_59 rfl (lv_at hl 1 rfl) ?_
          refine va_get (D := (dC, dI)) (ci := 7) (v := .ref q_s_then) (C := RX9) (T := TX9) (N := 23) hx hb hts w_1 hown hK hP 0 rfl rfl 7 (by decide) w_5 (fun _ h9 => h9) rfl dX9_ahead_60 ?_
          refine lv_aload_n hx hb dX9_ahead_63 rfl (lv_at hl 1 rfl) ?_
          refine va_get (D := (dC, dI)) (ci := 7) (v := .ref q_s_then) (C := RX9) (T := TX9) (N := 23) hx hb hts w_1 hown hK hP 0 rfl rfl 7 (by decide) w_5 (fun _ h9 => h9) rfl dX9_ahead_64 ?_
          refine lv_iconst (v := 5) hx hb dX9_ahead_67 (by decide) ?_
          refine va_iald hx hb hK hP 6 0 rfl rfl (i := 5) (show ¬ ((5 : Int32) < 0 ∨ 51 ≤ (5 : Int32).toNatClampNeg) by decide +kernel) dX9_ahead_68 ?_
          obtain ⟨r_12, hc_12, h⟩ := bd1_of h
          refine cl_rS (As := [.ref q_s_then, .int (s_then_7 (5 : Int32).toNatClampNeg)]) (rest := []) ⟨hx, hb, hml, hown, hts⟩ (m_X9_levelBy l dC dI cI cZ q_s_then s_then_7 (s_then_7 (5 : Int32).toNatClampNeg) (r_12) hc_12) (va_cwS 2 hts gX9_ahead_X9_levelBy rfl rfl rfl ddX9_levelBy ⟨Nat.le_of_ble_eq_true rfl, Nat.le_of_ble_eq_true rfl⟩) hK hP [6] rfl rfl rfl hl.1 (Nat.le_of_ble_eq_true rfl) ⟨Nat.zero_le _, Nat.zero_le _⟩ dX9_ahead_69 ?_
          refine lv_goto (tgt := 88) hx hb dX9_ahead_72 (by decide) ?_
          have h := Option.some.inj h
          subst h
          rw [hQQ]
          subst hAe
          exact W.iret (v := r_12) hx hb hr (fun t ht hW => ⟨⟨_, (), rfl, rfl, by rw [ht]; exact hP, va_K.moved hW.alike hK, hD⟩, hS.F ht⟩) hS.2.2 dX9_ahead_88
      · have h := (if_pos c_6).symm.trans h
        refine lv_ldc hx hb hown w_3 dX9_ahead_39 ?_
        have h := Option.some.inj h
        subst h
        rw [hQQ]
        subst hAe
        exact W.iret (v := (-1000001)) hx hb hr (fun t ht hW => ⟨⟨_, (), rfl, rfl, by rw [ht]; exact hP, va_K.moved hW.alike hK, hD⟩, hS.F ht⟩) hS.2.2 dX9_ahead_41
  · have h := (if_pos c_2).symm.trans h
    refine lv_ldc hx hb hown w_6 dX9_ahead_12 ?_
    have h := Option.some.inj h
    subst h
    rw [hQQ]
    subst hAe
    exact W.iret (v := (-1000002)) hx hb hr (fun t ht hW => ⟨⟨_, (), rfl, rfl, by rw [ht]; exact hP, va_K.moved hW.alike hK, hD⟩, hS.F ht⟩) hS.2.2 dX9_ahead_14
