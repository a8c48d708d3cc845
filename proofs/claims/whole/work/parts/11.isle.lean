def fX3_leaveAll_L2 : Nat → Int32 → (Nat → Int32) → Option ((Nat → Int32))
  | 0, _, _ => none
  | n + 1, v1_h2, s_holders_h2 => (if 15 ≤ v1_h2 then some (s_holders_h2) else chk (¬ (v1_h2 < 0 ∨ 15 ≤ v1_h2.toNatClampNeg)) (((fX3_leaveAll_L2  n) (v1_h2 + 1) (upd s_holders_h2 v1_h2.toNatClampNeg (-1)))))
def fX3_leaveAll (s_holders : (Nat → Int32)) : Option ((Nat → Int32)) :=
  (fX3_leaveAll_L2 FU 0 s_holders)
abbrev rmX3_leaveAll : Room := { frames := 0, cells := 0, slots := 0, locals := 0 }
theorem ddX3_leaveAll : yX3_leaveAll.cls ≠ "java/lang/invoke/MethodHandle" ∧ yX3_leaveAll.cls ≠ "java/lang/invoke/VarHandle" ∧ (parseMethodDescriptor yX3_leaveAll.desc).map (fun d => d.parameters.length) = some 0 := by decide +kernel
set_option maxHeartbeats 4000000 in
set_option maxRecDepth 100000 in
theorem m_X3_leaveAll (l : Launch) (dC : Nat → ClassId) (dI : Nat → Nat → Nat) (cI cZ : ClassId) (q_s q_s_heights q_s_holders q_s_kinds q_s_purses q_s_homes : Nat) (s_told : Int32) (s_low : Int32) (s_high : Int32) (s_price : Int32) (s_hour : Int32) (s_bidders : Int32) (s_heights : (Nat → Int32)) (s_holders : (Nat → Int32)) (s_kinds : (Nat → Int32)) (s_purses : (Nat → Int32)) (s_homes : (Nat → Int32)) (sz : Nat) (res : (Nat → Int32)) (hf : fX3_leaveAll s_holders = some res) : Met l yX3_leaveAll wsX3_leaveAll rmX3_leaveAll (mtPc (dC, dI) (tyZ cI cZ) ((W_Isle cI cZ q_s q_s_heights q_s_holders q_s_kinds q_s_purses q_s_homes s_told s_low s_high s_price s_hour s_bidders s_heights s_holders s_kinds s_purses s_homes)) [.ref q_s] sz) (mtQv (dC, dI) (tyZ cI cZ) ((W_Isle cI cZ q_s q_s_heights q_s_holders q_s_kinds q_s_purses q_s_homes s_told s_low s_high s_price s_hour s_bidders s_heights s_holders s_kinds s_purses s_homes)) ((W_Isle cI cZ q_s q_s_heights q_s_holders q_s_kinds q_s_purses q_s_homes s_told s_low s_high s_price s_hour s_bidders s_heights res s_kinds s_purses s_homes)) sz) 0 0 (va_A ((W_Isle cI cZ q_s q_s_heights q_s_holders q_s_kinds q_s_purses q_s_homes s_told s_low s_high s_price s_hour s_bidders s_heights s_holders s_kinds s_purses s_homes)) sz) := by
  refine Met.ofW (cc := cX3_leaveAll) (maxL := 2) (ret := none) (by decide) rfl ?_
  intro p e s m args below meth c s₁ B hml hv
  obtain ⟨rfl, hsz, hP, hK, hD0⟩ := hv
  have hx := B.exec
  have hb := B.bytes
  have hr := B.returns
  have hts := atoms_spec (ws := wsX3_leaveAll) B.pre
  have hown : s.vm.findClass RX3 = some m.cls := findClass_of_methodNamed B.named
  have hlocks := B.notSynchronized
  subst hsz
  have hD := hD0.self (sz := s.heap.size)
  obtain ⟨A, hAe⟩ : ∃ A, A = va_A ((W_Isle cI cZ q_s q_s_heights q_s_holders q_s_kinds q_s_purses q_s_homes s_told s_low s_high s_price s_hour s_bidders s_heights s_holders s_kinds s_purses s_homes)) s.heap.size := ⟨_, rfl⟩
  rw [← hAe] at hD
  have hA : ∀ q : Nat, s.heap.size ≤ q → A q := fun q h => by rw [hAe]; exact Or.inr h
  have hS : va_S A s.heap s.heap [] := va_S.rf
  have hl := lv_entry ([.ref q_s]) (n := 2) (Nat.le_of_ble_eq_true rfl)
  rw [lg_entry_eq]
  generalize (lg_sl ([.ref q_s]) ++ List.replicate (2 - (lg_sl ([.ref q_s])).length) Slot.unset).toArray = ls at hl ⊢
  have hl : lv_has ls 2 [(0, .ref q_s)] := hl
  obtain ⟨QQ, hQQ⟩ : ∃ Q, Q = MQ below (mtQv (dC, dI) (tyZ cI cZ) ((W_Isle cI cZ q_s q_s_heights q_s_holders q_s_kinds q_s_purses q_s_homes s_told s_low s_high s_price s_hour s_bidders s_heights s_holders s_kinds s_purses s_homes)) ((W_Isle cI cZ q_s q_s_heights q_s_holders q_s_kinds q_s_purses q_s_homes s_told s_low s_high s_price s_hour s_bidders s_heights res s_kinds s_purses s_homes)) s.heap.size) ([.ref q_s] : List Value).toArray s 0 0 (va_A ((W_Isle cI cZ q_s q_s_heights q_s_holders q_s_kinds q_s_purses q_s_homes s_told s_low s_high s_price s_hour s_bidders s_heights s_holders s_kinds s_purses s_homes)) s.heap.size) := ⟨_, rfl⟩
  rw [← hQQ]
  have w_0 := hts (Cond.fieldLink RX3 15 "TideInches$Isle" "holders" "[I") (List.mem_of_getElem? (i := 1) rfl)
  have w_1 := (fun w hw => List.mem_cons_of_mem _ (List.mem_append_right _ hw) : ∀ w ∈ wsX30, w ∈ wsX3_leaveAll)
  have h := hf
  unfold fX3_leaveAll at h
  refine lv_iconst (v := 0) hx hb dX3_leaveAll_0 (by decide) ?_
  refine lv_istore_n (lv' := [(1, .int 0), (0, .ref q_s)]) hx hb dX3_leaveAll_1 rfl hl (by decide) rfl (fun ls hl => ?_)
  have KL2 : ∀ (n : Nat) (v1_h2 : Int32) (s_holders_h2 : (Nat → Int32)) (H : Heap) (locs : List Loc) (ls : Array Slot), va_P (dC, dI) vwCl ((W_Isle cI cZ q_s q_s_heights q_s_holders q_s_kinds q_s_purses q_s_homes s_told s_low s_high s_price s_hour s_bidders s_heights s_holders_h2 s_kinds s_purses s_homes)) H → va_D A ((W_Isle cI cZ q_s q_s_heights q_s_holders q_s_kinds q_s_purses q_s_homes s_told s_low s_high s_price s_hour s_bidders s_heights s_holders_h2 s_kinds s_purses s_homes)) → va_S A s.heap H locs → lv_has ls 2 [(0, .ref q_s), (1, .int v1_h2)] → fX3_leaveAll_L2 n v1_h2 s_holders_h2 = some res → W p l e (headSpec wsX3_leaveAll rmX3_leaveAll).room s m ([.ref q_s] : List Value).toArray below meth c H locs 0 0 QQ (F0 m 2 ls []) := by
    intro  n
    induction n with
    | zero => intro v1_h2 s_holders_h2 H locs ls hP hD hS hl h; rw [fX3_leaveAll_L2.eq_1] at h; cases h
    | succ n ih =>
      intro v1_h2 s_holders_h2 H locs ls hP hD hS hl h
      rw [fX3_leaveAll_L2.eq_2] at h
      refine lv_iload_n hx hb dX3_leaveAll_2 rfl (lv_at hl 1 rfl) ?_
      refine lv_bipush (v := 15) hx hb dX3_leaveAll_3 (by decide) ?_
      refine lv_icmp_ge (tgt := 21) hx hb dX3_leaveAll_5 (by decide) (fun c_1 => ?_) (fun c_1 => ?_)
      · have h := (if_pos c_1).symm.trans h
        have h := Option.some.inj h
        subst h
        rw [hQQ]
        subst hAe
        exact W.vret hx hb hr (fun t ht hW => ⟨⟨(), rfl, trivial, by rw [ht]; exact hP, va_K.moved hW.alike hK, hD⟩, hS.F ht⟩) hS.2.2 dX3_leaveAll_21
      · have h := (if_neg c_1).symm.trans h
        refine lv_aload_n hx hb dX3_leaveAll_8 rfl (lv_at hl 0 rfl) ?_
        refine va_get (D := (dC, dI)) (ci := 3) (v := .ref q_s_holders) (C := RX3) (T := TX3) (N := 11) hx hb hts w_1 hown hK hP 0 rfl rfl 7 (by decide) w_0 (fun _ h9 => h9) rfl dX3_leaveAll_9 ?_
        refine lv_iload_n hx hb dX3_leaveAll_12 rfl (lv_at hl 1 rfl) ?_
        refine lv_iconst (v := (-1)) hx hb dX3_leaveAll_13 (by decide) ?_
        obtain ⟨b_2, h⟩ := chk_of h
        refine va_iast hx hb hK hP hD hS 2 0 rfl rfl (i := v1_h2) (x := (-1)) b_2 dX3_leaveAll_14 (fun H locs hP hD hS => ?_)
        have hP : va_P (dC, dI) vwCl ((W_Isle cI cZ q_s q_s_heights q_s_holders q_s_kinds q_s_purses q_s_homes s_told s_low s_high s_price s_hour s_bidders s_heights (upd s_holders_h2 v1_h2.toNatClampNeg (-1)) s_kinds s_purses s_homes)) H := hP
        have hD : va_D A ((W_Isle cI cZ q_s q_s_heights q_s_holders q_s_kinds q_s_purses q_s_homes s_told s_low s_high s_price s_hour s_bidders s_heights (upd s_holders_h2 v1_h2.toNatClampNeg (-1)) s_kinds s_purses s_homes)) := hD
        refine lv_iinc (v := (v1_h2 + 1)) (lv' := [(1, .int (v1_h2 + 1)), (0, .ref q_s)]) hx hb dX3_leaveAll_15 hl (k := 1) rfl rfl (by decide) rfl (fun ls hl => ?_)
        refine lv_goto (tgt := 2) hx hb dX3_leaveAll_18 (by decide) ?_
        exact ih (v1_h2 + 1) (upd s_holders_h2 v1_h2.toNatClampNeg (-1)) _ _ _ hP hD hS (lv_sub hl [1, 0] rfl) h
  exact KL2 FU 0 s_holders _ _ _ hP hD hS (lv_sub hl [1, 0] rfl) h
def fX3_begin (s_holders : (Nat → Int32)) : Option (Int32 × Int32 × Int32 × (Nat → Int32)) :=
  bd1 (fX3_leaveAll s_holders) (fun s_holders_1 => some (0, 0, 0, s_holders_1))
abbrev rmX3_begin : Room := { frames := 1, cells := 0, slots := 0, locals := 21 }
theorem ddX3_begin : yX3_begin.cls ≠ "java/lang/invoke/MethodHandle" ∧ yX3_begin.cls ≠ "java/lang/invoke/VarHandle" ∧ (parseMethodDescriptor yX3_begin.desc).map (fun d => d.parameters.length) = some 0 := by decide +kernel
set_option maxHeartbeats 4000000 in
set_option maxRecDepth 100000 in
theorem m_X3_begin (l : Launch) (dC : Nat → ClassId) (dI : Nat → Nat → Nat) (cI cZ : ClassId) (q_s q_s_heights q_s_holders q_s_kinds q_s_purses q_s_homes : Nat) (s_told : Int32) (s_low : Int32) (s_high : Int32) (s_price : Int32) (s_hour : Int32) (s_bidders : Int32) (s_heights : (Nat → Int32)) (s_holders : (Nat → Int32)) (s_kinds : (Nat → Int32)) (s_purses : (Nat → Int32)) (s_homes : (Nat → Int32)) (sz : Nat) (res : Int32 × Int32 × Int32 × (Nat → Int32)) (hf : fX3_begin s_holders = some res) : Met l yX3_begin wsX3_begin rmX3_begin (mtPc (dC, dI) (tyZ cI cZ) ((W_Isle cI cZ q_s q_s_heights q_s_holders q_s_kinds q_s_purses q_s_homes s_told s_low s_high s_price s_hour s_bidders s_heights s_holders s_kinds s_purses s_homes)) [.ref q_s] sz) (mtQv (dC, dI) (tyZ cI cZ) ((W_Isle cI cZ q_s q_s_heights q_s_holders q_s_kinds q_s_purses q_s_homes s_told s_low s_high s_price s_hour s_bidders s_heights s_holders s_kinds s_purses s_homes)) ((W_Isle cI cZ q_s q_s_heights q_s_holders q_s_kinds q_s_purses q_s_homes res.1 s_low s_high s_price res.2.1 res.2.2.1 s_heights res.2.2.2 s_kinds s_purses s_homes)) sz) 0 0 (va_A ((W_Isle cI cZ q_s q_s_heights q_s_holders q_s_kinds q_s_purses q_s_homes s_told s_low s_high s_price s_hour s_bidders s_heights s_holders s_kinds s_purses s_homes)) sz) := by
  refine Met.ofW (cc := cX3_begin) (maxL := 1) (ret := none) (by decide) rfl ?_
  intro p e s m args below meth c s₁ B hml hv
  obtain ⟨rfl, hsz, hP, hK, hD0⟩ := hv
  have hx := B.exec
  have hb := B.bytes
  have hr := B.returns
  have hts := atoms_spec (ws := wsX3_begin) B.pre
  have hown : s.vm.findClass RX3 = some m.cls := findClass_of_methodNamed B.named
  have hlocks := B.notSynchronized
  subst hsz
  have hD := hD0.self (sz := s.heap.size)
  obtain ⟨A, hAe⟩ : ∃ A, A = va_A ((W_Isle cI cZ q_s q_s_heights q_s_holders q_s_kinds q_s_purses q_s_homes s_told s_low s_high s_price s_hour s_bidders s_heights s_holders s_kinds s_purses s_homes)) s.heap.size := ⟨_, rfl⟩
  rw [← hAe] at hD
  have hA : ∀ q : Nat, s.heap.size ≤ q → A q := fun q h => by rw [hAe]; exact Or.inr h
  have hS : va_S A s.heap s.heap [] := va_S.rf
  have hl := lv_entry ([.ref q_s]) (n := 1) (Nat.le_of_ble_eq_true rfl)
  rw [lg_entry_eq]
  generalize (lg_sl ([.ref q_s]) ++ List.replicate (1 - (lg_sl ([.ref q_s])).length) Slot.unset).toArray = ls at hl ⊢
  have hl : lv_has ls 1 [(0, .ref q_s)] := hl
  obtain ⟨QQ, hQQ⟩ : ∃ Q, Q = MQ below (mtQv (dC, dI) (tyZ cI cZ) ((W_Isle cI cZ q_s q_s_heights q_s_holders q_s_kinds q_s_purses q_s_homes s_told s_low s_high s_price s_hour s_bidders s_heights s_holders s_kinds s_purses s_homes)) ((W_Isle cI cZ q_s q_s_heights q_s_holders q_s_kinds q_s_purses q_s_homes res.1 s_low s_high s_price res.2.1 res.2.2.1 s_heights res.2.2.2 s_kinds s_purses s_homes)) s.heap.size) ([.ref q_s] : List Value).toArray s 0 0 (va_A ((W_Isle cI cZ q_s q_s_heights q_s_holders q_s_kinds q_s_purses q_s_homes s_told s_low s_high s_price s_hour s_bidders s_heights s_holders s_kinds s_purses s_homes)) s.heap.size) := ⟨_, rfl⟩
  rw [← hQQ]
  have w_0 := hts (Cond.fieldLink RX3 30 "TideInches$Isle" "told" "Z") (List.mem_of_getElem? (i := 1) rfl)
  have w_1 := (fun w hw => List.mem_cons_of_mem _ (List.mem_append_right _ hw) : ∀ w ∈ wsX30, w ∈ wsX3_begin)
  have w_2 := hts (Cond.fieldLink RX3 34 "TideInches$Isle" "hour" "I") (List.mem_of_getElem? (i := 2) rfl)
  have w_3 := hts (Cond.fieldLink RX3 38 "TideInches$Isle" "bidders" "I") (List.mem_of_getElem? (i := 3) rfl)
  have h := hf
  unfold fX3_begin at h
  refine lv_aload_n hx hb dX3_begin_0 rfl (lv_at hl 0 rfl) ?_
  refine lv_iconst (v := 0) hx hb dX3_begin_1 (by decide) ?_
  refine va_put (D := (dC, dI)) (ci := 3) (v := .int 0) (ty := .boolean) (C := RX3) (T := TX3) (N := 11) hx hb hts w_1 tyX3 tyX3_ok nmX3 hown hK hP hD hS 0 rfl rfl 0 (by decide) w_0 (fun _ h9 => h9) rfl (by decide +kernel) rfl rfl (Nat.le_of_ble_eq_true rfl) dX3_begin_2 (fun H locs hP hD hS => ?_)
  have hP : va_P (dC, dI) vwCl ((W_Isle cI cZ q_s q_s_heights q_s_holders q_s_kinds q_s_purses q_s_homes 0 s_low s_high s_price s_hour s_bidders s_heights s_holders s_kinds s_purses s_homes)) H := hP
  have hD : va_D A ((W_Isle cI cZ q_s q_s_heights q_s_holders q_s_kinds q_s_purses q_s_homes 0 s_low s_high s_price s_hour s_bidders s_heights s_holders s_kinds s_purses s_homes)) := hD
  refine lv_aload_n hx hb dX3_begin_5 rfl (lv_at hl 0 rfl) ?_
  refine lv_iconst (v := 0) hx hb dX3_begin_6 (by decide) ?_
  refine va_put (D := (dC, dI)) (ci := 3) (v := .int 0) (ty := .int) (C := RX3) (T := TX3) (N := 11) hx hb hts w_1 tyX3 tyX3_ok nmX3 hown hK hP hD hS 0 rfl rfl 4 (by decide) w_2 (fun _ h9 => h9) rfl (by decide +kernel) rfl rfl (Nat.le_of_ble_eq_true rfl) dX3_begin_7 (fun H locs hP hD hS => ?_)
  have hP : va_P (dC, dI) vwCl ((W_Isle cI cZ q_s q_s_heights q_s_holders q_s_kinds q_s_purses q_s_homes 0 s_low s_high s_price 0 s_bidders s_heights s_holders s_kinds s_purses s_homes)) H := hP
  have hD : va_D A ((W_Isle cI cZ q_s q_s_heights q_s_holders q_s_kinds q_s_purses q_s_homes 0 s_low s_high s_price 0 s_bidders s_heights s_holders s_kinds s_purses s_homes)) := hD
  refine lv_aload_n hx hb dX3_begin_10 rfl (lv_at hl 0 rfl) ?_
  refine lv_iconst (v := 0) hx hb dX3_begin_11 (by decide) ?_
  refine va_put (D := (dC, dI)) (ci := 3) (v := .int 0) (ty := .int) (C := RX3) (T := TX3) (N := 11) hx hb hts w_1 tyX3 tyX3_ok nmX3 hown hK hP hD hS 0 rfl rfl 5 (by decide) w_3 (fun _ h9 => h9) rfl (by decide +kernel) rfl rfl (Nat.le_of_ble_eq_true rfl) dX3_begin_12 (fun H locs hP hD hS => ?_)
  have hP : va_P (dC, dI) vwCl ((W_Isle cI cZ q_s q_s_heights q_s_holders q_s_kinds q_s_purses q_s_homes 0 s_low s_high s_price 0 0 s_heights s_holders s_kinds s_purses s_homes)) H := hP
  have hD : va_D A ((W_Isle cI cZ q_s q_s_heights q_s_holders q_s_kinds q_s_purses q_s_homes 0 s_low s_high s_price 0 0 s_heights s_holders s_kinds s_purses s_homes)) := hD
  refine lv_aload_n hx hb dX3_begin_15 rfl (lv_at hl 0 rfl) ?_
  obtain ⟨s_holders_1, hc_1, h⟩ := bd1_of h
  refine cl_mVv (As := []) (rest := []) (ws' := (W_Isle cI cZ q_s q_s_heights q_s_holders q_s_kinds q_s_purses q_s_homes 0 s_low s_high s_price 0 0 s_heights s_holders_1 s_kinds s_purses s_homes)) (wr := []) ⟨hx, hb, hml, hown, hts⟩ (m_X3_leaveAll l dC dI cI cZ q_s q_s_heights q_s_holders q_s_kinds q_s_purses q_s_homes 0 s_low s_high s_price 0 0 s_heights s_holders s_kinds s_purses s_homes _ (s_holders_1) hc_1) (cwV 0 hts gX3_begin_X3_leaveAll rfl rfl rfl ⟨rfl, ddX3_leaveAll⟩ ⟨Nat.le_of_ble_eq_true rfl, Nat.le_of_ble_eq_true rfl⟩) hK hP hD hS hA [0, 1, 2, 3, 4, 5] [] rfl rfl rfl rfl (by decide) [0, 1, 2, 3, 4, 5] rfl rfl rfl rfl rfl rfl rfl hl.1 (Nat.le_of_ble_eq_true rfl) ⟨Nat.zero_le _, Nat.zero_le _⟩ dX3_begin_16 (fun H locs hP hD hS => ?_)
  have h := Option.some.inj h
  subst h
  rw [hQQ]
  subst hAe
  exact W.vret hx hb hr (fun t ht hW => ⟨⟨(), rfl, trivial, by rw [ht]; exact hP, va_K.moved hW.alike hK, hD⟩, hS.F ht⟩) hS.2.2 dX3_begin_19
def fX3_tellLaw (v1 : Int32) (v2 : Int32) (v3 : Int32) : Option (Int32 × Int32 × Int32 × Int32) :=
  some (1, v1, v2, v3)
abbrev rmX3_tellLaw : Room := { frames := 0, cells := 0, slots := 0, locals := 0 }
theorem ddX3_tellLaw : yX3_tellLaw.cls ≠ "java/lang/invoke/MethodHandle" ∧ yX3_tellLaw.cls ≠ "java/lang/invoke/VarHandle" ∧ (parseMethodDescriptor yX3_tellLaw.desc).map (fun d => d.parameters.length) = some 3 := by decide +kernel
set_option maxHeartbeats 4000000 in
set_option maxRecDepth 100000 in
theorem m_X3_tellLaw (l : Launch) (dC : Nat → ClassId) (dI : Nat → Nat → Nat) (cI cZ : ClassId) (q_s q_s_heights q_s_holders q_s_kinds q_s_purses q_s_homes : Nat) (s_told : Int32) (s_low : Int32) (s_high : Int32) (s_price : Int32) (s_hour : Int32) (s_bidders : Int32) (s_heights : (Nat → Int32)) (s_holders : (Nat → Int32)) (s_kinds : (Nat → Int32)) (s_purses : (Nat → Int32)) (s_homes : (Nat → Int32)) (v1 : Int32) (v2 : Int32) (v3 : Int32) (sz : Nat) (res : Int32 × Int32 × Int32 × Int32) (hf : fX3_tellLaw v1 v2 v3 = some res) : Met l yX3_tellLaw wsX3_tellLaw rmX3_tellLaw (mtPc (dC, dI) (tyZ cI cZ) ((W_Isle cI cZ q_s q_s_heights q_s_holders q_s_kinds q_s_purses q_s_homes s_told s_low s_high s_price s_hour s_bidders s_heights s_holders s_kinds s_purses s_homes)) [.ref q_s, .int v1, .int v2, .int v3] sz) (mtQv (dC, dI) (tyZ cI cZ) ((W_Isle cI cZ q_s q_s_heights q_s_holders q_s_kinds q_s_purses q_s_homes s_told s_low s_high s_price s_hour s_bidders s_heights s_holders s_kinds s_purses s_homes)) ((W_Isle cI cZ q_s q_s_heights q_s_holders q_s_kinds q_s_purses q_s_homes res.1 res.2.1 res.2.2.1 res.2.2.2 s_hour s_bidders s_heights s_holders s_kinds s_purses s_homes)) sz) 0 0 (va_A ((W_Isle cI cZ q_s q_s_heights q_s_holders q_s_kinds q_s_purses q_s_homes s_told s_low s_high s_price s_hour s_bidders s_heights s_holders s_kinds s_purses s_homes)) sz) := by
  refine Met.ofW (cc := cX3_tellLaw) (maxL := 4) (ret := none) (by decide) rfl ?_
  intro p e s m args below meth c s₁ B hml hv
  obtain ⟨rfl, hsz, hP, hK, hD0⟩ := hv
  have hx := B.exec
  have hb := B.bytes
  have hr := B.returns
  have hts := atoms_spec (ws := wsX3_tellLaw) B.pre
  have hown : s.vm.findClass RX3 = some m.cls := findClass_of_methodNamed B.named
  have hlocks := B.notSynchronized
  subst hsz
  have hD := hD0.self (sz := s.heap.size)
  obtain ⟨A, hAe⟩ : ∃ A, A = va_A ((W_Isle cI cZ q_s q_s_heights q_s_holders q_s_kinds q_s_purses q_s_homes s_told s_low s_high s_price s_hour s_bidders s_heights s_holders s_kinds s_purses s_homes)) s.heap.size := ⟨_, rfl⟩
  rw [← hAe] at hD
  have hA : ∀ q : Nat, s.heap.size ≤ q → A q := fun q h => by rw [hAe]; exact Or.inr h
  have hS : va_S A s.heap s.heap [] := va_S.rf
  have hl := lv_entry ([.ref q_s, .int v1, .int v2, .int v3]) (n := 4) (Nat.le_of_ble_eq_true rfl)
  rw [lg_entry_eq]
  generalize (lg_sl ([.ref q_s, .int v1, .int v2, .int v3]) ++ List.replicate (4 - (lg_sl ([.ref q_s, .int v1, .int v2, .int v3])).length) Slot.unset).toArray = ls at hl ⊢
  have hl : lv_has ls 4 [(0, .ref q_s), (1, .int v1), (2, .int v2), (3, .int v3)] := hl
  obtain ⟨QQ, hQQ⟩ : ∃ Q, Q = MQ below (mtQv (dC, dI) (tyZ cI cZ) ((W_Isle cI cZ q_s q_s_heights q_s_holders q_s_kinds q_s_purses q_s_homes s_told s_low s_high s_price s_hour s_bidders s_heights s_holders s_kinds s_purses s_homes)) ((W_Isle cI cZ q_s q_s_heights q_s_holders q_s_kinds q_s_purses q_s_homes res.1 res.2.1 res.2.2.1 res.2.2.2 s_hour s_bidders s_heights s_holders s_kinds s_purses s_homes)) s.heap.size) ([.ref q_s, .int v1, .int v2, .int v3] : List Value).toArray s 0 0 (va_A ((W_Isle cI cZ q_s q_s_heights q_s_holders q_s_kinds q_s_purses q_s_homes s_told s_low s_high s_price s_hour s_bidders s_heights s_holders s_kinds s_purses s_homes)) s.heap.size) := ⟨_, rfl⟩
  rw [← hQQ]
  have w_0 := hts (Cond.fieldLink RX3 41 "TideInches$Isle" "low" "I") (List.mem_of_getElem? (i := 1) rfl)
  have w_1 := (fun w hw => List.mem_cons_of_mem _ (List.mem_append_right _ hw) : ∀ w ∈ wsX30, w ∈ wsX3_tellLaw)
  have w_2 := hts (Cond.fieldLink RX3 44 "TideInches$Isle" "high" "I") (List.mem_of_getElem? (i := 2) rfl)
  have w_3 := hts (Cond.fieldLink RX3 47 "TideInches$Isle" "price" "I") (List.mem_of_getElem? (i := 3) rfl)
  have w_4 := hts (Cond.fieldLink RX3 30 "TideInches$Isle" "told" "Z") (List.mem_of_getElem? (i := 4) rfl)
  have h := hf
  unfold fX3_tellLaw at h
  refine lv_aload_n hx hb dX3_tellLaw_0 rfl (lv_at hl 0 rfl) ?_
  refine lv_iload_n hx hb dX3_tellLaw_1 rfl (lv_at hl 1 rfl) ?_
  refine va_put (D := (dC, dI)) (ci := 3) (v := .int v1) (ty := .int) (C := RX3) (T := TX3) (N := 11) hx hb hts w_1 tyX3 tyX3_ok nmX3 hown hK hP hD hS 0 rfl rfl 1 (by decide) w_0 (fun _ h9 => h9) rfl (by decide +kernel) rfl rfl (Nat.le_of_ble_eq_true rfl) dX3_tellLaw_2 (fun H locs hP hD hS => ?_)
  have hP : va_P (dC, dI) vwCl ((W_Isle cI cZ q_s q_s_heights q_s_holders q_s_kinds q_s_purses q_s_homes s_told v1 s_high s_price s_hour s_bidders s_heights s_holders s_kinds s_purses s_homes)) H := hP
  have hD : va_D A ((W_Isle cI cZ q_s q_s_heights q_s_holders q_s_kinds q_s_purses q_s_homes s_told v1 s_high s_price s_hour s_bidders s_heights s_holders s_kinds s_purses s_homes)) := hD
  refine lv_aload_n hx hb dX3_tellLaw_5 rfl (lv_at hl 0 rfl) ?_
  refine lv_iload_n hx hb dX3_tellLaw_6 rfl (lv_at hl 2 rfl) ?_
  refine va_put (D := (dC, dI)) (ci := 3) (v := .int v2) (ty := .int) (C := RX3) (T := TX3) (N := 11) hx hb hts w_1 tyX3 tyX3_ok nmX3 hown hK hP hD hS 0 rfl rfl 2 (by decide) w_2 (fun _ h9 => h9) rfl (by decide +kernel) rfl rfl (Nat.le_of_ble_eq_true rfl) dX3_tellLaw_7 (fun H locs hP hD hS => ?_)
  have hP : va_P (dC, dI) vwCl ((W_Isle cI cZ q_s q_s_heights q_s_holders q_s_kinds q_s_purses q_s_homes s_told v1 v2 s_price s_hour s_bidders s_heights s_holders s_kinds s_purses s_homes)) H := hP
  have hD : va_D A ((W_Isle cI cZ q_s q_s_heights q_s_holders q_s_kinds q_s_purses q_s_homes s_told v1 v2 s_price s_hour s_bidders s_heights s_holders s_kinds s_purses s_homes)) := hD
  refine lv_aload_n hx hb dX3_tellLaw_10 rfl (lv_at hl 0 rfl) ?_
  refine lv_iload_n hx hb dX3_tellLaw_11 rfl (lv_at hl 3 rfl) ?_
  refine va_put (D := (dC, dI)) (ci := 3) (v := .int v3) (ty := .int) (C := RX3) (T := TX3) (N := 11) hx hb hts w_1 tyX3 tyX3_ok nmX3 hown hK hP hD hS 0 rfl rfl 3 (by decide) w_3 (fun _ h9 => h9) rfl (by decide +kernel) rfl rfl (Nat.le_of_ble_eq_true rfl) dX3_tellLaw_12 (fun H locs hP hD hS => ?_)
  have hP : va_P (dC, dI) vwCl ((W_Isle cI cZ q_s q_s_heights q_s_holders q_s_kinds q_s_purses q_s_homes s_told v1 v2 v3 s_hour s_bidders s_heights s_holders s_kinds s_purses s_homes)) H := hP
  have hD : va_D A ((W_Isle cI cZ q_s q_s_heights q_s_holders q_s_kinds q_s_purses q_s_homes s_told v1 v2 v3 s_hour s_bidders s_heights s_holders s_kinds s_purses s_homes)) := hD
  refine lv_aload_n hx hb dX3_tellLaw_15 rfl (lv_at hl 0 rfl) ?_
  refine lv_iconst (v := 1) hx hb dX3_tellLaw_16 (by decide) ?_
  refine va_put (D := (dC, dI)) (ci := 3) (v := .int 1) (ty := .boolean) (C := RX3) (T := TX3) (N := 11) hx hb hts w_1 tyX3 tyX3_ok nmX3 hown hK hP hD hS 0 rfl rfl 0 (by decide) w_4 (fun _ h9 => h9) rfl (by decide +kernel) rfl rfl (Nat.le_of_ble_eq_true rfl) dX3_tellLaw_17 (fun H locs hP hD hS => ?_)
  have hP : va_P (dC, dI) vwCl ((W_Isle cI cZ q_s q_s_heights q_s_holders q_s_kinds q_s_purses q_s_homes 1 v1 v2 v3 s_hour s_bidders s_heights s_holders s_kinds s_purses s_homes)) H := hP
  have hD : va_D A ((W_Isle cI cZ q_s q_s_heights q_s_holders q_s_kinds q_s_purses q_s_homes 1 v1 v2 v3 s_hour s_bidders s_heights s_holders s_kinds s_purses s_homes)) := hD
  have h := Option.some.inj h
  subst h
  rw [hQQ]
  subst hAe
  exact W.vret hx hb hr (fun t ht hW => ⟨⟨(), rfl, trivial, by rw [ht]; exact hP, va_K.moved hW.alike hK, hD⟩, hS.F ht⟩) hS.2.2 dX3_tellLaw_20
def fX3_tellHeight (s_heights : (Nat → Int32)) (v1 : Int32) (v2 : Int32) : Option ((Nat → Int32)) :=
  chk (¬ (v1 < 0 ∨ 15 ≤ v1.toNatClampNeg)) (some ((upd s_heights v1.toNatClampNeg v2)))
abbrev rmX3_tellHeight : Room := { frames := 0, cells := 0, slots := 0, locals := 0 }
theorem ddX3_tellHeight : yX3_tellHeight.cls ≠ "java/lang/invoke/MethodHandle" ∧ yX3_tellHeight.cls ≠ "java/lang/invoke/VarHandle" ∧ (parseMethodDescriptor yX3_tellHeight.desc).map (fun d => d.parameters.length) = some 2 := by decide +kernel
set_option maxHeartbeats 4000000 in
set_option maxRecDepth 100000 in
theorem m_X3_tellHeight (l : Launch) (dC : Nat → ClassId) (dI : Nat → Nat → Nat) (cI cZ : ClassId) (q_s q_s_heights q_s_holders q_s_kinds q_s_purses q_s_homes : Nat) (s_told : Int32) (s_low : Int32) (s_high : Int32) (s_price : Int32) (s_hour : Int32) (s_bidders : Int32) (s_heights : (Nat → Int32)) (s_holders : (Nat → Int32)) (s_kinds : (Nat → Int32)) (s_purses : (Nat → Int32)) (s_homes : (Nat → Int32)) (v1 : Int32) (v2 : Int32) (sz : Nat) (res : (Nat → Int32)) (hf : fX3_tellHeight s_heights v1 v2 = some res) : Met l yX3_tellHeight wsX3_tellHeight rmX3_tellHeight (mtPc (dC, dI) (tyZ cI cZ) ((W_Isle cI cZ q_s q_s_heights q_s_holders q_s_kinds q_s_purses q_s_homes s_told s_low s_high s_price s_hour s_bidders s_heights s_holders s_kinds s_purses s_homes)) [.ref q_s, .int v1, .int v2] sz) (mtQv (dC, dI) (tyZ cI cZ) ((W_Isle cI cZ q_s q_s_heights q_s_holders q_s_kinds q_s_purses q_s_homes s_told s_low s_high s_price s_hour s_bidders s_heights s_holders s_kinds s_purses s_homes)) ((W_Isle cI cZ q_s q_s_heights q_s_holders q_s_kinds q_s_purses q_s_homes s_told s_low s_high s_price s_hour s_bidders res s_holders s_kinds s_purses s_homes)) sz) 0 0 (va_A ((W_Isle cI cZ q_s q_s_heights q_s_holders q_s_kinds q_s_purses q_s_homes s_told s_low s_high s_price s_hour s_bidders s_heights s_holders s_kinds s_purses s_homes)) sz) := by
  refine Met.ofW (cc := cX3_tellHeight) (maxL := 3) (ret := none) (by decide) rfl ?_
  intro p e s m args below meth c s₁ B hml hv
  obtain ⟨rfl, hsz, hP, hK, hD0⟩ := hv
  have hx := B.exec
  have hb := B.bytes
  have hr := B.returns
  have hts := atoms_spec (ws := wsX3_tellHeight) B.pre
  have hown : s.vm.findClass RX3 = some m.cls := findClass_of_methodNamed B.named
  have hlocks := B.notSynchronized
  subst hsz
  have hD := hD0.self (sz := s.heap.size)
  obtain ⟨A, hAe⟩ : ∃ A, A = va_A ((W_Isle cI cZ q_s q_s_heights q_s_holders q_s_kinds q_s_purses q_s_homes s_told s_low s_high s_price s_hour s_bidders s_heights s_holders s_kinds s_purses s_homes)) s.heap.size := ⟨_, rfl⟩
  rw [← hAe] at hD
  have hA : ∀ q : Nat, s.heap.size ≤ q → A q := fun q h => by rw [hAe]; exact Or.inr h
  have hS : va_S A s.heap s.heap [] := va_S.rf
  have hl := lv_entry ([.ref q_s, .int v1, .int v2]) (n := 3) (Nat.le_of_ble_eq_true rfl)
  rw [lg_entry_eq]
  generalize (lg_sl ([.ref q_s, .int v1, .int v2]) ++ List.replicate (3 - (lg_sl ([.ref q_s, .int v1, .int v2])).length) Slot.unset).toArray = ls at hl ⊢
  have hl : lv_has ls 3 [(0, .ref q_s), (1, .int v1), (2, .int v2)] := hl
  obtain ⟨QQ, hQQ⟩ : ∃ Q, Q = MQ below (mtQv (dC, dI) (tyZ cI cZ) ((W_Isle cI cZ q_s q_s_heights q_s_holders q_s_kinds q_s_purses q_s_homes s_told s_low s_high s_price s_hour s_bidders s_heights s_holders s_kinds s_purses s_homes)) ((W_Isle cI cZ q_s q_s_heights q_s_holders q_s_kinds q_s_purses q_s_homes s_told s_low s_high s_price s_hour s_bidders res s_holders s_kinds s_purses s_homes)) s.heap.size) ([.ref q_s, .int v1, .int v2] : List Value).toArray s 0 0 (va_A ((W_Isle cI cZ q_s q_s_heights q_s_holders q_s_kinds q_s_purses q_s_homes s_told s_low s_high s_price s_hour s_bidders s_heights s_holders s_kinds s_purses s_homes)) s.heap.size) := ⟨_, rfl⟩
  rw [← hQQ]
  have w_0 := hts (Cond.fieldLink RX3 9 "TideInches$Isle" "heights" "[I") (List.mem_of_getElem? (i := 1) rfl)
  have w_1 := (fun w hw => List.mem_cons_of_mem _ (List.mem_append_right _ hw) : ∀ w ∈ wsX30, w ∈ wsX3_tellHeight)
  have h := hf
  unfold fX3_tellHeight at h
  refine lv_aload_n hx hb dX3_tellHeight_0 rfl (lv_at hl 0 rfl) ?_
  refine va_get (D := (dC, dI)) (ci := 3) (v := .ref q_s_heights) (C := RX3) (T := TX3) (N := 11) hx hb hts w_1 hown hK hP 0 rfl rfl 6 (by decide) w_0 (fun _ h9 => h9) rfl dX3_tellHeight_1 ?_
  refine lv_iload_n hx hb dX3_tellHeight_4 rfl (lv_at hl 1 rfl) ?_
  refine lv_iload_n hx hb dX3_tellHeight_5 rfl (lv_at hl 2 rfl) ?_
  obtain ⟨b_1, h⟩ := chk_of h
  refine va_iast hx hb hK hP hD hS 1 0 rfl rfl (i := v1) (x := v2) b_1 dX3_tellHeight_6 (fun H locs hP hD hS => ?_)
  have hP : va_P (dC, dI) vwCl ((W_Isle cI cZ q_s q_s_heights q_s_holders q_s_kinds q_s_purses q_s_homes s_told s_low s_high s_price s_hour s_bidders (upd s_heights v1.toNatClampNeg v2) s_holders s_kinds s_purses s_homes)) H := hP
  have hD : va_D A ((W_Isle cI cZ q_s q_s_heights q_s_holders q_s_kinds q_s_purses q_s_homes s_told s_low s_high s_price s_hour s_bidders (upd s_heights v1.toNatClampNeg v2) s_holders s_kinds s_purses s_homes)) := hD
  have h := Option.some.inj h
  subst h
  rw [hQQ]
  subst hAe
  exact W.vret hx hb hr (fun t ht hW => ⟨⟨(), rfl, trivial, by rw [ht]; exact hP, va_K.moved hW.alike hK, hD⟩, hS.F ht⟩) hS.2.2 dX3_tellHeight_7
def fX3_tellBidder (s_bidders : Int32) (s_kinds : (Nat → Int32)) (s_purses : (Nat → Int32)) (s_homes : (Nat → Int32)) (v1 : Int32) (v2 : Int32) (v3 : Int32) : Option (Int32 × (Nat → Int32) × (Nat → Int32) × (Nat → Int32)) :=
  (if 5 ≤ s_bidders then some (s_bidders, s_kinds, s_purses, s_homes) else chk (¬ (s_bidders < 0 ∨ 5 ≤ s_bidders.toNatClampNeg)) (chk (¬ (s_bidders < 0 ∨ 5 ≤ s_bidders.toNatClampNeg)) (chk (¬ (s_bidders < 0 ∨ 5 ≤ s_bidders.toNatClampNeg)) (some ((s_bidders + 1), (upd s_kinds s_bidders.toNatClampNeg v1), (upd s_purses s_bidders.toNatClampNeg v2), (upd s_homes s_bidders.toNatClampNeg v3))))))
abbrev rmX3_tellBidder : Room := { frames := 0, cells := 0, slots := 0, locals := 0 }
theorem ddX3_tellBidder : yX3_tellBidder.cls ≠ "java/lang/invoke/MethodHandle" ∧ yX3_tellBidder.cls ≠ "java/lang/invoke/VarHandle" ∧ (parseMethodDescriptor yX3_tellBidder.desc).map (fun d => d.parameters.length) = some 3 := by decide +kernel
set_option maxHeartbeats 4000000 in
set_option maxRecDepth 100000 in
theorem m_X3_tellBidder (l : Launch) (dC : Nat → ClassId) (dI : Nat → Nat → Nat) (cI cZ : ClassId) (q_s q_s_heights q_s_holders q_s_kinds q_s_purses q_s_homes : Nat) (s_told : Int32) (s_low : Int32) (s_high : Int32) (s_price : Int32) (s_hour : Int32) (s_bidders : Int32) (s_heights : (Nat → Int32)) (s_holders : (Nat → Int32)) (s_kinds : (Nat → Int32)) (s_purses : (Nat → Int32)) (s_homes : (Nat → Int32)) (v1 : Int32) (v2 : Int32) (v3 : Int32) (sz : Nat) (res : Int32 × (Nat → Int32) × (Nat → Int32) × (Nat → Int32)) (hf : fX3_tellBidder s_bidders s_kinds s_purses s_homes v1 v2 v3 = some res) : Met l yX3_tellBidder wsX3_tellBidder rmX3_tellBidder (mtPc (dC, dI) (tyZ cI cZ) ((W_Isle cI cZ q_s q_s_heights q_s_holders q_s_kinds q_s_purses q_s_homes s_told s_low s_high s_price s_hour s_bidders s_heights s_holders s_kinds s_purses s_homes)) [.ref q_s, .int v1, .int v2, .int v3] sz) (mtQv (dC, dI) (tyZ cI cZ) ((W_Isle cI cZ q_s q_s_heights q_s_holders q_s_kinds q_s_purses q_s_homes s_told s_low s_high s_price s_hour s_bidders s_heights s_holders s_kinds s_purses s_homes)) ((W_Isle cI cZ q_s q_s_heights q_s_holders q_s_kinds q_s_purses q_s_homes s_told s_low s_high s_price s_hour res.1 s_heights s_holders res.2.1 res.2.2.1 res.2.2.2)) sz) 0 0 (va_A ((W_Isle cI cZ q_s q_s_heights q_s_holders q_s_kinds q_s_purses q_s_homes s_told s_low s_high s_price s_hour s_bidders s_heights s_holders s_kinds s_purses s_homes)) sz) := by
  refine Met.ofW (cc := cX3_tellBidder) (maxL := 4) (ret := none) (by decide) rfl ?_
  intro p e s m args below meth c s₁ B hml hv
  obtain ⟨rfl, hsz, hP, hK, hD0⟩ := hv
  have hx := B.exec
  have hb := B.bytes
  have hr := B.returns
  have hts := atoms_spec (ws := wsX3_tellBidder) B.pre
  have hown : s.vm.findClass RX3 = some m.cls := findClass_of_methodNamed B.named
  have hlocks := B.notSynchronized
  subst hsz
  have hD := hD0.self (sz := s.heap.size)
  obtain ⟨A, hAe⟩ : ∃ A, A = va_A ((W_Isle cI cZ q_s q_s_heights q_s_holders q_s_kinds q_s_purses q_s_homes s_told s_low s_high s_price s_hour s_bidders s_heights s_holders s_kinds s_purses s_homes)) s.heap.size := ⟨_, rfl⟩
  rw [← hAe] at hD
  have hA : ∀ q : Nat, s.heap.size ≤ q → A q := fun q h => by rw [hAe]; exact Or.inr h
  have hS : va_S A s.heap s.heap [] := va_S.rf
  have hl := lv_entry ([.ref q_s, .int v1, .int v2, .int v3]) (n := 4) (Nat.le_of_ble_eq_true rfl)
  rw [lg_entry_eq]
  generalize (lg_sl ([.ref q_s, .int v1, .int v2, .int v3]) ++ List.replicate (4 - (lg_sl ([.ref q_s, .int v1, .int v2, .int v3])).length) Slot.unset).toArray = ls at hl ⊢
  have hl : lv_has ls 4 [(0, .ref q_s), (1, .int v1), (2, .int v2), (3, .int v3)] := hl
  obtain ⟨QQ, hQQ⟩ : ∃ Q, Q = MQ below (mtQv (dC, dI) (tyZ cI cZ) ((W_Isle cI cZ q_s q_s_heights q_s_holders q_s_kinds q_s_purses q_s_homes s_told s_low s_high s_price s_hour s_bidders s_heights s_holders s_kinds s_purses s_homes)) ((W_Isle cI cZ q_s q_s_heights q_s_holders q_s_kinds q_s_purses q_s_homes s_told s_low s_high s_price s_hour res.1 s_heights s_holders res.2.1 res.2.2.1 res.2.2.2)) s.heap.size) ([.ref q_s, .int v1, .int v2, .int v3] : List Value).toArray s 0 0 (va_A ((W_Isle cI cZ q_s q_s_heights q_s_holders q_s_kinds q_s_purses q_s_homes s_told s_low s_high s_price s_hour s_bidders s_heights s_holders s_kinds s_purses s_homes)) s.heap.size) := ⟨_, rfl⟩
  rw [← hQQ]
  have w_0 := hts (Cond.fieldLink RX3 38 "TideInches$Isle" "bidders" "I") (List.mem_of_getElem? (i := 1) rfl)
  have w_1 := (fun w hw => List.mem_cons_of_mem _ (List.mem_append_right _ hw) : ∀ w ∈ wsX30, w ∈ wsX3_tellBidder)
  have w_2 := hts (Cond.fieldLink RX3 18 "TideInches$Isle" "kinds" "[I") (List.mem_of_getElem? (i := 2) rfl)
  have w_3 := hts (Cond.fieldLink RX3 21 "TideInches$Isle" "purses" "[I") (List.mem_of_getElem? (i := 3) rfl)
  have w_4 := hts (Cond.fieldLink RX3 24 "TideInches$Isle" "homes" "[I") (List.mem_of_getElem? (i := 4) rfl)
  have h := hf
  unfold fX3_tellBidder at h
  refine lv_aload_n hx hb dX3_tellBidder_0 rfl (lv_at hl 0 rfl) ?_
  refine va_get (D := (dC, dI)) (ci := 3) (v := .int s_bidders) (C := RX3) (T := TX3) (N := 11) hx hb hts w_1 hown hK hP 0 rfl rfl 5 (by decide) w_0 (fun _ h9 => h9) rfl dX3_tellBidder_1 ?_
  refine lv_iconst (v := 5) hx hb dX3_tellBidder_4 (by decide) ?_
  refine lv_icmp_ge (tgt := 48) hx hb dX3_tellBidder_5 (by decide) (fun c_1 => ?_) (fun c_1 => ?_)
  · have h := (if_pos c_1).symm.trans h
    have h := Option.some.inj h
    subst h
    rw [hQQ]
    subst hAe
    exact W.vret hx hb hr (fun t ht hW => ⟨⟨(), rfl, trivial, by rw [ht]; exact hP, va_K.moved hW.alike hK, hD⟩, hS.F ht⟩) hS.2.2 dX3_tellBidder_48
  · have h := (if_neg c_1).symm.trans h
    refine lv_aload_n hx hb dX3_tellBidder_8 rfl (lv_at hl 0 rfl) ?_
    refine va_get (D := (dC, dI)) (ci := 3) (v := .ref q_s_kinds) (C := RX3) (T := TX3) (N := 11) hx hb hts w_1 hown hK hP 0 rfl rfl 8 (by decide) w_2 (fun _ h9 => h9) rfl dX3_tellBidder_9 ?_
    refine lv_aload_n hx hb dX3_tellBidder_12 rfl (lv_at hl 0 rfl) ?_
    refine va_get (D := (dC, dI)) (ci := 3) (v := .int s_bidders) (C := RX3) (T := TX3) (N := 11) hx hb hts w_1 hown hK hP 0 rfl rfl 5 (by decide) w_0 (fun _ h9 => h9) rfl dX3_tellBidder_13 ?_
    refine lv_iload_n hx hb dX3_tellBidder_16 rfl (lv_at hl 1 rfl) ?_
    obtain ⟨b_2, h⟩ := chk_of h
    refine va_iast hx hb hK hP hD hS 3 0 rfl rfl (i := s_bidders) (x := v1) b_2 dX3_tellBidder_17 (fun H locs hP hD hS => ?_)
    have hP : va_P (dC, dI) vwCl ((W_Isle cI cZ q_s q_s_heights q_s_holders q_s_kinds q_s_purses q_s_homes s_told s_low s_high s_price s_hour s_bidders s_heights s_holders (upd s_kinds s_bidders.toNatClampNeg v1) s_purses s_homes)) H := hP
    have hD : va_D A ((W_Isle cI cZ q_s q_s_heights q_s_holders q_s_kinds q_s_purses q_s_homes s_told s_low s_high s_price s_hour s_bidders s_heights s_holders (upd s_kinds s_bidders.toNatClampNeg v1) s_purses s_homes)) := hD
    refine lv_aload_n hx hb dX3_tellBidder_18 rfl (lv_at hl 0 rfl) ?_
    refine va_get (D := (dC, dI)) (ci := 3) (v := .ref q_s_purses) (C := RX3) (T := TX3) (N := 11) hx hb hts w_1 hown hK hP 0 rfl rfl 9 (by decide) w_3 (fun _ h9 => h9) rfl dX3_tellBidder_19 ?_
    refine lv_aload_n hx hb dX3_tellBidder_22 rfl (lv_at hl 0 rfl) ?_
    refine va_get (D := (dC, dI)) (ci := 3) (v := .int s_bidders) (C := RX3) (T := TX3) (N := 11) hx hb hts w_1 hown hK hP 0 rfl rfl 5 (by decide) w_0 (fun _ h9 => h9) rfl dX3_tellBidder_23 ?_
    refine lv_iload_n hx hb dX3_tellBidder_26 rfl (lv_at hl 2 rfl) ?_
    obtain ⟨b_3, h⟩ := chk_of h
    refine va_iast hx hb hK hP hD hS 4 0 rfl rfl (i := s_bidders) (x := v2) b_3 dX3_tellBidder_27 (fun H locs hP hD hS => ?_)
    have hP : va_P (dC, dI) vwCl ((W_Isle cI cZ q_s q_s_heights q_s_holders q_s_kinds q_s_purses q_s_homes s_told s_low s_high s_price s_hour s_bidders s_heights s_holders (upd s_kinds s_bidders.toNatClampNeg v1) (upd s_purses s_bidders.toNatClampNeg v2) s_homes)) H := hP
    have hD : va_D A ((W_Isle cI cZ q_s q_s_heights q_s_holders q_s_kinds q_s_purses q_s_homes s_told s_low s_high s_price s_hour s_bidders s_heights s_holders (upd s_kinds s_bidders.toNatClampNeg v1) (upd s_purses s_bidders.toNatClampNeg v2) s_homes)) := hD
    refine lv_aload_n hx hb dX3_tellBidder_28 rfl (lv_at hl 0 rfl) ?_
    refine va_get (D := (dC, dI)) (ci := 3) (v := .ref q_s_homes) (C := RX3) (T := TX3) (N := 11) hx hb hts w_1 hown hK hP 0 rfl rfl 10 (by decide) w_4 (fun _ h9 => h9) rfl dX3_tellBidder_29 ?_
    refine lv_aload_n hx hb dX3_tellBidder_32 rfl (lv_at hl 0 rfl) ?_
    refine va_get (D := (dC, dI)) (ci := 3) (v := .int s_bidders) (C := RX3) (T := TX3) (N := 11) hx hb hts w_1 hown hK hP 0 rfl rfl 5 (by decide) w_0 (fun _ h9 => h9) rfl dX3_tellBidder_33 ?_
    refine lv_iload_n hx hb dX3_tellBidder_36 rfl (lv_at hl 3 rfl) ?_
    obtain ⟨b_4, h⟩ := chk_of h
    refine va_iast hx hb hK hP hD hS 5 0 rfl rfl (i := s_bidders) (x := v3) b_4 dX3_tellBidder_37 (fun H locs hP hD hS => ?_)
    have hP : va_P (dC, dI) vwCl ((W_Isle cI cZ q_s q_s_heights q_s_holders q_s_kinds q_s_purses q_s_homes s_told s_low s_high s_price s_hour s_bidders s_heights s_holders (upd s_kinds s_bidders.toNatClampNeg v1) (upd s_purses s_bidders.toNatClampNeg v2) (upd s_homes s_bidders.toNatClampNeg v3))) H := hP
    have hD : va_D A ((W_Isle cI cZ q_s q_s_heights q_s_holders q_s_kinds q_s_purses q_s_homes s_told s_low s_high s_price s_hour s_bidders s_heights s_holders (upd s_kinds s_bidders.toNatClampNeg v1) (upd s_purses s_bidders.toNatClampNeg v2) (upd s_homes s_bidders.toNatClampNeg v3))) := hD
    refine lv_aload_n hx hb dX3_tellBidder_38 rfl (lv_at hl 0 rfl) ?_
    refine lv_dup hx hb dX3_tellBidder_39 rfl ?_
    refine va_get (D := (dC, dI)) (ci := 3) (v := .int s_bidders) (C := RX3) (T := TX3) (N := 11) hx hb hts w_1 hown hK hP 0 rfl rfl 5 (by decide) w_0 (fun _ h9 => h9) rfl dX3_tellBidder_40 ?_
    refine lv_iconst (v := 1) hx hb dX3_tellBidder_43 (by decide) ?_
    refine lv_iadd hx hb dX3_tellBidder_44 ?_
    refine va_put (D := (dC, dI)) (ci := 3) (v := .int (s_bidders + 1)) (ty := .int) (C := RX3) (T := TX3) (N := 11) hx hb hts w_1 tyX3 tyX3_ok nmX3 hown hK hP hD hS 0 rfl rfl 5 (by decide) w_0 (fun _ h9 => h9) rfl (by decide +kernel) rfl rfl (Nat.le_of_ble_eq_true rfl) dX3_tellBidder_45 (fun H locs hP hD hS => ?_)
    have hP : va_P (dC, dI) vwCl ((W_Isle cI cZ q_s q_s_heights q_s_holders q_s_kinds q_s_purses q_s_homes s_told s_low s_high s_price s_hour (s_bidders + 1) s_heights s_holders (upd s_kinds s_bidders.toNatClampNeg v1) (upd s_purses s_bidders.toNatClampNeg v2) (upd s_homes s_bidders.toNatClampNeg v3))) H := hP
    have hD : va_D A ((W_Isle cI cZ q_s q_s_heights q_s_holders q_s_kinds q_s_purses q_s_homes s_told s_low s_high s_price s_hour (s_bidders + 1) s_heights s_holders (upd s_kinds s_bidders.toNatClampNeg v1) (upd s_purses s_bidders.toNatClampNeg v2) (upd s_homes s_bidders.toNatClampNeg v3))) := hD
    have h := Option.some.inj h
    subst h
    rw [hQQ]
    subst hAe
    exact W.vret hx hb hr (fun t ht hW => ⟨⟨(), rfl, trivial, by rw [ht]; exact hP, va_K.moved hW.alike hK, hD⟩, hS.F ht⟩) hS.2.2 dX3_tellBidder_48
def fX3_become (s_heights : (Nat → Int32)) (s_holders : (Nat → Int32)) (s_kinds : (Nat → Int32)) (s_purses : (Nat → Int32)) (s_homes : (Nat → Int32)) (o_told : Int32) (o_low : Int32) (o_high : Int32) (o_price : Int32) (o_hour : Int32) (o_bidders : Int32) (o_heights : (Nat → Int32)) (o_holders : (Nat → Int32)) (o_kinds : (Nat → Int32)) (o_purses : (Nat → Int32)) (o_homes : (Nat → Int32)) : Option (Int32 × Int32 × Int32 × Int32 × Int32 × Int32 × (Nat → Int32) × (Nat → Int32) × (Nat → Int32) × (Nat → Int32) × (Nat → Int32)) :=
  chk (o_told = 0 ∨ o_told = 1) (chk (¬ (0 : Int32) < 0 ∧ ¬ (0 : Int32) < 0 ∧ ¬ (15 : Int32) < 0 ∧ (0 : Int32).toNatClampNeg + (15 : Int32).toNatClampNeg ≤ 15 ∧ (0 : Int32).toNatClampNeg + (15 : Int32).toNatClampNeg ≤ 15) (chk (¬ (0 : Int32) < 0 ∧ ¬ (0 : Int32) < 0 ∧ ¬ (15 : Int32) < 0 ∧ (0 : Int32).toNatClampNeg + (15 : Int32).toNatClampNeg ≤ 15 ∧ (0 : Int32).toNatClampNeg + (15 : Int32).toNatClampNeg ≤ 15) (chk (¬ (0 : Int32) < 0 ∧ ¬ (0 : Int32) < 0 ∧ ¬ (5 : Int32) < 0 ∧ (0 : Int32).toNatClampNeg + (5 : Int32).toNatClampNeg ≤ 5 ∧ (0 : Int32).toNatClampNeg + (5 : Int32).toNatClampNeg ≤ 5) (chk (¬ (0 : Int32) < 0 ∧ ¬ (0 : Int32) < 0 ∧ ¬ (5 : Int32) < 0 ∧ (0 : Int32).toNatClampNeg + (5 : Int32).toNatClampNeg ≤ 5 ∧ (0 : Int32).toNatClampNeg + (5 : Int32).toNatClampNeg ≤ 5) (chk (¬ (0 : Int32) < 0 ∧ ¬ (0 : Int32) < 0 ∧ ¬ (5 : Int32) < 0 ∧ (0 : Int32).toNatClampNeg + (5 : Int32).toNatClampNeg ≤ 5 ∧ (0 : Int32).toNatClampNeg + (5 : Int32).toNatClampNeg ≤ 5) (some (o_told, o_low, o_high, o_price, o_hour, o_bidders, (va_cpy o_heights s_heights (0 : Int32).toNatClampNeg (0 : Int32).toNatClampNeg (15 : Int32).toNatClampNeg), (va_cpy o_holders s_holders (0 : Int32).toNatClampNeg (0 : Int32).toNatClampNeg (15 : Int32).toNatClampNeg), (va_cpy o_kinds s_kinds (0 : Int32).toNatClampNeg (0 : Int32).toNatClampNeg (5 : Int32).toNatClampNeg), (va_cpy o_purses s_purses (0 : Int32).toNatClampNeg (0 : Int32).toNatClampNeg (5 : Int32).toNatClampNeg), (va_cpy o_homes s_homes (0 : Int32).toNatClampNeg (0 : Int32).toNatClampNeg (5 : Int32).toNatClampNeg))))))))
abbrev rmX3_become : Room := { frames := 1, cells := 0, slots := 0, locals := 40 }
theorem ddX3_become : yX3_become.cls ≠ "java/lang/invoke/MethodHandle" ∧ yX3_become.cls ≠ "java/lang/invoke/VarHandle" ∧ (parseMethodDescriptor yX3_become.desc).map (fun d => d.parameters.length) = some 1 := by decide +kernel
set_option maxHeartbeats 4000000 in
set_option maxRecDepth 100000 in
theorem m_X3_become (l : Launch) (dC : Nat → ClassId) (dI : Nat → Nat → Nat) (cI cZ : ClassId) (q_s q_s_heights q_s_holders q_s_kinds q_s_purses q_s_homes q_o q_o_heights q_o_holders q_o_kinds q_o_purses q_o_homes : Nat) (s_told : Int32) (s_low : Int32) (s_high : Int32) (s_price : Int32) (s_hour : Int32) (s_bidders : Int32) (s_heights : (Nat → Int32)) (s_holders : (Nat → Int32)) (s_kinds : (Nat → Int32)) (s_purses : (Nat → Int32)) (s_homes : (Nat → Int32)) (o_told : Int32) (o_low : Int32) (o_high : Int32) (o_price : Int32) (o_hour : Int32) (o_bidders : Int32) (o_heights : (Nat → Int32)) (o_holders : (Nat → Int32)) (o_kinds : (Nat → Int32)) (o_purses : (Nat → Int32)) (o_homes : (Nat → Int32)) (sz : Nat) (res : Int32 × Int32 × Int32 × Int32 × Int32 × Int32 × (Nat → Int32) × (Nat → Int32) × (Nat → Int32) × (Nat → Int32) × (Nat → Int32)) (hf : fX3_become s_heights s_holders s_kinds s_purses s_homes o_told o_low o_high o_price o_hour o_bidders o_heights o_holders o_kinds o_purses o_homes = some res) : Met l yX3_become wsX3_become rmX3_become (mtPc (dC, dI) (tyZ cI cZ) ((W_Isle cI cZ q_s q_s_heights q_s_holders q_s_kinds q_s_purses q_s_homes s_told s_low s_high s_price s_hour s_bidders s_heights s_holders s_kinds s_purses s_homes) ++ ((W_Isle cI cZ q_o q_o_heights q_o_holders q_o_kinds q_o_purses q_o_homes o_told o_low o_high o_price o_hour o_bidders o_heights o_holders o_kinds o_purses o_homes))) [.ref q_s, .ref q_o] sz) (mtQv (dC, dI) (tyZ cI cZ) ((W_Isle cI cZ q_s q_s_heights q_s_holders q_s_kinds q_s_purses q_s_homes s_told s_low s_high s_price s_hour s_bidders s_heights s_holders s_kinds s_purses s_homes) ++ ((W_Isle cI cZ q_o q_o_heights q_o_holders q_o_kinds q_o_purses q_o_homes o_told o_low o_high o_price o_hour o_bidders o_heights o_holders o_kinds o_purses o_homes))) ((W_Isle cI cZ q_s q_s_heights q_s_holders q_s_kinds q_s_purses q_s_homes res.1 res.2.1 res.2.2.1 res.2.2.2.1 res.2.2.2.2.1 res.2.2.2.2.2.1 res.2.2.2.2.2.2.1 res.2.2.2.2.2.2.2.1 res.2.2.2.2.2.2.2.2.1 res.2.2.2.2.2.2.2.2.2.1 res.2.2.2.2.2.2.2.2.2.2) ++ ((W_Isle cI cZ q_o q_o_heights q_o_holders q_o_kinds q_o_purses q_o_homes o_told o_low o_high o_price o_hour o_bidders o_heights o_holders o_kinds o_purses o_homes))) sz) 0 0 (va_A ((W_Isle cI cZ q_s q_s_heights q_s_holders q_s_kinds q_s_purses q_s_homes s_told s_low s_high s_price s_hour s_bidders s_heights s_holders s_kinds s_purses s_homes) ++ ((W_Isle cI cZ q_o q_o_heights q_o_holders q_o_kinds q_o_purses q_o_homes o_told o_low o_high o_price o_hour o_bidders o_heights o_holders o_kinds o_purses o_homes))) sz) := by
  refine Met.ofW (cc := cX3_become) (maxL := 2) (ret := none) (by decide) rfl ?_
  intro p e s m args below meth c s₁ B hml hv
  obtain ⟨rfl, hsz, hP, hK, hD0⟩ := hv
  have hx := B.exec
  have hb := B.bytes
  have hr := B.returns
  have hts := atoms_spec (ws := wsX3_become) B.pre
  have hown : s.vm.findClass RX3 = some m.cls := findClass_of_methodNamed B.named
  have hlocks := B.notSynchronized
  subst hsz
  have hD := hD0.self (sz := s.heap.size)
  obtain ⟨A, hAe⟩ : ∃ A, A = va_A ((W_Isle cI cZ q_s q_s_heights q_s_holders q_s_kinds q_s_purses q_s_homes s_told s_low s_high s_price s_hour s_bidders s_heights s_holders s_kinds s_purses s_homes) ++ ((W_Isle cI cZ q_o q_o_heights q_o_holders q_o_kinds q_o_purses q_o_homes o_told o_low o_high o_price o_hour o_bidders o_heights o_holders o_kinds o_purses o_homes))) s.heap.size := ⟨_, rfl⟩
  rw [← hAe] at hD
  have hA : ∀ q : Nat, s.heap.size ≤ q → A q := fun q h => by rw [hAe]; exact Or.inr h
  have hS : va_S A s.heap s.heap [] := va_S.rf
  have hl := lv_entry ([.ref q_s, .ref q_o]) (n := 2) (Nat.le_of_ble_eq_true rfl)
  rw [lg_entry_eq]
  generalize (lg_sl ([.ref q_s, .ref q_o]) ++ List.replicate (2 - (lg_sl ([.ref q_s, .ref q_o])).length) Slot.unset).toArray = ls at hl ⊢
  have hl : lv_has ls 2 [(0, .ref q_s), (1, .ref q_o)] := hl
  obtain ⟨QQ, hQQ⟩ : ∃ Q, Q = MQ below (mtQv (dC, dI) (tyZ cI cZ) ((W_Isle cI cZ q_s q_s_heights q_s_holders q_s_kinds q_s_purses q_s_homes s_told s_low s_high s_price s_hour s_bidders s_heights s_holders s_kinds s_purses s_homes) ++ ((W_Isle cI cZ q_o q_o_heights q_o_holders q_o_kinds q_o_purses q_o_homes o_told o_low o_high o_price o_hour o_bidders o_heights o_holders o_kinds o_purses o_homes))) ((W_Isle cI cZ q_s q_s_heights q_s_holders q_s_kinds q_s_purses q_s_homes res.1 res.2.1 res.2.2.1 res.2.2.2.1 res.2.2.2.2.1 res.2.2.2.2.2.1 res.2.2.2.2.2.2.1 res.2.2.2.2.2.2.2.1 res.2.2.2.2.2.2.2.2.1 res.2.2.2.2.2.2.2.2.2.1 res.2.2.2.2.2.2.2.2.2.2) ++ ((W_Isle cI cZ q_o q_o_heights q_o_holders q_o_kinds q_o_purses q_o_homes o_told o_low o_high o_price o_hour o_bidders o_heights o_holders o_kinds o_purses o_homes))) s.heap.size) ([.ref q_s, .ref q_o] : List Value).toArray s 0 0 (va_A ((W_Isle cI cZ q_s q_s_heights q_s_holders q_s_kinds q_s_purses q_s_homes s_told s_low s_high s_price s_hour s_bidders s_heights s_holders s_kinds s_purses s_homes) ++ ((W_Isle cI cZ q_o q_o_heights q_o_holders q_o_kinds q_o_purses q_o_homes o_told o_low o_high o_price o_hour o_bidders o_heights o_holders o_kinds o_purses o_homes))) s.heap.size) := ⟨_, rfl⟩
  rw [← hQQ]
  have w_0 := hts (Cond.fieldLink RX3 30 "TideInches$Isle" "told" "Z") (List.mem_of_getElem? (i := 1) rfl)
  have w_1 := (fun w hw => List.mem_cons_of_mem _ (List.mem_append_right _ hw) : ∀ w ∈ wsX30, w ∈ wsX3_become)
  have w_2 := hts (Cond.fieldLink RX3 41 "TideInches$Isle" "low" "I") (List.mem_of_getElem? (i := 2) rfl)
  have w_3 := hts (Cond.fieldLink RX3 44 "TideInches$Isle" "high" "I") (List.mem_of_getElem? (i := 3) rfl)
  have w_4 := hts (Cond.fieldLink RX3 47 "TideInches$Isle" "price" "I") (List.mem_of_getElem? (i := 4) rfl)
  have w_5 := hts (Cond.fieldLink RX3 34 "TideInches$Isle" "hour" "I") (List.mem_of_getElem? (i := 5) rfl)
  have w_6 := hts (Cond.fieldLink RX3 38 "TideInches$Isle" "bidders" "I") (List.mem_of_getElem? (i := 6) rfl)
  have w_7 := hts (Cond.fieldLink RX3 9 "TideInches$Isle" "heights" "[I") (List.mem_of_getElem? (i := 7) rfl)
  have w_8 := hts (Cond.methodLink RX3 50 arraycopyName) (List.mem_of_getElem? (i := 8) rfl)
  have w_9 := hts (Cond.native arraycopyName) (List.mem_of_getElem? (i := 9) rfl)
  have w_10 := hts (Cond.static arraycopyName) (List.mem_of_getElem? (i := 10) rfl)
  have w_11 := hts (Cond.initialized "java/lang/System") (List.mem_of_getElem? (i := 11) rfl)
  have w_12 := hts (Cond.fieldLink RX3 15 "TideInches$Isle" "holders" "[I") (List.mem_of_getElem? (i := 12) rfl)
  have w_13 := hts (Cond.fieldLink RX3 18 "TideInches$Isle" "kinds" "[I") (List.mem_of_getElem? (i := 13) rfl)
  have w_14 := hts (Cond.fieldLink RX3 21 "TideInches$Isle" "purses" "[I") (List.mem_of_getElem? (i := 14) rfl)
  have w_15 := hts (Cond.fieldLink RX3 24 "TideInches$Isle" "homes" "[I") (List.mem_of_getElem? (i := 15) rfl)
  have h := hf
  unfold fX3_become at h
  refine lv_aload_n hx hb dX3_become_0 rfl (lv_at hl 0 rfl) ?_
  refine lv_aload_n hx hb dX3_become_1 rfl (lv_at hl 1 rfl) ?_
  refine va_get (D := (dC, dI)) (ci := 3) (v := .int o_told) (C := RX3) (T := TX3) (N := 11) hx hb hts w_1 hown hK hP 6 rfl rfl 0 (by decide) w_0 (fun _ h9 => h9) rfl dX3_become_2 ?_
  obtain ⟨b_1, h⟩ := chk_of h
  refine va_put (D := (dC, dI)) (ci := 3) (v := .int o_told) (ty := .boolean) (C := RX3) (T := TX3) (N := 11) hx hb hts w_1 tyX3 tyX3_ok nmX3 hown hK hP hD hS 0 rfl rfl 0 (by decide) w_0 (fun _ h9 => h9) rfl (by decide +kernel) (zb_nar b_1) (zb_fit b_1) (Nat.le_of_ble_eq_true rfl) dX3_become_5 (fun H locs hP hD hS => ?_)
  have hP : va_P (dC, dI) vwCl ((W_Isle cI cZ q_s q_s_heights q_s_holders q_s_kinds q_s_purses q_s_homes o_told s_low s_high s_price s_hour s_bidders s_heights s_holders s_kinds s_purses s_homes) ++ ((W_Isle cI cZ q_o q_o_heights q_o_holders q_o_kinds q_o_purses q_o_homes o_told o_low o_high o_price o_hour o_bidders o_heights o_holders o_kinds o_purses o_homes))) H := hP
  have hD : va_D A ((W_Isle cI cZ q_s q_s_heights q_s_holders q_s_kinds q_s_purses q_s_homes o_told s_low s_high s_price s_hour s_bidders s_heights s_holders s_kinds s_purses s_homes) ++ ((W_Isle cI cZ q_o q_o_heights q_o_holders q_o_kinds q_o_purses q_o_homes o_told o_low o_high o_price o_hour o_bidders o_heights o_holders o_kinds o_purses o_homes))) := hD
  refine lv_aload_n hx hb dX3_become_8 rfl (lv_at hl 0 rfl) ?_
  refine lv_aload_n hx hb dX3_become_9 rfl (lv_at hl 1 rfl) ?_
  refine va_get (D := (dC, dI)) (ci := 3) (v := .int o_low) (C := RX3) (T := TX3) (N := 11) hx hb hts w_1 hown hK hP 6 rfl rfl 1 (by decide) w_2 (fun _ h9 => h9) rfl dX3_become_10 ?_
  refine va_put (D := (dC, dI)) (ci := 3) (v := .int o_low) (ty := .int) (C := RX3) (T := TX3) (N := 11) hx hb hts w_1 tyX3 tyX3_ok nmX3 hown hK hP hD hS 0 rfl rfl 1 (by decide) w_2 (fun _ h9 => h9) rfl (by decide +kernel) rfl rfl (Nat.le_of_ble_eq_true rfl) dX3_become_13 (fun H locs hP hD hS => ?_)
  have hP : va_P (dC, dI) vwCl ((W_Isle cI cZ q_s q_s_heights q_s_holders q_s_kinds q_s_purses q_s_homes o_told o_low s_high s_price s_hour s_bidders s_heights s_holders s_kinds s_purses s_homes) ++ ((W_Isle cI cZ q_o q_o_heights q_o_holders q_o_kinds q_o_purses q_o_homes o_told o_low o_high o_price o_hour o_bidders o_heights o_holders o_kinds o_purses o_homes))) H := hP
  have hD : va_D A ((W_Isle cI cZ q_s q_s_heights q_s_holders q_s_kinds q_s_purses q_s_homes o_told o_low s_high s_price s_hour s_bidders s_heights s_holders s_kinds s_purses s_homes) ++ ((W_Isle cI cZ q_o q_o_heights q_o_holders q_o_kinds q_o_purses q_o_homes o_told o_low o_high o_price o_hour o_bidders o_heights o_holders o_kinds o_purses o_homes))) := hD
  refine lv_aload_n hx hb dX3_become_16 rfl (lv_at hl 0 rfl) ?_
  refine lv_aload_n hx hb dX3_become_17 rfl (lv_at hl 1 rfl) ?_
  refine va_get (D := (dC, dI)) (ci := 3) (v := .int o_high) (C := RX3) (T := TX3) (N := 11) hx hb hts w_1 hown hK hP 6 rfl rfl 2 (by decide) w_3 (fun _ h9 => h9) rfl dX3_become_18 ?_
  refine va_put (D := (dC, dI)) (ci := 3) (v := .int o_high) (ty := .int) (C := RX3) (T := TX3) (N := 11) hx hb hts w_1 tyX3 tyX3_ok nmX3 hown hK hP hD hS 0 rfl rfl 2 (by decide) w_3 (fun _ h9 => h9) rfl (by decide +kernel) rfl rfl (Nat.le_of_ble_eq_true rfl) dX3_become_21 (fun H locs hP hD hS => ?_)
  have hP : va_P (dC, dI) vwCl ((W_Isle cI cZ q_s q_s_heights q_s_holders q_s_kinds q_s_purses q_s_homes o_told o_low o_high s_price s_hour s_bidders s_heights s_holders s_kinds s_purses s_homes) ++ ((W_Isle cI cZ q_o q_o_heights q_o_holders q_o_kinds q_o_purses q_o_homes o_told o_low o_high o_price o_hour o_bidders o_heights o_holders o_kinds o_purses o_homes))) H := hP
  have hD : va_D A ((W_Isle cI cZ q_s q_s_heights q_s_holders q_s_kinds q_s_purses q_s_homes o_told o_low o_high s_price s_hour s_bidders s_heights s_holders s_kinds s_purses s_homes) ++ ((W_Isle cI cZ q_o q_o_heights q_o_holders q_o_kinds q_o_purses q_o_homes o_told o_low o_high o_price o_hour o_bidders o_heights o_holders o_kinds o_purses o_homes))) := hD
  refine lv_aload_n hx hb dX3_become_24 rfl (lv_at hl 0 rfl) ?_
  refine lv_aload_n hx hb dX3_become_25 rfl (lv_at hl 1 rfl) ?_
  refine va_get (D := (dC, dI)) (ci := 3) (v := .int o_price) (C := RX3) (T := TX3) (N := 11) hx hb hts w_1 hown hK hP 6 rfl rfl 3 (by decide) w_4 (fun _ h9 => h9) rfl dX3_become_26 ?_
  refine va_put (D := (dC, dI)) (ci := 3) (v := .int o_price) (ty := .int) (C := RX3) (T := TX3) (N := 11) hx hb hts w_1 tyX3 tyX3_ok nmX3 hown hK hP hD hS 0 rfl rfl 3 (by decide) w_4 (fun _ h9 => h9) rfl (by decide +kernel) rfl rfl (Nat.le_of_ble_eq_true rfl) dX3_become_29 (fun H locs hP hD hS => ?_)
  have hP : va_P (dC, dI) vwCl ((W_Isle cI cZ q_s q_s_heights q_s_holders q_s_kinds q_s_purses q_s_homes o_told o_low o_high o_price s_hour s_bidders s_heights s_holders s_kinds s_purses s_homes) ++ ((W_Isle cI cZ q_o q_o_heights q_o_holders q_o_kinds q_o_purses q_o_homes o_told o_low o_high o_price o_hour o_bidders o_heights o_holders o_kinds o_purses o_homes))) H := hP
  have hD : va_D A ((W_Isle cI cZ q_s q_s_heights q_s_holders q_s_kinds q_s_purses q_s_homes o_told o_low o_high o_price s_hour s_bidders s_heights s_holders s_kinds s_purses s_homes) ++ ((W_Isle cI cZ q_o q_o_heights q_o_holders q_o_kinds q_o_purses q_o_homes o_told o_low o_high o_price o_hour o_bidders o_heights o_holders o_kinds o_purses o_homes))) := hD
  refine lv_aload_n hx hb dX3_become_32 rfl (lv_at hl 0 rfl) ?_
  refine lv_aload_n hx hb dX3_become_33 rfl (lv_at hl 1 rfl) ?_
  refine va_get (D := (dC, dI)) (ci := 3) (v := .int o_hour) (C := RX3) (T := TX3) (N := 11) hx hb hts w_1 hown hK hP 6 rfl rfl 4 (by decide) w_5 (fun _ h9 => h9) rfl dX3_become_34 ?_
  refine va_put (D := (dC, dI)) (ci := 3) (v := .int o_hour) (ty := .int) (C := RX3) (T := TX3) (N := 11) hx hb hts w_1 tyX3 tyX3_ok nmX3 hown hK hP hD hS 0 rfl rfl 4 (by decide) w_5 (fun _ h9 => h9) rfl (by decide +kernel) rfl rfl (Nat.le_of_ble_eq_true rfl) dX3_become_37 (fun H locs hP hD hS => ?_)
  have hP : va_P (dC, dI) vwCl ((W_Isle cI cZ q_s q_s_heights q_s_holders q_s_kinds q_s_purses q_s_homes o_told o_low o_high o_price o_hour s_bidders s_heights s_holders s_kinds s_purses s_homes) ++ ((W_Isle cI cZ q_o q_o_heights q_o_holders q_o_kinds q_o_purses q_o_homes o_told o_low o_high o_price o_hour o_bidders o_heights o_holders o_kinds o_purses o_homes))) H := hP
  have hD : va_D A ((W_Isle cI cZ q_s q_s_heights q_s_holders q_s_kinds q_s_purses q_s_homes o_told o_low o_high o_price o_hour s_bidders s_heights s_holders s_kinds s_purses s_homes) ++ ((W_Isle cI cZ q_o q_o_heights q_o_holders q_o_kinds q_o_purses q_o_homes o_told o_low o_high o_price o_hour o_bidders o_heights o_holders o_kinds o_purses o_homes))) := hD
  refine lv_aload_n hx hb dX3_become_40 rfl (lv_at hl 0 rfl) ?_
  refine lv_aload_n hx hb dX3_become_41 rfl (lv_at hl 1 rfl) ?_
  refine va_get (D := (dC, dI)) (ci := 3) (v := .int o_bidders) (C := RX3) (T := TX3) (N := 11) hx hb hts w_1 hown hK hP 6 rfl rfl 5 (by decide) w_6 (fun _ h9 => h9) rfl dX3_become_42 ?_
  refine va_put (D := (dC, dI)) (ci := 3) (v := .int o_bidders) (ty := .int) (C := RX3) (T := TX3) (N := 11) hx hb hts w_1 tyX3 tyX3_ok nmX3 hown hK hP hD hS 0 rfl rfl 5 (by decide) w_6 (fun _ h9 => h9) rfl (by decide +kernel) rfl rfl (Nat.le_of_ble_eq_true rfl) dX3_become_45 (fun H locs hP hD hS => ?_)
  have hP : va_P (dC, dI) vwCl ((W_Isle cI cZ q_s q_s_heights q_s_holders q_s_kinds q_s_purses q_s_homes o_told o_low o_high o_price o_hour o_bidders s_heights s_holders s_kinds s_purses s_homes) ++ ((W_Isle cI cZ q_o q_o_heights q_o_holders q_o_kinds q_o_purses q_o_homes o_told o_low o_high o_price o_hour o_bidders o_heights o_holders o_kinds o_purses o_homes))) H := hP
  have hD : va_D A ((W_Isle cI cZ q_s q_s_heights q_s_holders q_s_kinds q_s_purses q_s_homes o_told o_low o_high o_price o_hour o_bidders s_heights s_holders s_kinds s_purses s_homes) ++ ((W_Isle cI cZ q_o q_o_heights q_o_holders q_o_kinds q_o_purses q_o_homes o_told o_low o_high o_price o_hour o_bidders o_heights o_holders o_kinds o_purses o_homes))) := hD
  refine lv_aload_n hx hb dX3_become_48 rfl (lv_at hl 1 rfl) ?_
  refine va_get (D := (dC, dI)) (ci := 3) (v := .ref q_o_heights) (C := RX3) (T := TX3) (N := 11) hx hb hts w_1 hown hK hP 6 rfl rfl 6 (by decide) w_7 (fun _ h9 => h9) rfl dX3_become_49 ?_
  refine lv_iconst (v := 0) hx hb dX3_become_52 (by decide) ?_
  refine lv_aload_n hx hb dX3_become_53 rfl (lv_at hl 0 rfl) ?_
  refine va_get (D := (dC, dI)) (ci := 3) (v := .ref q_s_heights) (C := RX3) (T := TX3) (N := 11) hx hb hts w_1 hown hK hP 0 rfl rfl 6 (by decide) w_7 (fun _ h9 => h9) rfl dX3_become_54 ?_
  refine lv_iconst (v := 0) hx hb dX3_become_57 (by decide) ?_
  refine lv_bipush (v := 15) hx hb dX3_become_58 (by decide) ?_
  obtain ⟨⟨b_2, e_2, g_2, i_2, j_2⟩, h⟩ := chk_of h
  refine va_copyi hx hb (hml.trans hl.1.symm) hown w_8 w_9 w_10 w_11 hK hP hD hS 7 1 0 0 rfl rfl rfl rfl rfl b_2 e_2 g_2 i_2 j_2 (fun _ _ => rfl) (Nat.le_of_ble_eq_true rfl) (Nat.le_of_ble_eq_true rfl) dX3_become_60 (fun H locs hP hD hS => ?_)
  have hP : va_P (dC, dI) vwCl ((W_Isle cI cZ q_s q_s_heights q_s_holders q_s_kinds q_s_purses q_s_homes o_told o_low o_high o_price o_hour o_bidders (va_cpy o_heights s_heights (0 : Int32).toNatClampNeg (0 : Int32).toNatClampNeg (15 : Int32).toNatClampNeg) s_holders s_kinds s_purses s_homes) ++ ((W_Isle cI cZ q_o q_o_heights q_o_holders q_o_kinds q_o_purses q_o_homes o_told o_low o_high o_price o_hour o_bidders o_heights o_holders o_kinds o_purses o_homes))) H := hP
  have hD : va_D A ((W_Isle cI cZ q_s q_s_heights q_s_holders q_s_kinds q_s_purses q_s_homes o_told o_low o_high o_price o_hour o_bidders (va_cpy o_heights s_heights (0 : Int32).toNatClampNeg (0 : Int32).toNatClampNeg (15 : Int32).toNatClampNeg) s_holders s_kinds s_purses s_homes) ++ ((W_Isle cI cZ q_o q_o_heights q_o_holders q_o_kinds q_o_purses q_o_homes o_told o_low o_high o_price o_hour o_bidders o_heights o_holders o_kinds o_purses o_homes))) := hD
  refine lv_aload_n hx hb dX3_become_63 rfl (lv_at hl 1 rfl) ?_
  refine va_get (D := (dC, dI)) (ci := 3) (v := .ref q_o_holders) (C := RX3) (T := TX3) (N := 11) hx hb hts w_1 hown hK hP 6 rfl rfl 7 (by decide) w_12 (fun _ h9 => h9) rfl dX3_become_64 ?_
  refine lv_iconst (v := 0) hx hb dX3_become_67 (by decide) ?_
  refine lv_aload_n hx hb dX3_become_68 rfl (lv_at hl 0 rfl) ?_
  refine va_get (D := (dC, dI)) (ci := 3) (v := .ref q_s_holders) (C := RX3) (T := TX3) (N := 11) hx hb hts w_1 hown hK hP 0 rfl rfl 7 (by decide) w_12 (fun _ h9 => h9) rfl dX3_become_69 ?_
  refine lv_iconst (v := 0) hx hb dX3_become_72 (by decide) ?_
  refine lv_bipush (v := 15) hx hb dX3_become_73 (by decide) ?_
  obtain ⟨⟨b_3, e_3, g_3, i_3, j_3⟩, h⟩ := chk_of h
  refine va_copyi hx hb (hml.trans hl.1.symm) hown w_8 w_9 w_10 w_11 hK hP hD hS 8 2 0 0 rfl rfl rfl rfl rfl b_3 e_3 g_3 i_3 j_3 (fun _ _ => rfl) (Nat.le_of_ble_eq_true rfl) (Nat.le_of_ble_eq_true rfl) dX3_become_75 (fun H locs hP hD hS => ?_)
  have hP : va_P (dC, dI) vwCl ((W_Isle cI cZ q_s q_s_heights q_s_holders q_s_kinds q_s_purses q_s_homes o_told o_low o_high o_price o_hour o_bidders (va_cpy o_heights s_heights (0 : Int32).toNatClampNeg (0 : Int32).toNatClampNeg (15 : Int32).toNatClampNeg) (va_cpy o_holders s_holders (0 : Int32).toNatClampNeg (0 : Int32).toNatClampNeg (15 : Int32).toNatClampNeg) s_kinds s_purses s_homes) ++ ((W_Isle cI cZ q_o q_o_heights q_o_holders q_o_kinds q_o_purses q_o_homes o_told o_low o_high o_price o_hour o_bidders o_heights o_holders o_kinds o_purses o_homes))) H := hP
  have hD : va_D A ((W_Isle cI cZ q_s q_s_heights q_s_holders q_s_kinds q_s_purses q_s_homes o_told o_low o_high o_price o_hour o_bidders (va_cpy o_heights s_heights (0 : Int32).toNatClampNeg (0 : Int32).toNatClampNeg (15 : Int32).toNatClampNeg) (va_cpy o_holders s_holders (0 : Int32).toNatClampNeg (0 : Int32).toNatClampNeg (15 : Int32).toNatClampNeg) s_kinds s_purses s_homes) ++ ((W_Isle cI cZ q_o q_o_heights q_o_holders q_o_kinds q_o_purses q_o_homes o_told o_low o_high o_price o_hour o_bidders o_heights o_holders o_kinds o_purses o_homes))) := hD
  refine lv_aload_n hx hb dX3_become_78 rfl (lv_at hl 1 rfl) ?_
  refine va_get (D := (dC, dI)) (ci := 3) (v := .ref q_o_kinds) (C := RX3) (T := TX3) (N := 11) hx hb hts w_1 hown hK hP 6 rfl rfl 8 (by decide) w_13 (fun _ h9 => h9) rfl dX3_become_79 ?_
  refine lv_iconst (v := 0) hx hb dX3_become_82 (by decide) ?_
  refine lv_aload_n hx hb dX3_become_83 rfl (lv_at hl 0 rfl) ?_
  refine va_get (D := (dC, dI)) (ci := 3) (v := .ref q_s_kinds) (C := RX3) (T := TX3) (N := 11) hx hb hts w_1 hown hK hP 0 rfl rfl 8 (by decide) w_13 (fun _ h9 => h9) rfl dX3_become_84 ?_
  refine lv_iconst (v := 0) hx hb dX3_become_87 (by decide) ?_
  refine lv_iconst (v := 5) hx hb dX3_become_88 (by decide) ?_
  obtain ⟨⟨b_4, e_4, g_4, i_4, j_4⟩, h⟩ := chk_of h
  refine va_copyi hx hb (hml.trans hl.1.symm) hown w_8 w_9 w_10 w_11 hK hP hD hS 9 3 0 0 rfl rfl rfl rfl rfl b_4 e_4 g_4 i_4 j_4 (fun _ _ => rfl) (Nat.le_of_ble_eq_true rfl) (Nat.le_of_ble_eq_true rfl) dX3_become_89 (fun H locs hP hD hS => ?_)
  have hP : va_P (dC, dI) vwCl ((W_Isle cI cZ q_s q_s_heights q_s_holders q_s_kinds q_s_purses q_s_homes o_told o_low o_high o_price o_hour o_bidders (va_cpy o_heights s_heights (0 : Int32).toNatClampNeg (0 : Int32).toNatClampNeg (15 : Int32).toNatClampNeg) (va_cpy o_holders s_holders (0 : Int32).toNatClampNeg (0 : Int32).toNatClampNeg (15 : Int32).toNatClampNeg) (va_cpy o_kinds s_kinds (0 : Int32).toNatClampNeg (0 : Int32).toNatClampNeg (5 : Int32).toNatClampNeg) s_purses s_homes) ++ ((W_Isle cI cZ q_o q_o_heights q_o_holders q_o_kinds q_o_purses q_o_homes o_told o_low o_high o_price o_hour o_bidders o_heights o_holders o_kinds o_purses o_homes))) H := hP
  have hD : va_D A ((W_Isle cI cZ q_s q_s_heights q_s_holders q_s_kinds q_s_purses q_s_homes o_told o_low o_high o_price o_hour o_bidders (va_cpy o_heights s_heights (0 : Int32).toNatClampNeg (0 : Int32).toNatClampNeg (15 : Int32).toNatClampNeg) (va_cpy o_holders s_holders (0 : Int32).toNatClampNeg (0 : Int32).toNatClampNeg (15 : Int32).toNatClampNeg) (va_cpy o_kinds s_kinds (0 : Int32).toNatClampNeg (0 : Int32).toNatClampNeg (5 : Int32).toNatClampNeg) s_purses s_homes) ++ ((W_Isle cI cZ q_o q_o_heights q_o_holders q_o_kinds q_o_purses q_o_homes o_told o_low o_high o_price o_hour o_bidders o_heights o_holders o_kinds o_purses o_homes))) := hD
  refine lv_aload_n hx hb dX3_become_92 rfl (lv_at hl 1 rfl) ?_
  refine va_get (D := (dC, dI)) (ci := 3) (v := .ref q_o_purses) (C := RX3) (T := TX3) (N := 11) hx hb hts w_1 hown hK hP 6 rfl rfl 9 (by decide) w_14 (fun _ h9 => h9) rfl dX3_become_93 ?_
  refine lv_iconst (v := 0) hx hb dX3_become_96 (by decide) ?_
  refine lv_aload_n hx hb dX3_become_97 rfl (lv_at hl 0 rfl) ?_
  refine va_get (D := (dC, dI)) (ci := 3) (v := .ref q_s_purses) (C := RX3) (T := TX3) (N := 11) hx hb hts w_1 hown hK hP 0 rfl rfl 9 (by decide) w_14 (fun _ h9 => h9) rfl dX3_become_98 ?_
  refine lv_iconst (v := 0) hx hb dX3_become_101 (by decide) ?_
  refine lv_iconst (v := 5) hx hb dX3_become_102 (by decide) ?_
  obtain ⟨⟨b_5, e_5, g_5, i_5, j_5⟩, h⟩ := chk_of h
  refine va_copyi hx hb (hml.trans hl.1.symm) hown w_8 w_9 w_10 w_11 hK hP hD hS 10 4 0 0 rfl rfl rfl rfl rfl b_5 e_5 g_5 i_5 j_5 (fun _ _ => rfl) (Nat.le_of_ble_eq_true rfl) (Nat.le_of_ble_eq_true rfl) dX3_become_103 (fun H locs hP hD hS => ?_)
  have hP : va_P (dC, dI) vwCl ((W_Isle cI cZ q_s q_s_heights q_s_holders q_s_kinds q_s_purses q_s_homes o_told o_low o_high o_price o_hour o_bidders (va_cpy o_heights s_heights (0 : Int32).toNatClampNeg (0 : Int32).toNatClampNeg (15 : Int32).toNatClampNeg) (va_cpy o_holders s_holders (0 : Int32).toNatClampNeg (0 : Int32).toNatClampNeg (15 : Int32).toNatClampNeg) (va_cpy o_kinds s_kinds (0 : Int32).toNatClampNeg (0 : Int32).toNatClampNeg (5 : Int32).toNatClampNeg) (va_cpy o_purses s_purses (0 : Int32).toNatClampNeg (0 : Int32).toNatClampNeg (5 : Int32).toNatClampNeg) s_homes) ++ ((W_Isle cI cZ q_o q_o_heights q_o_holders q_o_kinds q_o_purses q_o_homes o_told o_low o_high o_price o_hour o_bidders o_heights o_holders o_kinds o_purses o_homes))) H := hP
  have hD : va_D A ((W_Isle cI cZ q_s q_s_heights q_s_holders q_s_kinds q_s_purses q_s_homes o_told o_low o_high o_price o_hour o_bidders (va_cpy o_heights s_heights (0 : Int32).toNatClampNeg (0 : Int32).toNatClampNeg (15 : Int32).toNatClampNeg) (va_cpy o_holders s_holders (0 : Int32).toNatClampNeg (0 : Int32).toNatClampNeg (15 : Int32).toNatClampNeg) (va_cpy o_kinds s_kinds (0 : Int32).toNatClampNeg (0 : Int32).toNatClampNeg (5 : Int32).toNatClampNeg) (va_cpy o_purses s_purses (0 : Int32).toNatClampNeg (0 : Int32).toNatClampNeg (5 : Int32).toNatClampNeg) s_homes) ++ ((W_Isle cI cZ q_o q_o_heights q_o_holders q_o_kinds q_o_purses q_o_homes o_told o_low o_high o_price o_hour o_bidders o_heights o_holders o_kinds o_purses o_homes))) := hD
  refine lv_aload_n hx hb dX3_become_106 rfl (lv_at hl 1 rfl) ?_
  refine va_get (D := (dC, dI)) (ci := 3) (v := .ref q_o_homes) (C := RX3) (T := TX3) (N := 11) hx hb hts w_1 hown hK hP 6 rfl rfl 10 (by decide) w_15 (fun _ h9 => h9) rfl dX3_become_107 ?_
  refine lv_iconst (v := 0) hx hb dX3_become_110 (by decide) ?_
  refine lv_aload_n hx hb dX3_become_111 rfl (lv_at hl 0 rfl) ?_
  refine va_get (D := (dC, dI)) (ci := 3) (v := .ref q_s_homes) (C := RX3) (T := TX3) (N := 11) hx hb hts w_1 hown hK hP 0 rfl rfl 10 (by decide) w_15 (fun _ h9 => h9) rfl dX3_become_112 ?_
  refine lv_iconst (v := 0) hx hb dX3_become_115 (by decide) ?_
  refine lv_iconst (v := 5) hx hb dX3_become_116 (by decide) ?_
  obtain ⟨⟨b_6, e_6, g_6, i_6, j_6⟩, h⟩ := chk_of h
  refine va_copyi hx hb (hml.trans hl.1.symm) hown w_8 w_9 w_10 w_11 hK hP hD hS 11 5 0 0 rfl rfl rfl rfl rfl b_6 e_6 g_6 i_6 j_6 (fun _ _ => rfl) (Nat.le_of_ble_eq_true rfl) (Nat.le_of_ble_eq_true rfl) dX3_become_117 (fun H locs hP hD hS => ?_)
  have hP : va_P (dC, dI) vwCl ((W_Isle cI cZ q_s q_s_heights q_s_holders q_s_kinds q_s_purses q_s_homes o_told o_low o_high o_price o_hour o_bidders (va_cpy o_heights s_heights (0 : Int32).toNatClampNeg (0 : Int32).toNatClampNeg (15 : Int32).toNatClampNeg) (va_cpy o_holders s_holders (0 : Int32).toNatClampNeg (0 : Int32).toNatClampNeg (15 : Int32).toNatClampNeg) (va_cpy o_kinds s_kinds (0 : Int32).toNatClampNeg (0 : Int32).toNatClampNeg (5 : Int32).toNatClampNeg) (va_cpy o_purses s_purses (0 : Int32).toNatClampNeg (0 : Int32).toNatClampNeg (5 : Int32).toNatClampNeg) (va_cpy o_homes s_homes (0 : Int32).toNatClampNeg (0 : Int32).toNatClampNeg (5 : Int32).toNatClampNeg)) ++ ((W_Isle cI cZ q_o q_o_heights q_o_holders q_o_kinds q_o_purses q_o_homes o_told o_low o_high o_price o_hour o_bidders o_heights o_holders o_kinds o_purses o_homes))) H := hP
  have hD : va_D A ((W_Isle cI cZ q_s q_s_heights q_s_holders q_s_kinds q_s_purses q_s_homes o_told o_low o_high o_price o_hour o_bidders (va_cpy o_heights s_heights (0 : Int32).toNatClampNeg (0 : Int32).toNatClampNeg (15 : Int32).toNatClampNeg) (va_cpy o_holders s_holders (0 : Int32).toNatClampNeg (0 : Int32).toNatClampNeg (15 : Int32).toNatClampNeg) (va_cpy o_kinds s_kinds (0 : Int32).toNatClampNeg (0 : Int32).toNatClampNeg (5 : Int32).toNatClampNeg) (va_cpy o_purses s_purses (0 : Int32).toNatClampNeg (0 : Int32).toNatClampNeg (5 : Int32).toNatClampNeg) (va_cpy o_homes s_homes (0 : Int32).toNatClampNeg (0 : Int32).toNatClampNeg (5 : Int32).toNatClampNeg)) ++ ((W_Isle cI cZ q_o q_o_heights q_o_holders q_o_kinds q_o_purses q_o_homes o_told o_low o_high o_price o_hour o_bidders o_heights o_holders o_kinds o_purses o_homes))) := hD
  have h := Option.some.inj h
  subst h
  rw [hQQ]
  subst hAe
  exact W.vret hx hb hr (fun t ht hW => ⟨⟨(), rfl, trivial, by rw [ht]; exact hP, va_K.moved hW.alike hK, hD⟩, hS.F ht⟩) hS.2.2 dX3_become_120
def fX3_saveTo (s_hour : Int32) (s_heights : (Nat → Int32)) (s_holders : (Nat → Int32)) (s_purses : (Nat → Int32)) (r : (Nat → Int32)) (v2 : Int32) : Option ((Nat → Int32)) :=
  chk (¬ (v2 < 0 ∨ 864 ≤ v2.toNatClampNeg)) (chk (¬ (0 : Int32) < 0 ∧ ¬ (v2 + 1) < 0 ∧ ¬ (15 : Int32) < 0 ∧ (0 : Int32).toNatClampNeg + (15 : Int32).toNatClampNeg ≤ 15 ∧ (v2 + 1).toNatClampNeg + (15 : Int32).toNatClampNeg ≤ 864) (chk (¬ (0 : Int32) < 0 ∧ ¬ ((v2 + 1) + 15) < 0 ∧ ¬ (15 : Int32) < 0 ∧ (0 : Int32).toNatClampNeg + (15 : Int32).toNatClampNeg ≤ 15 ∧ ((v2 + 1) + 15).toNatClampNeg + (15 : Int32).toNatClampNeg ≤ 864) (chk (¬ (0 : Int32) < 0 ∧ ¬ ((v2 + 1) + 30) < 0 ∧ ¬ (5 : Int32) < 0 ∧ (0 : Int32).toNatClampNeg + (5 : Int32).toNatClampNeg ≤ 5 ∧ ((v2 + 1) + 30).toNatClampNeg + (5 : Int32).toNatClampNeg ≤ 864) (some ((va_cpy s_purses (va_cpy s_holders (va_cpy s_heights (upd r v2.toNatClampNeg s_hour) (0 : Int32).toNatClampNeg (v2 + 1).toNatClampNeg (15 : Int32).toNatClampNeg) (0 : Int32).toNatClampNeg ((v2 + 1) + 15).toNatClampNeg (15 : Int32).toNatClampNeg) (0 : Int32).toNatClampNeg ((v2 + 1) + 30).toNatClampNeg (5 : Int32).toNatClampNeg))))))
abbrev rmX3_saveTo : Room := { frames := 1, cells := 0, slots := 0, locals := 40 }
theorem ddX3_saveTo : yX3_saveTo.cls ≠ "java/lang/invoke/MethodHandle" ∧ yX3_saveTo.cls ≠ "java/lang/invoke/VarHandle" ∧ (parseMethodDescriptor yX3_saveTo.desc).map (fun d => d.parameters.length) = some 2 := by decide +kernel
set_option maxHeartbeats 4000000 in
set_option maxRecDepth 100000 in
theorem m_X3_saveTo (l : Launch) (dC : Nat → ClassId) (dI : Nat → Nat → Nat) (cI cZ : ClassId) (q_s q_s_heights q_s_holders q_s_kinds q_s_purses q_s_homes q_r : Nat) (s_told : Int32) (s_low : Int32) (s_high : Int32) (s_price : Int32) (s_hour : Int32) (s_bidders : Int32) (s_heights : (Nat → Int32)) (s_holders : (Nat → Int32)) (s_kinds : (Nat → Int32)) (s_purses : (Nat → Int32)) (s_homes : (Nat → Int32)) (r : (Nat → Int32)) (v2 : Int32) (sz : Nat) (res : (Nat → Int32)) (hf : fX3_saveTo s_hour s_heights s_holders s_purses r v2 = some res) : Met l yX3_saveTo wsX3_saveTo rmX3_saveTo (mtPc (dC, dI) (tyZ cI cZ) ((W_Isle cI cZ q_s q_s_heights q_s_holders q_s_kinds q_s_purses q_s_homes s_told s_low s_high s_price s_hour s_bidders s_heights s_holders s_kinds s_purses s_homes) ++ ([(q_r, .inl (cI, 864, .inl r))])) [.ref q_s, .ref q_r, .int v2] sz) (mtQv (dC, dI) (tyZ cI cZ) ((W_Isle cI cZ q_s q_s_heights q_s_holders q_s_kinds q_s_purses q_s_homes s_told s_low s_high s_price s_hour s_bidders s_heights s_holders s_kinds s_purses s_homes) ++ ([(q_r, .inl (cI, 864, .inl r))])) ((W_Isle cI cZ q_s q_s_heights q_s_holders q_s_kinds q_s_purses q_s_homes s_told s_low s_high s_price s_hour s_bidders s_heights s_holders s_kinds s_purses s_homes) ++ ([(q_r, .inl (cI, 864, .inl res))])) sz) 0 0 (va_A ((W_Isle cI cZ q_s q_s_heights q_s_holders q_s_kinds q_s_purses q_s_homes s_told s_low s_high s_price s_hour s_bidders s_heights s_holders s_kinds s_purses s_homes) ++ ([(q_r, .inl (cI, 864, .inl r))])) sz) := by
  refine Met.ofW (cc := cX3_saveTo) (maxL := 3) (ret := none) (by decide) rfl ?_
  intro p e s m args below meth c s₁ B hml hv
  obtain ⟨rfl, hsz, hP, hK, hD0⟩ := hv
  have hx := B.exec
  have hb := B.bytes
  have hr := B.returns
  have hts := atoms_spec (ws := wsX3_saveTo) B.pre
  have hown : s.vm.findClass RX3 = some m.cls := findClass_of_methodNamed B.named
  have hlocks := B.notSynchronized
  subst hsz
  have hD := hD0.self (sz := s.heap.size)
  obtain ⟨A, hAe⟩ : ∃ A, A = va_A ((W_Isle cI cZ q_s q_s_heights q_s_holders q_s_kinds q_s_purses q_s_homes s_told s_low s_high s_price s_hour s_bidders s_heights s_holders s_kinds s_purses s_homes) ++ ([(q_r, .inl (cI, 864, .inl r))])) s.heap.size := ⟨_, rfl⟩
  rw [← hAe] at hD
  have hA : ∀ q : Nat, s.heap.size ≤ q → A q := fun q h => by rw [hAe]; exact Or.inr h
  have hS : va_S A s.heap s.heap [] := va_S.rf
  have hl := lv_entry ([.ref q_s, .ref q_r, .int v2]) (n := 3) (Nat.le_of_ble_eq_true rfl)
  rw [lg_entry_eq]
  generalize (lg_sl ([.ref q_s, .ref q_r, .int v2]) ++ List.replicate (3 - (lg_sl ([.ref q_s, .ref q_r, .int v2])).length) Slot.unset).toArray = ls at hl ⊢
  have hl : lv_has ls 3 [(0, .ref q_s), (1, .ref q_r), (2, .int v2)] := hl
  obtain ⟨QQ, hQQ⟩ : ∃ Q, Q = MQ below (mtQv (dC, dI) (tyZ cI cZ) ((W_Isle cI cZ q_s q_s_heights q_s_holders q_s_kinds q_s_purses q_s_homes s_told s_low s_high s_price s_hour s_bidders s_heights s_holders s_kinds s_purses s_homes) ++ ([(q_r, .inl (cI, 864, .inl r))])) ((W_Isle cI cZ q_s q_s_heights q_s_holders q_s_kinds q_s_purses q_s_homes s_told s_low s_high s_price s_hour s_bidders s_heights s_holders s_kinds s_purses s_homes) ++ ([(q_r, .inl (cI, 864, .inl res))])) s.heap.size) ([.ref q_s, .ref q_r, .int v2] : List Value).toArray s 0 0 (va_A ((W_Isle cI cZ q_s q_s_heights q_s_holders q_s_kinds q_s_purses q_s_homes s_told s_low s_high s_price s_hour s_bidders s_heights s_holders s_kinds s_purses s_homes) ++ ([(q_r, .inl (cI, 864, .inl r))])) s.heap.size) := ⟨_, rfl⟩
  rw [← hQQ]
  have w_0 := hts (Cond.fieldLink RX3 34 "TideInches$Isle" "hour" "I") (List.mem_of_getElem? (i := 1) rfl)
  have w_1 := (fun w hw => List.mem_cons_of_mem _ (List.mem_append_right _ hw) : ∀ w ∈ wsX30, w ∈ wsX3_saveTo)
  have w_2 := hts (Cond.fieldLink RX3 9 "TideInches$Isle" "heights" "[I") (List.mem_of_getElem? (i := 2) rfl)
  have w_3 := hts (Cond.methodLink RX3 50 arraycopyName) (List.mem_of_getElem? (i := 3) rfl)
  have w_4 := hts (Cond.native arraycopyName) (List.mem_of_getElem? (i := 4) rfl)
  have w_5 := hts (Cond.static arraycopyName) (List.mem_of_getElem? (i := 5) rfl)
  have w_6 := hts (Cond.initialized "java/lang/System") (List.mem_of_getElem? (i := 6) rfl)
  have w_7 := hts (Cond.fieldLink RX3 15 "TideInches$Isle" "holders" "[I") (List.mem_of_getElem? (i := 7) rfl)
  have w_8 := hts (Cond.fieldLink RX3 21 "TideInches$Isle" "purses" "[I") (List.mem_of_getElem? (i := 8) rfl)
  have h := hf
  unfold fX3_saveTo at h
  refine lv_aload_n hx hb dX3_saveTo_0 rfl (lv_at hl 1 rfl) ?_
  refine lv_iload_n hx hb dX3_saveTo_1 rfl (lv_at hl 2 rfl) ?_
  refine lv_aload_n hx hb dX3_saveTo_2 rfl (lv_at hl 0 rfl) ?_
  refine va_get (D := (dC, dI)) (ci := 3) (v := .int s_hour) (C := RX3) (T := TX3) (N := 11) hx hb hts w_1 hown hK hP 0 rfl rfl 4 (by decide) w_0 (fun _ h9 => h9) rfl dX3_saveTo_3 ?_
  obtain ⟨b_1, h⟩ := chk_of h
  refine va_iast hx hb hK hP hD hS 6 0 rfl rfl (i := v2) (x := s_hour) b_1 dX3_saveTo_6 (fun H locs hP hD hS => ?_)
  have hP : va_P (dC, dI) vwCl ((W_Isle cI cZ q_s q_s_heights q_s_holders q_s_kinds q_s_purses q_s_homes s_told s_low s_high s_price s_hour s_bidders s_heights s_holders s_kinds s_purses s_homes) ++ ([(q_r, .inl (cI, 864, .inl (upd r v2.toNatClampNeg s_hour)))])) H := hP
  have hD : va_D A ((W_Isle cI cZ q_s q_s_heights q_s_holders q_s_kinds q_s_purses q_s_homes s_told s_low s_high s_price s_hour s_bidders s_heights s_holders s_kinds s_purses s_homes) ++ ([(q_r, .inl (cI, 864, .inl (upd r v2.toNatClampNeg s_hour)))])) := hD
  refine lv_aload_n hx hb dX3_saveTo_7 rfl (lv_at hl 0 rfl) ?_
  refine va_get (D := (dC, dI)) (ci := 3) (v := .ref q_s_heights) (C := RX3) (T := TX3) (N := 11) hx hb hts w_1 hown hK hP 0 rfl rfl 6 (by decide) w_2 (fun _ h9 => h9) rfl dX3_saveTo_8 ?_
  refine lv_iconst (v := 0) hx hb dX3_saveTo_11 (by decide) ?_
  refine lv_aload_n hx hb dX3_saveTo_12 rfl (lv_at hl 1 rfl) ?_
  refine lv_iload_n hx hb dX3_saveTo_13 rfl (lv_at hl 2 rfl) ?_
  refine lv_iconst (v := 1) hx hb dX3_saveTo_14 (by decide) ?_
  refine lv_iadd hx hb dX3_saveTo_15 ?_
  refine lv_bipush (v := 15) hx hb dX3_saveTo_16 (by decide) ?_
  obtain ⟨⟨b_2, e_2, g_2, i_2, j_2⟩, h⟩ := chk_of h
  refine va_copyi hx hb (hml.trans hl.1.symm) hown w_3 w_4 w_5 w_6 hK hP hD hS 1 6 0 0 rfl rfl rfl rfl rfl b_2 e_2 g_2 i_2 j_2 (fun _ _ => rfl) (Nat.le_of_ble_eq_true rfl) (Nat.le_of_ble_eq_true rfl) dX3_saveTo_18 (fun H locs hP hD hS => ?_)
  have hP : va_P (dC, dI) vwCl ((W_Isle cI cZ q_s q_s_heights q_s_holders q_s_kinds q_s_purses q_s_homes s_told s_low s_high s_price s_hour s_bidders s_heights s_holders s_kinds s_purses s_homes) ++ ([(q_r, .inl (cI, 864, .inl (va_cpy s_heights (upd r v2.toNatClampNeg s_hour) (0 : Int32).toNatClampNeg (v2 + 1).toNatClampNeg (15 : Int32).toNatClampNeg)))])) H := hP
  have hD : va_D A ((W_Isle cI cZ q_s q_s_heights q_s_holders q_s_kinds q_s_purses q_s_homes s_told s_low s_high s_price s_hour s_bidders s_heights s_holders s_kinds s_purses s_homes) ++ ([(q_r, .inl (cI, 864, .inl (va_cpy s_heights (upd r v2.toNatClampNeg s_hour) (0 : Int32).toNatClampNeg (v2 + 1).toNatClampNeg (15 : Int32).toNatClampNeg)))])) := hD
  refine lv_aload_n hx hb dX3_saveTo_21 rfl (lv_at hl 0 rfl) ?_
  refine va_get (D := (dC, dI)) (ci := 3) (v := .ref q_s_holders) (C := RX3) (T := TX3) (N := 11) hx hb hts w_1 hown hK hP 0 rfl rfl 7 (by decide) w_7 (fun _ h9 => h9) rfl dX3_saveTo_22 ?_
  refine lv_iconst (v := 0) hx hb dX3_saveTo_25 (by decide) ?_
  refine lv_aload_n hx hb dX3_saveTo_26 rfl (lv_at hl 1 rfl) ?_
  refine lv_iload_n hx hb dX3_saveTo_27 rfl (lv_at hl 2 rfl) ?_
  refine lv_iconst (v := 1) hx hb dX3_saveTo_28 (by decide) ?_
  refine lv_iadd hx hb dX3_saveTo_29 ?_
  refine lv_bipush (v := 15) hx hb dX3_saveTo_30 (by decide) ?_
  refine lv_iadd hx hb dX3_saveTo_32 ?_
  refine lv_bipush (v := 15) hx hb dX3_saveTo_33 (by decide) ?_
  obtain ⟨⟨b_3, e_3, g_3, i_3, j_3⟩, h⟩ := chk_of h
  refine va_copyi hx hb (hml.trans hl.1.symm) hown w_3 w_4 w_5 w_6 hK hP hD hS 2 6 0 0 rfl rfl rfl rfl rfl b_3 e_3 g_3 i_3 j_3 (fun _ _ => rfl) (Nat.le_of_ble_eq_true rfl) (Nat.le_of_ble_eq_true rfl) dX3_saveTo_35 (fun H locs hP hD hS => ?_)
  have hP : va_P (dC, dI) vwCl ((W_Isle cI cZ q_s q_s_heights q_s_holders q_s_kinds q_s_purses q_s_homes s_told s_low s_high s_price s_hour s_bidders s_heights s_holders s_kinds s_purses s_homes) ++ ([(q_r, .inl (cI, 864, .inl (va_cpy s_holders (va_cpy s_heights (upd r v2.toNatClampNeg s_hour) (0 : Int32).toNatClampNeg (v2 + 1).toNatClampNeg (15 : Int32).toNatClampNeg) (0 : Int32).toNatClampNeg ((v2 + 1) + 15).toNatClampNeg (15 : Int32).toNatClampNeg)))])) H := hP
  have hD : va_D A ((W_Isle cI cZ q_s q_s_heights q_s_holders q_s_kinds q_s_purses q_s_homes s_told s_low s_high s_price s_hour s_bidders s_heights s_holders s_kinds s_purses s_homes) ++ ([(q_r, .inl (cI, 864, .inl (va_cpy s_holders (va_cpy s_heights (upd r v2.toNatClampNeg s_hour) (0 : Int32).toNatClampNeg (v2 + 1).toNatClampNeg (15 : Int32).toNatClampNeg) (0 : Int32).toNatClampNeg ((v2 + 1) + 15).toNatClampNeg (15 : Int32).toNatClampNeg)))])) := hD
  refine lv_aload_n hx hb dX3_saveTo_38 rfl (lv_at hl 0 rfl) ?_
  refine va_get (D := (dC, dI)) (ci := 3) (v := .ref q_s_purses) (C := RX3) (T := TX3) (N := 11) hx hb hts w_1 hown hK hP 0 rfl rfl 9 (by decide) w_8 (fun _ h9 => h9) rfl dX3_saveTo_39 ?_
  refine lv_iconst (v := 0) hx hb dX3_saveTo_42 (by decide) ?_
  refine lv_aload_n hx hb dX3_saveTo_43 rfl (lv_at hl 1 rfl) ?_
  refine lv_iload_n hx hb dX3_saveTo_44 rfl (lv_at hl 2 rfl) ?_
  refine lv_iconst (v := 1) hx hb dX3_saveTo_45 (by decide) ?_
  refine lv_iadd hx hb dX3_saveTo_46 ?_
  refine lv_bipush (v := 30) hx hb dX3_saveTo_47 (by decide) ?_
  refine lv_iadd hx hb dX3_saveTo_49 ?_
  refine lv_iconst (v := 5) hx hb dX3_saveTo_50 (by decide) ?_
  obtain ⟨⟨b_4, e_4, g_4, i_4, j_4⟩, h⟩ := chk_of h
  refine va_copyi hx hb (hml.trans hl.1.symm) hown w_3 w_4 w_5 w_6 hK hP hD hS 4 6 0 0 rfl rfl rfl rfl rfl b_4 e_4 g_4 i_4 j_4 (fun _ _ => rfl) (Nat.le_of_ble_eq_true rfl) (Nat.le_of_ble_eq_true rfl) dX3_saveTo_51 (fun H locs hP hD hS => ?_)
  have hP : va_P (dC, dI) vwCl ((W_Isle cI cZ q_s q_s_heights q_s_holders q_s_kinds q_s_purses q_s_homes s_told s_low s_high s_price s_hour s_bidders s_heights s_holders s_kinds s_purses s_homes) ++ ([(q_r, .inl (cI, 864, .inl (va_cpy s_purses (va_cpy s_holders (va_cpy s_heights (upd r v2.toNatClampNeg s_hour) (0 : Int32).toNatClampNeg (v2 + 1).toNatClampNeg (15 : Int32).toNatClampNeg) (0 : Int32).toNatClampNeg ((v2 + 1) + 15).toNatClampNeg (15 : Int32).toNatClampNeg) (0 : Int32).toNatClampNeg ((v2 + 1) + 30).toNatClampNeg (5 : Int32).toNatClampNeg)))])) H := hP
  have hD : va_D A ((W_Isle cI cZ q_s q_s_heights q_s_holders q_s_kinds q_s_purses q_s_homes s_told s_low s_high s_price s_hour s_bidders s_heights s_holders s_kinds s_purses s_homes) ++ ([(q_r, .inl (cI, 864, .inl (va_cpy s_purses (va_cpy s_holders (va_cpy s_heights (upd r v2.toNatClampNeg s_hour) (0 : Int32).toNatClampNeg (v2 + 1).toNatClampNeg (15 : Int32).toNatClampNeg) (0 : Int32).toNatClampNeg ((v2 + 1) + 15).toNatClampNeg (15 : Int32).toNatClampNeg) (0 : Int32).toNatClampNeg ((v2 + 1) + 30).toNatClampNeg (5 : Int32).toNatClampNeg)))])) := hD
  have h := Option.some.inj h
  subst h
  rw [hQQ]
  subst hAe
  exact W.vret hx hb hr (fun t ht hW => ⟨⟨(), rfl, trivial, by rw [ht]; exact hP, va_K.moved hW.alike hK, hD⟩, hS.F ht⟩) hS.2.2 dX3_saveTo_54
def fX3_takeFrom (s_heights : (Nat → Int32)) (s_holders : (Nat → Int32)) (s_purses : (Nat → Int32)) (r : (Nat → Int32)) (v2 : Int32) : Option (Int32 × (Nat → Int32) × (Nat → Int32) × (Nat → Int32)) :=
  chk (¬ (v2 < 0 ∨ 864 ≤ v2.toNatClampNeg)) (chk (¬ (v2 + 1) < 0 ∧ ¬ (0 : Int32) < 0 ∧ ¬ (15 : Int32) < 0 ∧ (v2 + 1).toNatClampNeg + (15 : Int32).toNatClampNeg ≤ 864 ∧ (0 : Int32).toNatClampNeg + (15 : Int32).toNatClampNeg ≤ 15) (chk (¬ ((v2 + 1) + 15) < 0 ∧ ¬ (0 : Int32) < 0 ∧ ¬ (15 : Int32) < 0 ∧ ((v2 + 1) + 15).toNatClampNeg + (15 : Int32).toNatClampNeg ≤ 864 ∧ (0 : Int32).toNatClampNeg + (15 : Int32).toNatClampNeg ≤ 15) (chk (¬ ((v2 + 1) + 30) < 0 ∧ ¬ (0 : Int32) < 0 ∧ ¬ (5 : Int32) < 0 ∧ ((v2 + 1) + 30).toNatClampNeg + (5 : Int32).toNatClampNeg ≤ 864 ∧ (0 : Int32).toNatClampNeg + (5 : Int32).toNatClampNeg ≤ 5) (some ((r v2.toNatClampNeg), (va_cpy r s_heights (v2 + 1).toNatClampNeg (0 : Int32).toNatClampNeg (15 : Int32).toNatClampNeg), (va_cpy r s_holders ((v2 + 1) + 15).toNatClampNeg (0 : Int32).toNatClampNeg (15 : Int32).toNatClampNeg), (va_cpy r s_purses ((v2 + 1) + 30).toNatClampNeg (0 : Int32).toNatClampNeg (5 : Int32).toNatClampNeg))))))
abbrev rmX3_takeFrom : Room := { frames := 1, cells := 0, slots := 0, locals := 40 }
theorem ddX3_takeFrom : yX3_takeFrom.cls ≠ "java/lang/invoke/MethodHandle" ∧ yX3_takeFrom.cls ≠ "java/lang/invoke/VarHandle" ∧ (parseMethodDescriptor yX3_takeFrom.desc).map (fun d => d.parameters.length) = some 2 := by decide +kernel
set_option maxHeartbeats 4000000 in
set_option maxRecDepth 100000 in
theorem m_X3_takeFrom (l : Launch) (dC : Nat → ClassId) (dI : Nat → Nat → Nat) (cI cZ : ClassId) (q_s q_s_heights q_s_holders q_s_kinds q_s_purses q_s_homes q_r : Nat) (s_told : Int32) (s_low : Int32) (s_high : Int32) (s_price : Int32) (s_hour : Int32) (s_bidders : Int32) (s_heights : (Nat → Int32)) (s_holders : (Nat → Int32)) (s_kinds : (Nat → Int32)) (s_purses : (Nat → Int32)) (s_homes : (Nat → Int32)) (r : (Nat → Int32)) (v2 : Int32) (sz : Nat) (res : Int32 × (Nat → Int32) × (Nat → Int32) × (Nat → Int32)) (hf : fX3_takeFrom s_heights s_holders s_purses r v2 = some res) : Met l yX3_takeFrom wsX3_takeFrom rmX3_takeFrom (mtPc (dC, dI) (tyZ cI cZ) ((W_Isle cI cZ q_s q_s_heights q_s_holders q_s_kinds q_s_purses q_s_homes s_told s_low s_high s_price s_hour s_bidders s_heights s_holders s_kinds s_purses s_homes) ++ ([(q_r, .inl (cI, 864, .inl r))])) [.ref q_s, .ref q_r, .int v2] sz) (mtQv (dC, dI) (tyZ cI cZ) ((W_Isle cI cZ q_s q_s_heights q_s_holders q_s_kinds q_s_purses q_s_homes s_told s_low s_high s_price s_hour s_bidders s_heights s_holders s_kinds s_purses s_homes) ++ ([(q_r, .inl (cI, 864, .inl r))])) ((W_Isle cI cZ q_s q_s_heights q_s_holders q_s_kinds q_s_purses q_s_homes s_told s_low s_high s_price res.1 s_bidders res.2.1 res.2.2.1 s_kinds res.2.2.2 s_homes) ++ ([(q_r, .inl (cI, 864, .inl r))])) sz) 0 0 (va_A ((W_Isle cI cZ q_s q_s_heights q_s_holders q_s_kinds q_s_purses q_s_homes s_told s_low s_high s_price s_hour s_bidders s_heights s_holders s_kinds s_purses s_homes) ++ ([(q_r, .inl (cI, 864, .inl r))])) sz) := by
  refine Met.ofW (cc := cX3_takeFrom) (maxL := 3) (ret := none) (by decide) rfl ?_
  intro p e s m args below meth c s₁ B hml hv
  obtain ⟨rfl, hsz, hP, hK, hD0⟩ := hv
  have hx := B.exec
  have hb := B.bytes
  have hr := B.returns
  have hts := atoms_spec (ws := wsX3_takeFrom) B.pre
  have hown : s.vm.findClass RX3 = some m.cls := findClass_of_methodNamed B.named
  have hlocks := B.notSynchronized
  subst hsz
  have hD := hD0.self (sz := s.heap.size)
  obtain ⟨A, hAe⟩ : ∃ A, A = va_A ((W_Isle cI cZ q_s q_s_heights q_s_holders q_s_kinds q_s_purses q_s_homes s_told s_low s_high s_price s_hour s_bidders s_heights s_holders s_kinds s_purses s_homes) ++ ([(q_r, .inl (cI, 864, .inl r))])) s.heap.size := ⟨_, rfl⟩
  rw [← hAe] at hD
  have hA : ∀ q : Nat, s.heap.size ≤ q → A q := fun q h => by rw [hAe]; exact Or.inr h
  have hS : va_S A s.heap s.heap [] := va_S.rf
  have hl := lv_entry ([.ref q_s, .ref q_r, .int v2]) (n := 3) (Nat.le_of_ble_eq_true rfl)
  rw [lg_entry_eq]
  generalize (lg_sl ([.ref q_s, .ref q_r, .int v2]) ++ List.replicate (3 - (lg_sl ([.ref q_s, .ref q_r, .int v2])).length) Slot.unset).toArray = ls at hl ⊢
  have hl : lv_has ls 3 [(0, .ref q_s), (1, .ref q_r), (2, .int v2)] := hl
  obtain ⟨QQ, hQQ⟩ : ∃ Q, Q = MQ below (mtQv (dC, dI) (tyZ cI cZ) ((W_Isle cI cZ q_s q_s_heights q_s_holders q_s_kinds q_s_purses q_s_homes s_told s_low s_high s_price s_hour s_bidders s_heights s_holders s_kinds s_purses s_homes) ++ ([(q_r, .inl (cI, 864, .inl r))])) ((W_Isle cI cZ q_s q_s_heights q_s_holders q_s_kinds q_s_purses q_s_homes s_told s_low s_high s_price res.1 s_bidders res.2.1 res.2.2.1 s_kinds res.2.2.2 s_homes) ++ ([(q_r, .inl (cI, 864, .inl r))])) s.heap.size) ([.ref q_s, .ref q_r, .int v2] : List Value).toArray s 0 0 (va_A ((W_Isle cI cZ q_s q_s_heights q_s_holders q_s_kinds q_s_purses q_s_homes s_told s_low s_high s_price s_hour s_bidders s_heights s_holders s_kinds s_purses s_homes) ++ ([(q_r, .inl (cI, 864, .inl r))])) s.heap.size) := ⟨_, rfl⟩
  rw [← hQQ]
  have w_0 := hts (Cond.fieldLink RX3 34 "TideInches$Isle" "hour" "I") (List.mem_of_getElem? (i := 1) rfl)
  have w_1 := (fun w hw => List.mem_cons_of_mem _ (List.mem_append_right _ hw) : ∀ w ∈ wsX30, w ∈ wsX3_takeFrom)
  have w_2 := hts (Cond.fieldLink RX3 9 "TideInches$Isle" "heights" "[I") (List.mem_of_getElem? (i := 2) rfl)
  have w_3 := hts (Cond.methodLink RX3 50 arraycopyName) (List.mem_of_getElem? (i := 3) rfl)
  have w_4 := hts (Cond.native arraycopyName) (List.mem_of_getElem? (i := 4) rfl)
  have w_5 := hts (Cond.static arraycopyName) (List.mem_of_getElem? (i := 5) rfl)
  have w_6 := hts (Cond.initialized "java/lang/System") (List.mem_of_getElem? (i := 6) rfl)
  have w_7 := hts (Cond.fieldLink RX3 15 "TideInches$Isle" "holders" "[I") (List.mem_of_getElem? (i := 7) rfl)
  have w_8 := hts (Cond.fieldLink RX3 21 "TideInches$Isle" "purses" "[I") (List.mem_of_getElem? (i := 8) rfl)
  have h := hf
  unfold fX3_takeFrom at h
  refine lv_aload_n hx hb dX3_takeFrom_0 rfl (lv_at hl 0 rfl) ?_
  refine lv_aload_n hx hb dX3_takeFrom_1 rfl (lv_at hl 1 rfl) ?_
  refine lv_iload_n hx hb dX3_takeFrom_2 rfl (lv_at hl 2 rfl) ?_
  obtain ⟨b_1, h⟩ := chk_of h
  refine va_iald hx hb hK hP 6 0 rfl rfl (i := v2) b_1 dX3_takeFrom_3 ?_
  refine va_put (D := (dC, dI)) (ci := 3) (v := .int (r v2.toNatClampNeg)) (ty := .int) (C := RX3) (T := TX3) (N := 11) hx hb hts w_1 tyX3 tyX3_ok nmX3 hown hK hP hD hS 0 rfl rfl 4 (by decide) w_0 (fun _ h9 => h9) rfl (by decide +kernel) rfl rfl (Nat.le_of_ble_eq_true rfl) dX3_takeFrom_4 (fun H locs hP hD hS => ?_)
  have hP : va_P (dC, dI) vwCl ((W_Isle cI cZ q_s q_s_heights q_s_holders q_s_kinds q_s_purses q_s_homes s_told s_low s_high s_price (r v2.toNatClampNeg) s_bidders s_heights s_holders s_kinds s_purses s_homes) ++ ([(q_r, .inl (cI, 864, .inl r))])) H := hP
  have hD : va_D A ((W_Isle cI cZ q_s q_s_heights q_s_holders q_s_kinds q_s_purses q_s_homes s_told s_low s_high s_price (r v2.toNatClampNeg) s_bidders s_heights s_holders s_kinds s_purses s_homes) ++ ([(q_r, .inl (cI, 864, .inl r))])) := hD
  refine lv_aload_n hx hb dX3_takeFrom_7 rfl (lv_at hl 1 rfl) ?_
  refine lv_iload_n hx hb dX3_takeFrom_8 rfl (lv_at hl 2 rfl) ?_
  refine lv_iconst (v := 1) hx hb dX3_takeFrom_9 (by decide) ?_
  refine lv_iadd hx hb dX3_takeFrom_10 ?_
  refine lv_aload_n hx hb dX3_takeFrom_11 rfl (lv_at hl 0 rfl) ?_
  refine va_get (D := (dC, dI)) (ci := 3) (v := .ref q_s_heights) (C := RX3) (T := TX3) (N := 11) hx hb hts w_1 hown hK hP 0 rfl rfl 6 (by decide) w_2 (fun _ h9 => h9) rfl dX3_takeFrom_12 ?_
  refine lv_iconst (v := 0) hx hb dX3_takeFrom_15 (by decide) ?_
  refine lv_bipush (v := 15) hx hb dX3_takeFrom_16 (by decide) ?_
  obtain ⟨⟨b_2, e_2, g_2, i_2, j_2⟩, h⟩ := chk_of h
  refine va_copyi hx hb (hml.trans hl.1.symm) hown w_3 w_4 w_5 w_6 hK hP hD hS 6 1 0 0 rfl rfl rfl rfl rfl b_2 e_2 g_2 i_2 j_2 (fun _ _ => rfl) (Nat.le_of_ble_eq_true rfl) (Nat.le_of_ble_eq_true rfl) dX3_takeFrom_18 (fun H locs hP hD hS => ?_)
  have hP : va_P (dC, dI) vwCl ((W_Isle cI cZ q_s q_s_heights q_s_holders q_s_kinds q_s_purses q_s_homes s_told s_low s_high s_price (r v2.toNatClampNeg) s_bidders (va_cpy r s_heights (v2 + 1).toNatClampNeg (0 : Int32).toNatClampNeg (15 : Int32).toNatClampNeg) s_holders s_kinds s_purses s_homes) ++ ([(q_r, .inl (cI, 864, .inl r))])) H := hP
  have hD : va_D A ((W_Isle cI cZ q_s q_s_heights q_s_holders q_s_kinds q_s_purses q_s_homes s_told s_low s_high s_price (r v2.toNatClampNeg) s_bidders (va_cpy r s_heights (v2 + 1).toNatClampNeg (0 : Int32).toNatClampNeg (15 : Int32).toNatClampNeg) s_holders s_kinds s_purses s_homes) ++ ([(q_r, .inl (cI, 864, .inl r))])) := hD
  refine lv_aload_n hx hb dX3_takeFrom_21 rfl (lv_at hl 1 rfl) ?_
  refine lv_iload_n hx hb dX3_takeFrom_22 rfl (lv_at hl 2 rfl) ?_
  refine lv_iconst (v := 1) hx hb dX3_takeFrom_23 (by decide) ?_
  refine lv_iadd hx hb dX3_takeFrom_24 ?_
  refine lv_bipush (v := 15) hx hb dX3_takeFrom_25 (by decide) ?_
  refine lv_iadd hx hb dX3_takeFrom_27 ?_
  refine lv_aload_n hx hb dX3_takeFrom_28 rfl (lv_at hl 0 rfl) ?_
  refine va_get (D := (dC, dI)) (ci := 3) (v := .ref q_s_holders) (C := RX3) (T := TX3) (N := 11) hx hb hts w_1 hown hK hP 0 rfl rfl 7 (by decide) w_7 (fun _ h9 => h9) rfl dX3_takeFrom_29 ?_
  refine lv_iconst (v := 0) hx hb dX3_takeFrom_32 (by decide) ?_
  refine lv_bipush (v := 15) hx hb dX3_takeFrom_33 (by decide) ?_
  obtain ⟨⟨b_3, e_3, g_3, i_3, j_3⟩, h⟩ := chk_of h
  refine va_copyi hx hb (hml.trans hl.1.symm) hown w_3 w_4 w_5 w_6 hK hP hD hS 6 2 0 0 rfl rfl rfl rfl rfl b_3 e_3 g_3 i_3 j_3 (fun _ _ => rfl) (Nat.le_of_ble_eq_true rfl) (Nat.le_of_ble_eq_true rfl) dX3_takeFrom_35 (fun H locs hP hD hS => ?_)
  have hP : va_P (dC, dI) vwCl ((W_Isle cI cZ q_s q_s_heights q_s_holders q_s_kinds q_s_purses q_s_homes s_told s_low s_high s_price (r v2.toNatClampNeg) s_bidders (va_cpy r s_heights (v2 + 1).toNatClampNeg (0 : Int32).toNatClampNeg (15 : Int32).toNatClampNeg) (va_cpy r s_holders ((v2 + 1) + 15).toNatClampNeg (0 : Int32).toNatClampNeg (15 : Int32).toNatClampNeg) s_kinds s_purses s_homes) ++ ([(q_r, .inl (cI, 864, .inl r))])) H := hP
  have hD : va_D A ((W_Isle cI cZ q_s q_s_heights q_s_holders q_s_kinds q_s_purses q_s_homes s_told s_low s_high s_price (r v2.toNatClampNeg) s_bidders (va_cpy r s_heights (v2 + 1).toNatClampNeg (0 : Int32).toNatClampNeg (15 : Int32).toNatClampNeg) (va_cpy r s_holders ((v2 + 1) + 15).toNatClampNeg (0 : Int32).toNatClampNeg (15 : Int32).toNatClampNeg) s_kinds s_purses s_homes) ++ ([(q_r, .inl (cI, 864, .inl r))])) := hD
  refine lv_aload_n hx hb dX3_takeFrom_38 rfl (lv_at hl 1 rfl) ?_
  refine lv_iload_n hx hb dX3_takeFrom_39 rfl (lv_at hl 2 rfl) ?_
  refine lv_iconst (v := 1) hx hb dX3_takeFrom_40 (by decide) ?_
  refine lv_iadd hx hb dX3_takeFrom_41 ?_
  refine lv_bipush (v := 30) hx hb dX3_takeFrom_42 (by decide) ?_
  refine lv_iadd hx hb dX3_takeFrom_44 ?_
  refine lv_aload_n hx hb dX3_takeFrom_45 rfl (lv_at hl 0 rfl) ?_
  refine va_get (D := (dC, dI)) (ci := 3) (v := .ref q_s_purses) (C := RX3) (T := TX3) (N := 11) hx hb hts w_1 hown hK hP 0 rfl rfl 9 (by decide) w_8 (fun _ h9 => h9) rfl dX3_takeFrom_46 ?_
  refine lv_iconst (v := 0) hx hb dX3_takeFrom_49 (by decide) ?_
  refine lv_iconst (v := 5) hx hb dX3_takeFrom_50 (by decide) ?_
  obtain ⟨⟨b_4, e_4, g_4, i_4, j_4⟩, h⟩ := chk_of h
  refine va_copyi hx hb (hml.trans hl.1.symm) hown w_3 w_4 w_5 w_6 hK hP hD hS 6 4 0 0 rfl rfl rfl rfl rfl b_4 e_4 g_4 i_4 j_4 (fun _ _ => rfl) (Nat.le_of_ble_eq_true rfl) (Nat.le_of_ble_eq_true rfl) dX3_takeFrom_51 (fun H locs hP hD hS => ?_)
  have hP : va_P (dC, dI) vwCl ((W_Isle cI cZ q_s q_s_heights q_s_holders q_s_kinds q_s_purses q_s_homes s_told s_low s_high s_price (r v2.toNatClampNeg) s_bidders (va_cpy r s_heights (v2 + 1).toNatClampNeg (0 : Int32).toNatClampNeg (15 : Int32).toNatClampNeg) (va_cpy r s_holders ((v2 + 1) + 15).toNatClampNeg (0 : Int32).toNatClampNeg (15 : Int32).toNatClampNeg) s_kinds (va_cpy r s_purses ((v2 + 1) + 30).toNatClampNeg (0 : Int32).toNatClampNeg (5 : Int32).toNatClampNeg) s_homes) ++ ([(q_r, .inl (cI, 864, .inl r))])) H := hP
  have hD : va_D A ((W_Isle cI cZ q_s q_s_heights q_s_holders q_s_kinds q_s_purses q_s_homes s_told s_low s_high s_price (r v2.toNatClampNeg) s_bidders (va_cpy r s_heights (v2 + 1).toNatClampNeg (0 : Int32).toNatClampNeg (15 : Int32).toNatClampNeg) (va_cpy r s_holders ((v2 + 1) + 15).toNatClampNeg (0 : Int32).toNatClampNeg (15 : Int32).toNatClampNeg) s_kinds (va_cpy r s_purses ((v2 + 1) + 30).toNatClampNeg (0 : Int32).toNatClampNeg (5 : Int32).toNatClampNeg) s_homes) ++ ([(q_r, .inl (cI, 864, .inl r))])) := hD
  have h := Option.some.inj h
  subst h
  rw [hQQ]
  subst hAe
  exact W.vret hx hb hr (fun t ht hW => ⟨⟨(), rfl, trivial, by rw [ht]; exact hP, va_K.moved hW.alike hK, hD⟩, hS.F ht⟩) hS.2.2 dX3_takeFrom_54
def fX3_isTold (s_told : Int32) : Option (Int32) :=
  chk (s_told = 0 ∨ s_told = 1) (some (s_told))
abbrev rmX3_isTold : Room := { frames := 0, cells := 0, slots := 0, locals := 0 }
theorem ddX3_isTold : yX3_isTold.cls ≠ "java/lang/invoke/MethodHandle" ∧ yX3_isTold.cls ≠ "java/lang/invoke/VarHandle" ∧ (parseMethodDescriptor yX3_isTold.desc).map (fun d => d.parameters.length) = some 0 := by decide +kernel
set_option maxHeartbeats 4000000 in
set_option maxRecDepth 100000 in
theorem m_X3_isTold (l : Launch) (dC : Nat → ClassId) (dI : Nat → Nat → Nat) (cI cZ : ClassId) (q_s q_s_heights q_s_holders q_s_kinds q_s_purses q_s_homes : Nat) (s_told : Int32) (s_low : Int32) (s_high : Int32) (s_price : Int32) (s_hour : Int32) (s_bidders : Int32) (s_heights : (Nat → Int32)) (s_holders : (Nat → Int32)) (s_kinds : (Nat → Int32)) (s_purses : (Nat → Int32)) (s_homes : (Nat → Int32)) (res : Int32) (hf : fX3_isTold s_told = some res) : Met l yX3_isTold wsX3_isTold rmX3_isTold (rdPc (dC, dI) (tyZ cI cZ) ((W_Isle cI cZ q_s q_s_heights q_s_holders q_s_kinds q_s_purses q_s_homes s_told s_low s_high s_price s_hour s_bidders s_heights s_holders s_kinds s_purses s_homes)) [.ref q_s]) (rdQ res) 0 0 (fun _ => False) := by
  refine Met.ofW (cc := cX3_isTold) (maxL := 1) (ret := (some .boolean)) (by decide) rfl ?_
  intro p e s m args below meth c s₁ B hml hv
  obtain ⟨rfl, hP, hK⟩ := hv
  have hx := B.exec
  have hb := B.bytes
  have hr := B.returns
  have hts := atoms_spec (ws := wsX3_isTold) B.pre
  have hown : s.vm.findClass RX3 = some m.cls := findClass_of_methodNamed B.named
  have hlocks := B.notSynchronized
  have hl := lv_entry ([.ref q_s]) (n := 1) (Nat.le_of_ble_eq_true rfl)
  rw [lg_entry_eq]
  generalize (lg_sl ([.ref q_s]) ++ List.replicate (1 - (lg_sl ([.ref q_s])).length) Slot.unset).toArray = ls at hl ⊢
  have hl : lv_has ls 1 [(0, .ref q_s)] := hl
  obtain ⟨QQ, hQQ⟩ : ∃ Q, Q = MQ below (rdQ res) ([.ref q_s] : List Value).toArray s 0 0 (fun _ => False) := ⟨_, rfl⟩
  rw [← hQQ]
  have w_0 := hts (Cond.fieldLink RX3 30 "TideInches$Isle" "told" "Z") (List.mem_of_getElem? (i := 1) rfl)
  have w_1 := (fun w hw => List.mem_cons_of_mem _ (List.mem_append_right _ hw) : ∀ w ∈ wsX30, w ∈ wsX3_isTold)
  have h := hf
  unfold fX3_isTold at h
  refine lv_aload_n hx hb dX3_isTold_0 rfl (lv_at hl 0 rfl) ?_
  refine va_get (D := (dC, dI)) (ci := 3) (v := .int s_told) (C := RX3) (T := TX3) (N := 11) hx hb hts w_1 hown hK hP 0 rfl rfl 0 (by decide) w_0 (fun _ h9 => h9) rfl dX3_isTold_1 ?_
  obtain ⟨b_1, h⟩ := chk_of h
  rw [hQQ]
  exact W.zret (v := s_told) (ty := .boolean) hx hb hr (zb_nar b_1) (fun t ht hW => ⟨_, rfl, Option.some.inj h, ht⟩) (fun q hq => by cases hq) dX3_isTold_4
def fX3_hour (s_hour : Int32) : Option (Int32) :=
  some (s_hour)
abbrev rmX3_hour : Room := { frames := 0, cells := 0, slots := 0, locals := 0 }
theorem ddX3_hour : yX3_hour.cls ≠ "java/lang/invoke/MethodHandle" ∧ yX3_hour.cls ≠ "java/lang/invoke/VarHandle" ∧ (parseMethodDescriptor yX3_hour.desc).map (fun d => d.parameters.length) = some 0 := by decide +kernel
set_option maxHeartbeats 4000000 in
set_option maxRecDepth 100000 in
theorem m_X3_hour (l : Launch) (dC : Nat → ClassId) (dI : Nat → Nat → Nat) (cI cZ : ClassId) (q_s q_s_heights q_s_holders q_s_kinds q_s_purses q_s_homes : Nat) (s_told : Int32) (s_low : Int32) (s_high : Int32) (s_price : Int32) (s_hour : Int32) (s_bidders : Int32) (s_heights : (Nat → Int32)) (s_holders : (Nat → Int32)) (s_kinds : (Nat → Int32)) (s_purses : (Nat → Int32)) (s_homes : (Nat → Int32)) (res : Int32) (hf : fX3_hour s_hour = some res) : Met l yX3_hour wsX3_hour rmX3_hour (rdPc (dC, dI) (tyZ cI cZ) ((W_Isle cI cZ q_s q_s_heights q_s_holders q_s_kinds q_s_purses q_s_homes s_told s_low s_high s_price s_hour s_bidders s_heights s_holders s_kinds s_purses s_homes)) [.ref q_s]) (rdQ res) 0 0 (fun _ => False) := by
  refine Met.ofW (cc := cX3_hour) (maxL := 1) (ret := (some .int)) (by decide) rfl ?_
  intro p e s m args below meth c s₁ B hml hv
  obtain ⟨rfl, hP, hK⟩ := hv
  have hx := B.exec
  have hb := B.bytes
  have hr := B.returns
  have hts := atoms_spec (ws := wsX3_hour) B.pre
  have hown : s.vm.findClass RX3 = some m.cls := findClass_of_methodNamed B.named
  have hlocks := B.notSynchronized
  have hl := lv_entry ([.ref q_s]) (n := 1) (Nat.le_of_ble_eq_true rfl)
  rw [lg_entry_eq]
  generalize (lg_sl ([.ref q_s]) ++ List.replicate (1 - (lg_sl ([.ref q_s])).length) Slot.unset).toArray = ls at hl ⊢
  have hl : lv_has ls 1 [(0, .ref q_s)] := hl
  obtain ⟨QQ, hQQ⟩ : ∃ Q, Q = MQ below (rdQ res) ([.ref q_s] : List Value).toArray s 0 0 (fun _ => False) := ⟨_, rfl⟩
  rw [← hQQ]
  have w_0 := hts (Cond.fieldLink RX3 34 "TideInches$Isle" "hour" "I") (List.mem_of_getElem? (i := 1) rfl)
  have w_1 := (fun w hw => List.mem_cons_of_mem _ (List.mem_append_right _ hw) : ∀ w ∈ wsX30, w ∈ wsX3_hour)
  have h := hf
  unfold fX3_hour at h
  refine lv_aload_n hx hb dX3_hour_0 rfl (lv_at hl 0 rfl) ?_
  refine va_get (D := (dC, dI)) (ci := 3) (v := .int s_hour) (C := RX3) (T := TX3) (N := 11) hx hb hts w_1 hown hK hP 0 rfl rfl 4 (by decide) w_0 (fun _ h9 => h9) rfl dX3_hour_1 ?_
  rw [hQQ]
  exact W.iret (v := s_hour) hx hb hr (fun t ht hW => ⟨_, rfl, Option.some.inj h, ht⟩) (fun q hq => by cases hq) dX3_hour_4
def fX3_priceTold (s_price : Int32) : Option (Int32) :=
  some (s_price)
abbrev rmX3_priceTold : Room := { frames := 0, cells := 0, slots := 0, locals := 0 }
theorem ddX3_priceTold : yX3_priceTold.cls ≠ "java/lang/invoke/MethodHandle" ∧ yX3_priceTold.cls ≠ "java/lang/invoke/VarHandle" ∧ (parseMethodDescriptor yX3_priceTold.desc).map (fun d => d.parameters.length) = some 0 := by decide +kernel
set_option maxHeartbeats 4000000 in
set_option maxRecDepth 100000 in
theorem m_X3_priceTold (l : Launch) (dC : Nat → ClassId) (dI : Nat → Nat → Nat) (cI cZ : ClassId) (q_s q_s_heights q_s_holders q_s_kinds q_s_purses q_s_homes : Nat) (s_told : Int32) (s_low : Int32) (s_high : Int32) (s_price : Int32) (s_hour : Int32) (s_bidders : Int32) (s_heights : (Nat → Int32)) (s_holders : (Nat → Int32)) (s_kinds : (Nat → Int32)) (s_purses : (Nat → Int32)) (s_homes : (Nat → Int32)) (res : Int32) (hf : fX3_priceTold s_price = some res) : Met l yX3_priceTold wsX3_priceTold rmX3_priceTold (rdPc (dC, dI) (tyZ cI cZ) ((W_Isle cI cZ q_s q_s_heights q_s_holders q_s_kinds q_s_purses q_s_homes s_told s_low s_high s_price s_hour s_bidders s_heights s_holders s_kinds s_purses s_homes)) [.ref q_s]) (rdQ res) 0 0 (fun _ => False) := by
  refine Met.ofW (cc := cX3_priceTold) (maxL := 1) (ret := (some .int)) (by decide) rfl ?_
  intro p e s m args below meth c s₁ B hml hv
  obtain ⟨rfl, hP, hK⟩ := hv
  have hx := B.exec
  have hb := B.bytes
  have hr := B.returns
  have hts := atoms_spec (ws := wsX3_priceTold) B.pre
  have hown : s.vm.findClass RX3 = some m.cls := findClass_of_methodNamed B.named
  have hlocks := B.notSynchronized
  have hl := lv_entry ([.ref q_s]) (n := 1) (Nat.le_of_ble_eq_true rfl)
  rw [lg_entry_eq]
  generalize (lg_sl ([.ref q_s]) ++ List.replicate (1 - (lg_sl ([.ref q_s])).length) Slot.unset).toArray = ls at hl ⊢
  have hl : lv_has ls 1 [(0, .ref q_s)] := hl
  obtain ⟨QQ, hQQ⟩ : ∃ Q, Q = MQ below (rdQ res) ([.ref q_s] : List Value).toArray s 0 0 (fun _ => False) := ⟨_, rfl⟩
  rw [← hQQ]
  have w_0 := hts (Cond.fieldLink RX3 47 "TideInches$Isle" "price" "I") (List.mem_of_getElem? (i := 1) rfl)
  have w_1 := (fun w hw => List.mem_cons_of_mem _ (List.mem_append_right _ hw) : ∀ w ∈ wsX30, w ∈ wsX3_priceTold)
  have h := hf
  unfold fX3_priceTold at h
  refine lv_aload_n hx hb dX3_priceTold_0 rfl (lv_at hl 0 rfl) ?_
  refine va_get (D := (dC, dI)) (ci := 3) (v := .int s_price) (C := RX3) (T := TX3) (N := 11) hx hb hts w_1 hown hK hP 0 rfl rfl 3 (by decide) w_0 (fun _ h9 => h9) rfl dX3_priceTold_1 ?_
  rw [hQQ]
  exact W.iret (v := s_price) hx hb hr (fun t ht hW => ⟨_, rfl, Option.some.inj h, ht⟩) (fun q hq => by cases hq) dX3_priceTold_4
def fX3_bidders (s_bidders : Int32) : Option (Int32) :=
  some (s_bidders)
abbrev rmX3_bidders : Room := { frames := 0, cells := 0, slots := 0, locals := 0 }
theorem ddX3_bidders : yX3_bidders.cls ≠ "java/lang/invoke/MethodHandle" ∧ yX3_bidders.cls ≠ "java/lang/invoke/VarHandle" ∧ (parseMethodDescriptor yX3_bidders.desc).map (fun d => d.parameters.length) = some 0 := by decide +kernel
set_option maxHeartbeats 4000000 in
set_option maxRecDepth 100000 in
theorem m_X3_bidders (l : Launch) (dC : Nat → ClassId) (dI : Nat → Nat → Nat) (cI cZ : ClassId) (q_s q_s_heights q_s_holders q_s_kinds q_s_purses q_s_homes : Nat) (s_told : Int32) (s_low : Int32) (s_high : Int32) (s_price : Int32) (s_hour : Int32) (s_bidders : Int32) (s_heights : (Nat → Int32)) (s_holders : (Nat → Int32)) (s_kinds : (Nat → Int32)) (s_purses : (Nat → Int32)) (s_homes : (Nat → Int32)) (res : Int32) (hf : fX3_bidders s_bidders = some res) : Met l yX3_bidders wsX3_bidders rmX3_bidders (rdPc (dC, dI) (tyZ cI cZ) ((W_Isle cI cZ q_s q_s_heights q_s_holders q_s_kinds q_s_purses q_s_homes s_told s_low s_high s_price s_hour s_bidders s_heights s_holders s_kinds s_purses s_homes)) [.ref q_s]) (rdQ res) 0 0 (fun _ => False) := by
  refine Met.ofW (cc := cX3_bidders) (maxL := 1) (ret := (some .int)) (by decide) rfl ?_
  intro p e s m args below meth c s₁ B hml hv
  obtain ⟨rfl, hP, hK⟩ := hv
  have hx := B.exec
  have hb := B.bytes
  have hr := B.returns
  have hts := atoms_spec (ws := wsX3_bidders) B.pre
  have hown : s.vm.findClass RX3 = some m.cls := findClass_of_methodNamed B.named
  have hlocks := B.notSynchronized
  have hl := lv_entry ([.ref q_s]) (n := 1) (Nat.le_of_ble_eq_true rfl)
  rw [lg_entry_eq]
  generalize (lg_sl ([.ref q_s]) ++ List.replicate (1 - (lg_sl ([.ref q_s])).length) Slot.unset).toArray = ls at hl ⊢
  have hl : lv_has ls 1 [(0, .ref q_s)] := hl
  obtain ⟨QQ, hQQ⟩ : ∃ Q, Q = MQ below (rdQ res) ([.ref q_s] : List Value).toArray s 0 0 (fun _ => False) := ⟨_, rfl⟩
  rw [← hQQ]
  have w_0 := hts (Cond.fieldLink RX3 38 "TideInches$Isle" "bidders" "I") (List.mem_of_getElem? (i := 1) rfl)
  have w_1 := (fun w hw => List.mem_cons_of_mem _ (List.mem_append_right _ hw) : ∀ w ∈ wsX30, w ∈ wsX3_bidders)
  have h := hf
  unfold fX3_bidders at h
  refine lv_aload_n hx hb dX3_bidders_0 rfl (lv_at hl 0 rfl) ?_
  refine va_get (D := (dC, dI)) (ci := 3) (v := .int s_bidders) (C := RX3) (T := TX3) (N := 11) hx hb hts w_1 hown hK hP 0 rfl rfl 5 (by decide) w_0 (fun _ h9 => h9) rfl dX3_bidders_1 ?_
  rw [hQQ]
  exact W.iret (v := s_bidders) hx hb hr (fun t ht hW => ⟨_, rfl, Option.some.inj h, ht⟩) (fun q hq => by cases hq) dX3_bidders_4
def fX3_hasBidder (s_bidders : Int32) (v1 : Int32) : Option (Int32) :=
  (if v1 < 0 then some (0) else (if s_bidders ≤ v1 then some (0) else some (1)))
abbrev rmX3_hasBidder : Room := { frames := 0, cells := 0, slots := 0, locals := 0 }
theorem ddX3_hasBidder : yX3_hasBidder.cls ≠ "java/lang/invoke/MethodHandle" ∧ yX3_hasBidder.cls ≠ "java/lang/invoke/VarHandle" ∧ (parseMethodDescriptor yX3_hasBidder.desc).map (fun d => d.parameters.length) = some 1 := by decide +kernel
set_option maxHeartbeats 4000000 in
set_option maxRecDepth 100000 in
theorem m_X3_hasBidder (l : Launch) (dC : Nat → ClassId) (dI : Nat → Nat → Nat) (cI cZ : ClassId) (q_s q_s_heights q_s_holders q_s_kinds q_s_purses q_s_homes : Nat) (s_told : Int32) (s_low : Int32) (s_high : Int32) (s_price : Int32) (s_hour : Int32) (s_bidders : Int32) (s_heights : (Nat → Int32)) (s_holders : (Nat → Int32)) (s_kinds : (Nat → Int32)) (s_purses : (Nat → Int32)) (s_homes : (Nat → Int32)) (v1 : Int32) (res : Int32) (hf : fX3_hasBidder s_bidders v1 = some res) : Met l yX3_hasBidder wsX3_hasBidder rmX3_hasBidder (rdPc (dC, dI) (tyZ cI cZ) ((W_Isle cI cZ q_s q_s_heights q_s_holders q_s_kinds q_s_purses q_s_homes s_told s_low s_high s_price s_hour s_bidders s_heights s_holders s_kinds s_purses s_homes)) [.ref q_s, .int v1]) (rdQ res) 0 0 (fun _ => False) := by
  refine Met.ofW (cc := cX3_hasBidder) (maxL := 2) (ret := (some .boolean)) (by decide) rfl ?_
  intro p e s m args below meth c s₁ B hml hv
  obtain ⟨rfl, hP, hK⟩ := hv
  have hx := B.exec
  have hb := B.bytes
  have hr := B.returns
  have hts := atoms_spec (ws := wsX3_hasBidder) B.pre
  have hown : s.vm.findClass RX3 = some m.cls := findClass_of_methodNamed B.named
  have hlocks := B.notSynchronized
  have hl := lv_entry ([.ref q_s, .int v1]) (n := 2) (Nat.le_of_ble_eq_true rfl)
  rw [lg_entry_eq]
  generalize (lg_sl ([.ref q_s, .int v1]) ++ List.replicate (2 - (lg_sl ([.ref q_s, .int v1])).length) Slot.unset).toArray = ls at hl ⊢
  have hl : lv_has ls 2 [(0, .ref q_s), (1, .int v1)] := hl
  obtain ⟨QQ, hQQ⟩ : ∃ Q, Q = MQ below (rdQ res) ([.ref q_s, .int v1] : List Value).toArray s 0 0 (fun _ => False) := ⟨_, rfl⟩
  rw [← hQQ]
  have w_0 := hts (Cond.fieldLink RX3 38 "TideInches$Isle" "bidders" "I") (List.mem_of_getElem? (i := 1) rfl)
  have w_1 := (fun w hw => List.mem_cons_of_mem _ (List.mem_append_right _ hw) : ∀ w ∈ wsX30, w ∈ wsX3_hasBidder)
  have h := hf
  unfold fX3_hasBidder at h
  refine lv_iload_n hx hb dX3_hasBidder_0 rfl (lv_at hl 1 rfl) ?_
  refine lv_if_lt (tgt := 16) hx hb dX3_hasBidder_1 (by decide) (fun c_1 => ?_) (fun c_1 => ?_)
  · have h := (if_pos c_1).symm.trans h
    refine lv_iconst (v := 0) hx hb dX3_hasBidder_16 (by decide) ?_
    rw [hQQ]
    exact W.zret (v := 0) (ty := .boolean) hx hb hr rfl (fun t ht hW => ⟨_, rfl, Option.some.inj h, ht⟩) (fun q hq => by cases hq) dX3_hasBidder_17
  · have h := (if_neg c_1).symm.trans h
    refine lv_iload_n hx hb dX3_hasBidder_4 rfl (lv_at hl 1 rfl) ?_
    refine lv_aload_n hx hb dX3_hasBidder_5 rfl (lv_at hl 0 rfl) ?_
    refine va_get (D := (dC, dI)) (ci := 3) (v := .int s_bidders) (C := RX3) (T := TX3) (N := 11) hx hb hts w_1 hown hK hP 0 rfl rfl 5 (by decide) w_0 (fun _ h9 => h9) rfl dX3_hasBidder_6 ?_
    refine lv_icmp_ge (tgt := 16) hx hb dX3_hasBidder_9 (by decide) (fun c_2 => ?_) (fun c_2 => ?_)
    · have h := (if_pos c_2).symm.trans h
      refine lv_iconst (v := 0) hx hb dX3_hasBidder_16 (by decide) ?_
      rw [hQQ]
      exact W.zret (v := 0) (ty := .boolean) hx hb hr rfl (fun t ht hW => ⟨_, rfl, Option.some.inj h, ht⟩) (fun q hq => by cases hq) dX3_hasBidder_17
    · have h := (if_neg c_2).symm.trans h
      refine lv_iconst (v := 1) hx hb dX3_hasBidder_12 (by decide) ?_
      refine lv_goto (tgt := 17) hx hb dX3_hasBidder_13 (by decide) ?_
      rw [hQQ]
      exact W.zret (v := 1) (ty := .boolean) hx hb hr rfl (fun t ht hW => ⟨_, rfl, Option.some.inj h, ht⟩) (fun q hq => by cases hq) dX3_hasBidder_17
def fX3_kindOf (s_kinds : (Nat → Int32)) (v1 : Int32) : Option (Int32) :=
  chk (¬ (v1 < 0 ∨ 5 ≤ v1.toNatClampNeg)) (some ((s_kinds v1.toNatClampNeg)))
abbrev rmX3_kindOf : Room := { frames := 0, cells := 0, slots := 0, locals := 0 }
theorem ddX3_kindOf : yX3_kindOf.cls ≠ "java/lang/invoke/MethodHandle" ∧ yX3_kindOf.cls ≠ "java/lang/invoke/VarHandle" ∧ (parseMethodDescriptor yX3_kindOf.desc).map (fun d => d.parameters.length) = some 1 := by decide +kernel
set_option maxHeartbeats 4000000 in
set_option maxRecDepth 100000 in
theorem m_X3_kindOf (l : Launch) (dC : Nat → ClassId) (dI : Nat → Nat → Nat) (cI cZ : ClassId) (q_s q_s_heights q_s_holders q_s_kinds q_s_purses q_s_homes : Nat) (s_told : Int32) (s_low : Int32) (s_high : Int32) (s_price : Int32) (s_hour : Int32) (s_bidders : Int32) (s_heights : (Nat → Int32)) (s_holders : (Nat → Int32)) (s_kinds : (Nat → Int32)) (s_purses : (Nat → Int32)) (s_homes : (Nat → Int32)) (v1 : Int32) (res : Int32) (hf : fX3_kindOf s_kinds v1 = some res) : Met l yX3_kindOf wsX3_kindOf rmX3_kindOf (rdPc (dC, dI) (tyZ cI cZ) ((W_Isle cI cZ q_s q_s_heights q_s_holders q_s_kinds q_s_purses q_s_homes s_told s_low s_high s_price s_hour s_bidders s_heights s_holders s_kinds s_purses s_homes)) [.ref q_s, .int v1]) (rdQ res) 0 0 (fun _ => False) := by
  refine Met.ofW (cc := cX3_kindOf) (maxL := 2) (ret := (some .int)) (by decide) rfl ?_
  intro p e s m args below meth c s₁ B hml hv
  obtain ⟨rfl, hP, hK⟩ := hv
  have hx := B.exec
  have hb := B.bytes
  have hr := B.returns
  have hts := atoms_spec (ws := wsX3_kindOf) B.pre
  have hown : s.vm.findClass RX3 = some m.cls := findClass_of_methodNamed B.named
  have hlocks := B.notSynchronized
  have hl := lv_entry ([.ref q_s, .int v1]) (n := 2) (Nat.le_of_ble_eq_true rfl)
  rw [lg_entry_eq]
  generalize (lg_sl ([.ref q_s, .int v1]) ++ List.replicate (2 - (lg_sl ([.ref q_s, .int v1])).length) Slot.unset).toArray = ls at hl ⊢
  have hl : lv_has ls 2 [(0, .ref q_s), (1, .int v1)] := hl
  obtain ⟨QQ, hQQ⟩ : ∃ Q, Q = MQ below (rdQ res) ([.ref q_s, .int v1] : List Value).toArray s 0 0 (fun _ => False) := ⟨_, rfl⟩
  rw [← hQQ]
  have w_0 := hts (Cond.fieldLink RX3 18 "TideInches$Isle" "kinds" "[I") (List.mem_of_getElem? (i := 1) rfl)
  have w_1 := (fun w hw => List.mem_cons_of_mem _ (List.mem_append_right _ hw) : ∀ w ∈ wsX30, w ∈ wsX3_kindOf)
  have h := hf
  unfold fX3_kindOf at h
  refine lv_aload_n hx hb dX3_kindOf_0 rfl (lv_at hl 0 rfl) ?_
  refine va_get (D := (dC, dI)) (ci := 3) (v := .ref q_s_kinds) (C := RX3) (T := TX3) (N := 11) hx hb hts w_1 hown hK hP 0 rfl rfl 8 (by decide) w_0 (fun _ h9 => h9) rfl dX3_kindOf_1 ?_
  refine lv_iload_n hx hb dX3_kindOf_4 rfl (lv_at hl 1 rfl) ?_
  obtain ⟨b_1, h⟩ := chk_of h
  refine va_iald hx hb hK hP 3 0 rfl rfl (i := v1) b_1 dX3_kindOf_5 ?_
  rw [hQQ]
  exact W.iret (v := (s_kinds v1.toNatClampNeg)) hx hb hr (fun t ht hW => ⟨_, rfl, Option.some.inj h, ht⟩) (fun q hq => by cases hq) dX3_kindOf_6
def fX3_purse (s_purses : (Nat → Int32)) (v1 : Int32) : Option (Int32) :=
  chk (¬ (v1 < 0 ∨ 5 ≤ v1.toNatClampNeg)) (some ((s_purses v1.toNatClampNeg)))
abbrev rmX3_purse : Room := { frames := 0, cells := 0, slots := 0, locals := 0 }
theorem ddX3_purse : yX3_purse.cls ≠ "java/lang/invoke/MethodHandle" ∧ yX3_purse.cls ≠ "java/lang/invoke/VarHandle" ∧ (parseMethodDescriptor yX3_purse.desc).map (fun d => d.parameters.length) = some 1 := by decide +kernel
set_option maxHeartbeats 4000000 in
set_option maxRecDepth 100000 in
theorem m_X3_purse (l : Launch) (dC : Nat → ClassId) (dI : Nat → Nat → Nat) (cI cZ : ClassId) (q_s q_s_heights q_s_holders q_s_kinds q_s_purses q_s_homes : Nat) (s_told : Int32) (s_low : Int32) (s_high : Int32) (s_price : Int32) (s_hour : Int32) (s_bidders : Int32) (s_heights : (Nat → Int32)) (s_holders : (Nat → Int32)) (s_kinds : (Nat → Int32)) (s_purses : (Nat → Int32)) (s_homes : (Nat → Int32)) (v1 : Int32) (res : Int32) (hf : fX3_purse s_purses v1 = some res) : Met l yX3_purse wsX3_purse rmX3_purse (rdPc (dC, dI) (tyZ cI cZ) ((W_Isle cI cZ q_s q_s_heights q_s_holders q_s_kinds q_s_purses q_s_homes s_told s_low s_high s_price s_hour s_bidders s_heights s_holders s_kinds s_purses s_homes)) [.ref q_s, .int v1]) (rdQ res) 0 0 (fun _ => False) := by
  refine Met.ofW (cc := cX3_purse) (maxL := 2) (ret := (some .int)) (by decide) rfl ?_
  intro p e s m args below meth c s₁ B hml hv
  obtain ⟨rfl, hP, hK⟩ := hv
  have hx := B.exec
  have hb := B.bytes
  have hr := B.returns
  have hts := atoms_spec (ws := wsX3_purse) B.pre
  have hown : s.vm.findClass RX3 = some m.cls := findClass_of_methodNamed B.named
  have hlocks := B.notSynchronized
  have hl := lv_entry ([.ref q_s, .int v1]) (n := 2) (Nat.le_of_ble_eq_true rfl)
  rw [lg_entry_eq]
  generalize (lg_sl ([.ref q_s, .int v1]) ++ List.replicate (2 - (lg_sl ([.ref q_s, .int v1])).length) Slot.unset).toArray = ls at hl ⊢
  have hl : lv_has ls 2 [(0, .ref q_s), (1, .int v1)] := hl
  obtain ⟨QQ, hQQ⟩ : ∃ Q, Q = MQ below (rdQ res) ([.ref q_s, .int v1] : List Value).toArray s 0 0 (fun _ => False) := ⟨_, rfl⟩
  rw [← hQQ]
  have w_0 := hts (Cond.fieldLink RX3 21 "TideInches$Isle" "purses" "[I") (List.mem_of_getElem? (i := 1) rfl)
  have w_1 := (fun w hw => List.mem_cons_of_mem _ (List.mem_append_right _ hw) : ∀ w ∈ wsX30, w ∈ wsX3_purse)
  have h := hf
  unfold fX3_purse at h
  refine lv_aload_n hx hb dX3_purse_0 rfl (lv_at hl 0 rfl) ?_
  refine va_get (D := (dC, dI)) (ci := 3) (v := .ref q_s_purses) (C := RX3) (T := TX3) (N := 11) hx hb hts w_1 hown hK hP 0 rfl rfl 9 (by decide) w_0 (fun _ h9 => h9) rfl dX3_purse_1 ?_
  refine lv_iload_n hx hb dX3_purse_4 rfl (lv_at hl 1 rfl) ?_
  obtain ⟨b_1, h⟩ := chk_of h
  refine va_iald hx hb hK hP 4 0 rfl rfl (i := v1) b_1 dX3_purse_5 ?_
  rw [hQQ]
  exact W.iret (v := (s_purses v1.toNatClampNeg)) hx hb hr (fun t ht hW => ⟨_, rfl, Option.some.inj h, ht⟩) (fun q hq => by cases hq) dX3_purse_6
def fX3_homeOf (s_homes : (Nat → Int32)) (v1 : Int32) : Option (Int32) :=
  chk (¬ (v1 < 0 ∨ 5 ≤ v1.toNatClampNeg)) (some ((s_homes v1.toNatClampNeg)))
abbrev rmX3_homeOf : Room := { frames := 0, cells := 0, slots := 0, locals := 0 }
theorem ddX3_homeOf : yX3_homeOf.cls ≠ "java/lang/invoke/MethodHandle" ∧ yX3_homeOf.cls ≠ "java/lang/invoke/VarHandle" ∧ (parseMethodDescriptor yX3_homeOf.desc).map (fun d => d.parameters.length) = some 1 := by decide +kernel
set_option maxHeartbeats 4000000 in
set_option maxRecDepth 100000 in
theorem m_X3_homeOf (l : Launch) (dC : Nat → ClassId) (dI : Nat → Nat → Nat) (cI cZ : ClassId) (q_s q_s_heights q_s_holders q_s_kinds q_s_purses q_s_homes : Nat) (s_told : Int32) (s_low : Int32) (s_high : Int32) (s_price : Int32) (s_hour : Int32) (s_bidders : Int32) (s_heights : (Nat → Int32)) (s_holders : (Nat → Int32)) (s_kinds : (Nat → Int32)) (s_purses : (Nat → Int32)) (s_homes : (Nat → Int32)) (v1 : Int32) (res : Int32) (hf : fX3_homeOf s_homes v1 = some res) : Met l yX3_homeOf wsX3_homeOf rmX3_homeOf (rdPc (dC, dI) (tyZ cI cZ) ((W_Isle cI cZ q_s q_s_heights q_s_holders q_s_kinds q_s_purses q_s_homes s_told s_low s_high s_price s_hour s_bidders s_heights s_holders s_kinds s_purses s_homes)) [.ref q_s, .int v1]) (rdQ res) 0 0 (fun _ => False) := by
  refine Met.ofW (cc := cX3_homeOf) (maxL := 2) (ret := (some .int)) (by decide) rfl ?_
  intro p e s m args below meth c s₁ B hml hv
  obtain ⟨rfl, hP, hK⟩ := hv
  have hx := B.exec
  have hb := B.bytes
  have hr := B.returns
  have hts := atoms_spec (ws := wsX3_homeOf) B.pre
  have hown : s.vm.findClass RX3 = some m.cls := findClass_of_methodNamed B.named
  have hlocks := B.notSynchronized
  have hl := lv_entry ([.ref q_s, .int v1]) (n := 2) (Nat.le_of_ble_eq_true rfl)
  rw [lg_entry_eq]
  generalize (lg_sl ([.ref q_s, .int v1]) ++ List.replicate (2 - (lg_sl ([.ref q_s, .int v1])).length) Slot.unset).toArray = ls at hl ⊢
  have hl : lv_has ls 2 [(0, .ref q_s), (1, .int v1)] := hl
  obtain ⟨QQ, hQQ⟩ : ∃ Q, Q = MQ below (rdQ res) ([.ref q_s, .int v1] : List Value).toArray s 0 0 (fun _ => False) := ⟨_, rfl⟩
  rw [← hQQ]
  have w_0 := hts (Cond.fieldLink RX3 24 "TideInches$Isle" "homes" "[I") (List.mem_of_getElem? (i := 1) rfl)
  have w_1 := (fun w hw => List.mem_cons_of_mem _ (List.mem_append_right _ hw) : ∀ w ∈ wsX30, w ∈ wsX3_homeOf)
  have h := hf
  unfold fX3_homeOf at h
  refine lv_aload_n hx hb dX3_homeOf_0 rfl (lv_at hl 0 rfl) ?_
  refine va_get (D := (dC, dI)) (ci := 3) (v := .ref q_s_homes) (C := RX3) (T := TX3) (N := 11) hx hb hts w_1 hown hK hP 0 rfl rfl 10 (by decide) w_0 (fun _ h9 => h9) rfl dX3_homeOf_1 ?_
  refine lv_iload_n hx hb dX3_homeOf_4 rfl (lv_at hl 1 rfl) ?_
  obtain ⟨b_1, h⟩ := chk_of h
  refine va_iald hx hb hK hP 5 0 rfl rfl (i := v1) b_1 dX3_homeOf_5 ?_
  rw [hQQ]
  exact W.iret (v := (s_homes v1.toNatClampNeg)) hx hb hr (fun t ht hW => ⟨_, rfl, Option.some.inj h, ht⟩) (fun q hq => by cases hq) dX3_homeOf_6
def fX3_height (s_heights : (Nat → Int32)) (v1 : Int32) : Option (Int32) :=
  chk (¬ (v1 < 0 ∨ 15 ≤ v1.toNatClampNeg)) (some ((s_heights v1.toNatClampNeg)))
abbrev rmX3_height : Room := { frames := 0, cells := 0, slots := 0, locals := 0 }
theorem ddX3_height : yX3_height.cls ≠ "java/lang/invoke/MethodHandle" ∧ yX3_height.cls ≠ "java/lang/invoke/VarHandle" ∧ (parseMethodDescriptor yX3_height.desc).map (fun d => d.parameters.length) = some 1 := by decide +kernel
set_option maxHeartbeats 4000000 in
set_option maxRecDepth 100000 in
theorem m_X3_height (l : Launch) (dC : Nat → ClassId) (dI : Nat → Nat → Nat) (cI cZ : ClassId) (q_s q_s_heights q_s_holders q_s_kinds q_s_purses q_s_homes : Nat) (s_told : Int32) (s_low : Int32) (s_high : Int32) (s_price : Int32) (s_hour : Int32) (s_bidders : Int32) (s_heights : (Nat → Int32)) (s_holders : (Nat → Int32)) (s_kinds : (Nat → Int32)) (s_purses : (Nat → Int32)) (s_homes : (Nat → Int32)) (v1 : Int32) (res : Int32) (hf : fX3_height s_heights v1 = some res) : Met l yX3_height wsX3_height rmX3_height (rdPc (dC, dI) (tyZ cI cZ) ((W_Isle cI cZ q_s q_s_heights q_s_holders q_s_kinds q_s_purses q_s_homes s_told s_low s_high s_price s_hour s_bidders s_heights s_holders s_kinds s_purses s_homes)) [.ref q_s, .int v1]) (rdQ res) 0 0 (fun _ => False) := by
  refine Met.ofW (cc := cX3_height) (maxL := 2) (ret := (some .int)) (by decide) rfl ?_
  intro p e s m args below meth c s₁ B hml hv
  obtain ⟨rfl, hP, hK⟩ := hv
  have hx := B.exec
  have hb := B.bytes
  have hr := B.returns
  have hts := atoms_spec (ws := wsX3_height) B.pre
  have hown : s.vm.findClass RX3 = some m.cls := findClass_of_methodNamed B.named
  have hlocks := B.notSynchronized
  have hl := lv_entry ([.ref q_s, .int v1]) (n := 2) (Nat.le_of_ble_eq_true rfl)
  rw [lg_entry_eq]
  generalize (lg_sl ([.ref q_s, .int v1]) ++ List.replicate (2 - (lg_sl ([.ref q_s, .int v1])).length) Slot.unset).toArray = ls at hl ⊢
  have hl : lv_has ls 2 [(0, .ref q_s), (1, .int v1)] := hl
  obtain ⟨QQ, hQQ⟩ : ∃ Q, Q = MQ below (rdQ res) ([.ref q_s, .int v1] : List Value).toArray s 0 0 (fun _ => False) := ⟨_, rfl⟩
  rw [← hQQ]
  have w_0 := hts (Cond.fieldLink RX3 9 "TideInches$Isle" "heights" "[I") (List.mem_of_getElem? (i := 1) rfl)
  have w_1 := (fun w hw => List.mem_cons_of_mem _ (List.mem_append_right _ hw) : ∀ w ∈ wsX30, w ∈ wsX3_height)
  have h := hf
  unfold fX3_height at h
  refine lv_aload_n hx hb dX3_height_0 rfl (lv_at hl 0 rfl) ?_
  refine va_get (D := (dC, dI)) (ci := 3) (v := .ref q_s_heights) (C := RX3) (T := TX3) (N := 11) hx hb hts w_1 hown hK hP 0 rfl rfl 6 (by decide) w_0 (fun _ h9 => h9) rfl dX3_height_1 ?_
  refine lv_iload_n hx hb dX3_height_4 rfl (lv_at hl 1 rfl) ?_
  obtain ⟨b_1, h⟩ := chk_of h
  refine va_iald hx hb hK hP 1 0 rfl rfl (i := v1) b_1 dX3_height_5 ?_
  rw [hQQ]
  exact W.iret (v := (s_heights v1.toNatClampNeg)) hx hb hr (fun t ht hW => ⟨_, rfl, Option.some.inj h, ht⟩) (fun q hq => by cases hq) dX3_height_6
def fX3_holder (s_holders : (Nat → Int32)) (v1 : Int32) : Option (Int32) :=
  chk (¬ (v1 < 0 ∨ 15 ≤ v1.toNatClampNeg)) (some ((s_holders v1.toNatClampNeg)))
abbrev rmX3_holder : Room := { frames := 0, cells := 0, slots := 0, locals := 0 }
theorem ddX3_holder : yX3_holder.cls ≠ "java/lang/invoke/MethodHandle" ∧ yX3_holder.cls ≠ "java/lang/invoke/VarHandle" ∧ (parseMethodDescriptor yX3_holder.desc).map (fun d => d.parameters.length) = some 1 := by decide +kernel
set_option maxHeartbeats 4000000 in
set_option maxRecDepth 100000 in
theorem m_X3_holder (l : Launch) (dC : Nat → ClassId) (dI : Nat → Nat → Nat) (cI cZ : ClassId) (q_s q_s_heights q_s_holders q_s_kinds q_s_purses q_s_homes : Nat) (s_told : Int32) (s_low : Int32) (s_high : Int32) (s_price : Int32) (s_hour : Int32) (s_bidders : Int32) (s_heights : (Nat → Int32)) (s_holders : (Nat → Int32)) (s_kinds : (Nat → Int32)) (s_purses : (Nat → Int32)) (s_homes : (Nat → Int32)) (v1 : Int32) (res : Int32) (hf : fX3_holder s_holders v1 = some res) : Met l yX3_holder wsX3_holder rmX3_holder (rdPc (dC, dI) (tyZ cI cZ) ((W_Isle cI cZ q_s q_s_heights q_s_holders q_s_kinds q_s_purses q_s_homes s_told s_low s_high s_price s_hour s_bidders s_heights s_holders s_kinds s_purses s_homes)) [.ref q_s, .int v1]) (rdQ res) 0 0 (fun _ => False) := by
  refine Met.ofW (cc := cX3_holder) (maxL := 2) (ret := (some .int)) (by decide) rfl ?_
  intro p e s m args below meth c s₁ B hml hv
  obtain ⟨rfl, hP, hK⟩ := hv
  have hx := B.exec
  have hb := B.bytes
  have hr := B.returns
  have hts := atoms_spec (ws := wsX3_holder) B.pre
  have hown : s.vm.findClass RX3 = some m.cls := findClass_of_methodNamed B.named
  have hlocks := B.notSynchronized
  have hl := lv_entry ([.ref q_s, .int v1]) (n := 2) (Nat.le_of_ble_eq_true rfl)
  rw [lg_entry_eq]
  generalize (lg_sl ([.ref q_s, .int v1]) ++ List.replicate (2 - (lg_sl ([.ref q_s, .int v1])).length) Slot.unset).toArray = ls at hl ⊢
  have hl : lv_has ls 2 [(0, .ref q_s), (1, .int v1)] := hl
  obtain ⟨QQ, hQQ⟩ : ∃ Q, Q = MQ below (rdQ res) ([.ref q_s, .int v1] : List Value).toArray s 0 0 (fun _ => False) := ⟨_, rfl⟩
  rw [← hQQ]
  have w_0 := hts (Cond.fieldLink RX3 15 "TideInches$Isle" "holders" "[I") (List.mem_of_getElem? (i := 1) rfl)
  have w_1 := (fun w hw => List.mem_cons_of_mem _ (List.mem_append_right _ hw) : ∀ w ∈ wsX30, w ∈ wsX3_holder)
  have h := hf
  unfold fX3_holder at h
  refine lv_aload_n hx hb dX3_holder_0 rfl (lv_at hl 0 rfl) ?_
  refine va_get (D := (dC, dI)) (ci := 3) (v := .ref q_s_holders) (C := RX3) (T := TX3) (N := 11) hx hb hts w_1 hown hK hP 0 rfl rfl 7 (by decide) w_0 (fun _ h9 => h9) rfl dX3_holder_1 ?_
  refine lv_iload_n hx hb dX3_holder_4 rfl (lv_at hl 1 rfl) ?_
  obtain ⟨b_1, h⟩ := chk_of h
  refine va_iald hx hb hK hP 2 0 rfl rfl (i := v1) b_1 dX3_holder_5 ?_
  rw [hQQ]
  exact W.iret (v := (s_holders v1.toNatClampNeg)) hx hb hr (fun t ht hW => ⟨_, rfl, Option.some.inj h, ht⟩) (fun q hq => by cases hq) dX3_holder_6
def fX3_isHeld (s_holders : (Nat → Int32)) (v1 : Int32) : Option (Int32) :=
  chk (¬ (v1 < 0 ∨ 15 ≤ v1.toNatClampNeg)) ((if (s_holders v1.toNatClampNeg) = (-1) then some (0) else some (1)))
abbrev rmX3_isHeld : Room := { frames := 0, cells := 0, slots := 0, locals := 0 }
theorem ddX3_isHeld : yX3_isHeld.cls ≠ "java/lang/invoke/MethodHandle" ∧ yX3_isHeld.cls ≠ "java/lang/invoke/VarHandle" ∧ (parseMethodDescriptor yX3_isHeld.desc).map (fun d => d.parameters.length) = some 1 := by decide +kernel
set_option maxHeartbeats 4000000 in
set_option maxRecDepth 100000 in
theorem m_X3_isHeld (l : Launch) (dC : Nat → ClassId) (dI : Nat → Nat → Nat) (cI cZ : ClassId) (q_s q_s_heights q_s_holders q_s_kinds q_s_purses q_s_homes : Nat) (s_told : Int32) (s_low : Int32) (s_high : Int32) (s_price : Int32) (s_hour : Int32) (s_bidders : Int32) (s_heights : (Nat → Int32)) (s_holders : (Nat → Int32)) (s_kinds : (Nat → Int32)) (s_purses : (Nat → Int32)) (s_homes : (Nat → Int32)) (v1 : Int32) (res : Int32) (hf : fX3_isHeld s_holders v1 = some res) : Met l yX3_isHeld wsX3_isHeld rmX3_isHeld (rdPc (dC, dI) (tyZ cI cZ) ((W_Isle cI cZ q_s q_s_heights q_s_holders q_s_kinds q_s_purses q_s_homes s_told s_low s_high s_price s_hour s_bidders s_heights s_holders s_kinds s_purses s_homes)) [.ref q_s, .int v1]) (rdQ res) 0 0 (fun _ => False) := by
  refine Met.ofW (cc := cX3_isHeld) (maxL := 2) (ret := (some .boolean)) (by decide) rfl ?_
  intro p e s m args below meth c s₁ B hml hv
  obtain ⟨rfl, hP, hK⟩ := hv
  have hx := B.exec
  have hb := B.bytes
  have hr := B.returns
  have hts := atoms_spec (ws := wsX3_isHeld) B.pre
  have hown : s.vm.findClass RX3 = some m.cls := findClass_of_methodNamed B.named
  have hlocks := B.notSynchronized
  have hl := lv_entry ([.ref q_s, .int v1]) (n := 2) (Nat.le_of_ble_eq_true rfl)
  rw [lg_entry_eq]
  generalize (lg_sl ([.ref q_s, .int v1]) ++ List.replicate (2 - (lg_sl ([.ref q_s, .int v1])).length) Slot.unset).toArray = ls at hl ⊢
  have hl : lv_has ls 2 [(0, .ref q_s), (1, .int v1)] := hl
  obtain ⟨QQ, hQQ⟩ : ∃ Q, Q = MQ below (rdQ res) ([.ref q_s, .int v1] : List Value).toArray s 0 0 (fun _ => False) := ⟨_, rfl⟩
  rw [← hQQ]
  have w_0 := hts (Cond.fieldLink RX3 15 "TideInches$Isle" "holders" "[I") (List.mem_of_getElem? (i := 1) rfl)
  have w_1 := (fun w hw => List.mem_cons_of_mem _ (List.mem_append_right _ hw) : ∀ w ∈ wsX30, w ∈ wsX3_isHeld)
  have h := hf
  unfold fX3_isHeld at h
  refine lv_aload_n hx hb dX3_isHeld_0 rfl (lv_at hl 0 rfl) ?_
  refine va_get (D := (dC, dI)) (ci := 3) (v := .ref q_s_holders) (C := RX3) (T := TX3) (N := 11) hx hb hts w_1 hown hK hP 0 rfl rfl 7 (by decide) w_0 (fun _ h9 => h9) rfl dX3_isHeld_1 ?_
  refine lv_iload_n hx hb dX3_isHeld_4 rfl (lv_at hl 1 rfl) ?_
  obtain ⟨b_1, h⟩ := chk_of h
  refine va_iald hx hb hK hP 2 0 rfl rfl (i := v1) b_1 dX3_isHeld_5 ?_
  refine lv_iconst (v := (-1)) hx hb dX3_isHeld_6 (by decide) ?_
  refine lv_icmp_eq (tgt := 14) hx hb dX3_isHeld_7 (by decide) (fun c_2 => ?_) (fun c_2 => ?_)
  · have h := (if_pos c_2).symm.trans h
    refine lv_iconst (v := 0) hx hb dX3_isHeld_14 (by decide) ?_
    rw [hQQ]
    exact W.zret (v := 0) (ty := .boolean) hx hb hr rfl (fun t ht hW => ⟨_, rfl, Option.some.inj h, ht⟩) (fun q hq => by cases hq) dX3_isHeld_15
  · have h := (if_neg c_2).symm.trans h
    refine lv_iconst (v := 1) hx hb dX3_isHeld_10 (by decide) ?_
    refine lv_goto (tgt := 15) hx hb dX3_isHeld_11 (by decide) ?_
    rw [hQQ]
    exact W.zret (v := 1) (ty := .boolean) hx hb hr rfl (fun t ht hW => ⟨_, rfl, Option.some.inj h, ht⟩) (fun q hq => by cases hq) dX3_isHeld_15
def fX3_cellsOf_L4 (s_holders : (Nat → Int32)) (v1 : Int32) : Nat → Int32 → Int32 → Option (Int32)
  | 0, _, _ => none
  | n + 1, v2_h4, v3_h4 => (if 15 ≤ v3_h4 then some (v2_h4) else chk (¬ (v3_h4 < 0 ∨ 15 ≤ v3_h4.toNatClampNeg)) ((if (s_holders v3_h4.toNatClampNeg) = v1 then ((fX3_cellsOf_L4 s_holders v1 n) (v2_h4 ||| (1 <<< (v3_h4 &&& 31))) (v3_h4 + 1)) else ((fX3_cellsOf_L4 s_holders v1 n) v2_h4 (v3_h4 + 1)))))
def fX3_cellsOf (s_holders : (Nat → Int32)) (v1 : Int32) : Option (Int32) :=
  (fX3_cellsOf_L4 s_holders v1 FU 0 0)
abbrev rmX3_cellsOf : Room := { frames := 0, cells := 0, slots := 0, locals := 0 }
theorem ddX3_cellsOf : yX3_cellsOf.cls ≠ "java/lang/invoke/MethodHandle" ∧ yX3_cellsOf.cls ≠ "java/lang/invoke/VarHandle" ∧ (parseMethodDescriptor yX3_cellsOf.desc).map (fun d => d.parameters.length) = some 1 := by decide +kernel
set_option maxHeartbeats 4000000 in
set_option maxRecDepth 100000 in
theorem m_X3_cellsOf (l : Launch) (dC : Nat → ClassId) (dI : Nat → Nat → Nat) (cI cZ : ClassId) (q_s q_s_heights q_s_holders q_s_kinds q_s_purses q_s_homes : Nat) (s_told : Int32) (s_low : Int32) (s_high : Int32) (s_price : Int32) (s_hour : Int32) (s_bidders : Int32) (s_heights : (Nat → Int32)) (s_holders : (Nat → Int32)) (s_kinds : (Nat → Int32)) (s_purses : (Nat → Int32)) (s_homes : (Nat → Int32)) (v1 : Int32) (res : Int32) (hf : fX3_cellsOf s_holders v1 = some res) : Met l yX3_cellsOf wsX3_cellsOf rmX3_cellsOf (rdPc (dC, dI) (tyZ cI cZ) ((W_Isle cI cZ q_s q_s_heights q_s_holders q_s_kinds q_s_purses q_s_homes s_told s_low s_high s_price s_hour s_bidders s_heights s_holders s_kinds s_purses s_homes)) [.ref q_s, .int v1]) (rdQ res) 0 0 (fun _ => False) := by
  refine Met.ofW (cc := cX3_cellsOf) (maxL := 4) (ret := (some .int)) (by decide) rfl ?_
  intro p e s m args below meth c s₁ B hml hv
  obtain ⟨rfl, hP, hK⟩ := hv
  have hx := B.exec
  have hb := B.bytes
  have hr := B.returns
  have hts := atoms_spec (ws := wsX3_cellsOf) B.pre
  have hown : s.vm.findClass RX3 = some m.cls := findClass_of_methodNamed B.named
  have hlocks := B.notSynchronized
  have hl := lv_entry ([.ref q_s, .int v1]) (n := 4) (Nat.le_of_ble_eq_true rfl)
  rw [lg_entry_eq]
  generalize (lg_sl ([.ref q_s, .int v1]) ++ List.replicate (4 - (lg_sl ([.ref q_s, .int v1])).length) Slot.unset).toArray = ls at hl ⊢
  have hl : lv_has ls 4 [(0, .ref q_s), (1, .int v1)] := hl
  obtain ⟨QQ, hQQ⟩ : ∃ Q, Q = MQ below (rdQ res) ([.ref q_s, .int v1] : List Value).toArray s 0 0 (fun _ => False) := ⟨_, rfl⟩
  rw [← hQQ]
  have w_0 := hts (Cond.fieldLink RX3 15 "TideInches$Isle" "holders" "[I") (List.mem_of_getElem? (i := 1) rfl)
  have w_1 := (fun w hw => List.mem_cons_of_mem _ (List.mem_append_right _ hw) : ∀ w ∈ wsX30, w ∈ wsX3_cellsOf)
  have h := hf
  unfold fX3_cellsOf at h
  refine lv_iconst (v := 0) hx hb dX3_cellsOf_0 (by decide) ?_
  refine lv_istore_n (lv' := [(2, .int 0), (0, .ref q_s), (1, .int v1)]) hx hb dX3_cellsOf_1 rfl hl (by decide) rfl (fun ls hl => ?_)
  refine lv_iconst (v := 0) hx hb dX3_cellsOf_2 (by decide) ?_
  refine lv_istore_n (lv' := [(3, .int 0), (2, .int 0), (0, .ref q_s), (1, .int v1)]) hx hb dX3_cellsOf_3 rfl hl (by decide) rfl (fun ls hl => ?_)
  have KL4 : ∀ (n : Nat) (v2_h4 : Int32) (v3_h4 : Int32) (ls : Array Slot), lv_has ls 4 [(0, .ref q_s), (1, .int v1), (2, .int v2_h4), (3, .int v3_h4)] → fX3_cellsOf_L4 s_holders v1 n v2_h4 v3_h4 = some res → W p l e (headSpec wsX3_cellsOf rmX3_cellsOf).room s m ([.ref q_s, .int v1] : List Value).toArray below meth c s.heap [] 0 0 QQ (F0 m 4 ls []) := by
    intro  n
    induction n with
    | zero => intro v2_h4 v3_h4 ls hl h; rw [fX3_cellsOf_L4.eq_1] at h; cases h
    | succ n ih =>
      intro v2_h4 v3_h4 ls hl h
      rw [fX3_cellsOf_L4.eq_2] at h
      refine lv_iload_n hx hb dX3_cellsOf_4 rfl (lv_at hl 3 rfl) ?_
      refine lv_bipush (v := 15) hx hb dX3_cellsOf_5 (by decide) ?_
      refine lv_icmp_ge (tgt := 32) hx hb dX3_cellsOf_7 (by decide) (fun c_1 => ?_) (fun c_1 => ?_)
      · have h := (if_pos c_1).symm.trans h
        refine lv_iload_n hx hb dX3_cellsOf_32 rfl (lv_at hl 2 rfl) ?_
        rw [hQQ]
        exact W.iret (v := v2_h4) hx hb hr (fun t ht hW => ⟨_, rfl, Option.some.inj h, ht⟩) (fun q hq => by cases hq) dX3_cellsOf_33
      · have h := (if_neg c_1).symm.trans h
        refine lv_aload_n hx hb dX3_cellsOf_10 rfl (lv_at hl 0 rfl) ?_
        refine va_get (D := (dC, dI)) (ci := 3) (v := .ref q_s_holders) (C := RX3) (T := TX3) (N := 11) hx hb hts w_1 hown hK hP 0 rfl rfl 7 (by decide) w_0 (fun _ h9 => h9) rfl dX3_cellsOf_11 ?_
        refine lv_iload_n hx hb dX3_cellsOf_14 rfl (lv_at hl 3 rfl) ?_
        obtain ⟨b_2, h⟩ := chk_of h
        refine va_iald hx hb hK hP 2 0 rfl rfl (i := v3_h4) b_2 dX3_cellsOf_15 ?_
        refine lv_iload_n hx hb dX3_cellsOf_16 rfl (lv_at hl 1 rfl) ?_
        refine lv_icmp_ne (tgt := 26) hx hb dX3_cellsOf_17 (by decide) (fun c_3 => ?_) (fun c_3 => ?_)
        · have h := (if_neg c_3).symm.trans h
          refine lv_iinc (v := (v3_h4 + 1)) (lv' := [(3, .int (v3_h4 + 1)), (0, .ref q_s), (1, .int v1), (2, .int v2_h4)]) hx hb dX3_cellsOf_26 hl (k := 3) rfl rfl (by decide) rfl (fun ls hl => ?_)
          refine lv_goto (tgt := 4) hx hb dX3_cellsOf_29 (by decide) ?_
          exact ih v2_h4 (v3_h4 + 1) _ (lv_sub hl [1, 2, 3, 0] rfl) h
        · have h := (if_pos c_3).symm.trans h
          refine lv_iload_n hx hb dX3_cellsOf_20 rfl (lv_at hl 2 rfl) ?_
          refine lv_iconst (v := 1) hx hb dX3_cellsOf_21 (by decide) ?_
          refine lv_iload_n hx hb dX3_cellsOf_22 rfl (lv_at hl 3 rfl) ?_
          refine lv_ishl hx hb dX3_cellsOf_23 ?_
          refine lv_ior hx hb dX3_cellsOf_24 ?_
          refine lv_istore_n (lv' := [(2, .int (v2_h4 ||| (1 <<< (v3_h4 &&& 31)))), (0, .ref q_s), (1, .int v1), (3, .int v3_h4)]) hx hb dX3_cellsOf_25 rfl hl (by decide) rfl (fun ls hl => ?_)
          refine lv_iinc (v := (v3_h4 + 1)) (lv' := [(3, .int (v3_h4 + 1)), (2, .int (v2_h4 ||| (1 <<< (v3_h4 &&& 31)))), (0, .ref q_s), (1, .int v1)]) hx hb dX3_cellsOf_26 hl (k := 3) rfl rfl (by decide) rfl (fun ls hl => ?_)
          refine lv_goto (tgt := 4) hx hb dX3_cellsOf_29 (by decide) ?_
          exact ih (v2_h4 ||| (1 <<< (v3_h4 &&& 31))) (v3_h4 + 1) _ (lv_sub hl [2, 3, 1, 0] rfl) h
  exact KL4 FU 0 0 _ (lv_sub hl [2, 3, 1, 0] rfl) h
def fX3_heldCells (s_holders : (Nat → Int32)) : Option (Int32) :=
  bd1 (fX3_cellsOf s_holders (-1)) (fun r_1 => some ((32767 &&& (r_1 ^^^ (-1)))))
abbrev rmX3_heldCells : Room := { frames := 1, cells := 0, slots := 0, locals := 23 }
theorem ddX3_heldCells : yX3_heldCells.cls ≠ "java/lang/invoke/MethodHandle" ∧ yX3_heldCells.cls ≠ "java/lang/invoke/VarHandle" ∧ (parseMethodDescriptor yX3_heldCells.desc).map (fun d => d.parameters.length) = some 0 := by decide +kernel
set_option maxHeartbeats 4000000 in
set_option maxRecDepth 100000 in
theorem m_X3_heldCells (l : Launch) (dC : Nat → ClassId) (dI : Nat → Nat → Nat) (cI cZ : ClassId) (q_s q_s_heights q_s_holders q_s_kinds q_s_purses q_s_homes : Nat) (s_told : Int32) (s_low : Int32) (s_high : Int32) (s_price : Int32) (s_hour : Int32) (s_bidders : Int32) (s_heights : (Nat → Int32)) (s_holders : (Nat → Int32)) (s_kinds : (Nat → Int32)) (s_purses : (Nat → Int32)) (s_homes : (Nat → Int32)) (res : Int32) (hf : fX3_heldCells s_holders = some res) : Met l yX3_heldCells wsX3_heldCells rmX3_heldCells (rdPc (dC, dI) (tyZ cI cZ) ((W_Isle cI cZ q_s q_s_heights q_s_holders q_s_kinds q_s_purses q_s_homes s_told s_low s_high s_price s_hour s_bidders s_heights s_holders s_kinds s_purses s_homes)) [.ref q_s]) (rdQ res) 0 0 (fun _ => False) := by
  refine Met.ofW (cc := cX3_heldCells) (maxL := 1) (ret := (some .int)) (by decide) rfl ?_
  intro p e s m args below meth c s₁ B hml hv
  obtain ⟨rfl, hP, hK⟩ := hv
  have hx := B.exec
  have hb := B.bytes
  have hr := B.returns
  have hts := atoms_spec (ws := wsX3_heldCells) B.pre
  have hown : s.vm.findClass RX3 = some m.cls := findClass_of_methodNamed B.named
  have hlocks := B.notSynchronized
  have hl := lv_entry ([.ref q_s]) (n := 1) (Nat.le_of_ble_eq_true rfl)
  rw [lg_entry_eq]
  generalize (lg_sl ([.ref q_s]) ++ List.replicate (1 - (lg_sl ([.ref q_s])).length) Slot.unset).toArray = ls at hl ⊢
  have hl : lv_has ls 1 [(0, .ref q_s)] := hl
  obtain ⟨QQ, hQQ⟩ : ∃ Q, Q = MQ below (rdQ res) ([.ref q_s] : List Value).toArray s 0 0 (fun _ => False) := ⟨_, rfl⟩
  rw [← hQQ]
  have h := hf
  unfold fX3_heldCells at h
  refine lv_sipush (v := 32767) hx hb dX3_heldCells_0 (by decide) ?_
  refine lv_aload_n hx hb dX3_heldCells_3 rfl (lv_at hl 0 rfl) ?_
  refine lv_iconst (v := (-1)) hx hb dX3_heldCells_4 (by decide) ?_
  obtain ⟨r_1, hc_1, h⟩ := bd1_of h
  refine cl_rV (As := [.int (-1)]) (rest := [.int 32767]) ⟨hx, hb, hml, hown, hts⟩ (m_X3_cellsOf l dC dI cI cZ q_s q_s_heights q_s_holders q_s_kinds q_s_purses q_s_homes s_told s_low s_high s_price s_hour s_bidders s_heights s_holders s_kinds s_purses s_homes (-1) (r_1) hc_1) (cwV 1 hts gX3_heldCells_X3_cellsOf rfl rfl rfl ⟨rfl, ddX3_cellsOf⟩ ⟨Nat.le_of_ble_eq_true rfl, Nat.le_of_ble_eq_true rfl⟩) hK hP [0, 1, 2, 3, 4, 5] rfl rfl rfl rfl rfl hl.1 (Nat.le_of_ble_eq_true rfl) ⟨Nat.zero_le _, Nat.zero_le _⟩ dX3_heldCells_5 ?_
  refine lv_iconst (v := (-1)) hx hb dX3_heldCells_8 (by decide) ?_
  refine lv_ixor hx hb dX3_heldCells_9 ?_
  refine lv_iand hx hb dX3_heldCells_10 ?_
  rw [hQQ]
  exact W.iret (v := (32767 &&& (r_1 ^^^ (-1)))) hx hb hr (fun t ht hW => ⟨_, rfl, Option.some.inj h, ht⟩) (fun q hq => by cases hq) dX3_heldCells_11
def fX3_allPurses_L4 (s_bidders : Int32) (s_purses : (Nat → Int32)) : Nat → Int32 → Int32 → Option (Int32)
  | 0, _, _ => none
  | n + 1, v1_h4, v2_h4 => (if s_bidders ≤ v2_h4 then some (v1_h4) else chk (¬ (v2_h4 < 0 ∨ 5 ≤ v2_h4.toNatClampNeg)) (((fX3_allPurses_L4 s_bidders s_purses n) (v1_h4 + (s_purses v2_h4.toNatClampNeg)) (v2_h4 + 1))))
def fX3_allPurses (s_bidders : Int32) (s_purses : (Nat → Int32)) : Option (Int32) :=
  (fX3_allPurses_L4 s_bidders s_purses FU 0 0)
abbrev rmX3_allPurses : Room := { frames := 0, cells := 0, slots := 0, locals := 0 }
theorem ddX3_allPurses : yX3_allPurses.cls ≠ "java/lang/invoke/MethodHandle" ∧ yX3_allPurses.cls ≠ "java/lang/invoke/VarHandle" ∧ (parseMethodDescriptor yX3_allPurses.desc).map (fun d => d.parameters.length) = some 0 := by decide +kernel
set_option maxHeartbeats 4000000 in
set_option maxRecDepth 100000 in
theorem m_X3_allPurses (l : Launch) (dC : Nat → ClassId) (dI : Nat → Nat → Nat) (cI cZ : ClassId) (q_s q_s_heights q_s_holders q_s_kinds q_s_purses q_s_homes : Nat) (s_told : Int32) (s_low : Int32) (s_high : Int32) (s_price : Int32) (s_hour : Int32) (s_bidders : Int32) (s_heights : (Nat → Int32)) (s_holders : (Nat → Int32)) (s_kinds : (Nat → Int32)) (s_purses : (Nat → Int32)) (s_homes : (Nat → Int32)) (res : Int32) (hf : fX3_allPurses s_bidders s_purses = some res) : Met l yX3_allPurses wsX3_allPurses rmX3_allPurses (rdPc (dC, dI) (tyZ cI cZ) ((W_Isle cI cZ q_s q_s_heights q_s_holders q_s_kinds q_s_purses q_s_homes s_told s_low s_high s_price s_hour s_bidders s_heights s_holders s_kinds s_purses s_homes)) [.ref q_s]) (rdQ res) 0 0 (fun _ => False) := by
  refine Met.ofW (cc := cX3_allPurses) (maxL := 3) (ret := (some .int)) (by decide) rfl ?_
  intro p e s m args below meth c s₁ B hml hv
  obtain ⟨rfl, hP, hK⟩ := hv
  have hx := B.exec
  have hb := B.bytes
  have hr := B.returns
  have hts := atoms_spec (ws := wsX3_allPurses) B.pre
  have hown : s.vm.findClass RX3 = some m.cls := findClass_of_methodNamed B.named
  have hlocks := B.notSynchronized
  have hl := lv_entry ([.ref q_s]) (n := 3) (Nat.le_of_ble_eq_true rfl)
  rw [lg_entry_eq]
  generalize (lg_sl ([.ref q_s]) ++ List.replicate (3 - (lg_sl ([.ref q_s])).length) Slot.unset).toArray = ls at hl ⊢
  have hl : lv_has ls 3 [(0, .ref q_s)] := hl
  obtain ⟨QQ, hQQ⟩ : ∃ Q, Q = MQ below (rdQ res) ([.ref q_s] : List Value).toArray s 0 0 (fun _ => False) := ⟨_, rfl⟩
  rw [← hQQ]
  have w_0 := hts (Cond.fieldLink RX3 38 "TideInches$Isle" "bidders" "I") (List.mem_of_getElem? (i := 1) rfl)
  have w_1 := (fun w hw => List.mem_cons_of_mem _ (List.mem_append_right _ hw) : ∀ w ∈ wsX30, w ∈ wsX3_allPurses)
  have w_2 := hts (Cond.fieldLink RX3 21 "TideInches$Isle" "purses" "[I") (List.mem_of_getElem? (i := 2) rfl)
  have h := hf
  unfold fX3_allPurses at h
  refine lv_iconst (v := 0) hx hb dX3_allPurses_0 (by decide) ?_
  refine lv_istore_n (lv' := [(1, .int 0), (0, .ref q_s)]) hx hb dX3_allPurses_1 rfl hl (by decide) rfl (fun ls hl => ?_)
  refine lv_iconst (v := 0) hx hb dX3_allPurses_2 (by decide) ?_
  refine lv_istore_n (lv' := [(2, .int 0), (1, .int 0), (0, .ref q_s)]) hx hb dX3_allPurses_3 rfl hl (by decide) rfl (fun ls hl => ?_)
  have KL4 : ∀ (n : Nat) (v1_h4 : Int32) (v2_h4 : Int32) (ls : Array Slot), lv_has ls 3 [(0, .ref q_s), (1, .int v1_h4), (2, .int v2_h4)] → fX3_allPurses_L4 s_bidders s_purses n v1_h4 v2_h4 = some res → W p l e (headSpec wsX3_allPurses rmX3_allPurses).room s m ([.ref q_s] : List Value).toArray below meth c s.heap [] 0 0 QQ (F0 m 4 ls []) := by
    intro  n
    induction n with
    | zero => intro v1_h4 v2_h4 ls hl h; rw [fX3_allPurses_L4.eq_1] at h; cases h
    | succ n ih =>
      intro v1_h4 v2_h4 ls hl h
      rw [fX3_allPurses_L4.eq_2] at h
      refine lv_iload_n hx hb dX3_allPurses_4 rfl (lv_at hl 2 rfl) ?_
      refine lv_aload_n hx hb dX3_allPurses_5 rfl (lv_at hl 0 rfl) ?_
      refine va_get (D := (dC, dI)) (ci := 3) (v := .int s_bidders) (C := RX3) (T := TX3) (N := 11) hx hb hts w_1 hown hK hP 0 rfl rfl 5 (by decide) w_0 (fun _ h9 => h9) rfl dX3_allPurses_6 ?_
      refine lv_icmp_ge (tgt := 27) hx hb dX3_allPurses_9 (by decide) (fun c_1 => ?_) (fun c_1 => ?_)
      · have h := (if_pos c_1).symm.trans h
        refine lv_iload_n hx hb dX3_allPurses_27 rfl (lv_at hl 1 rfl) ?_
        rw [hQQ]
        exact W.iret (v := v1_h4) hx hb hr (fun t ht hW => ⟨_, rfl, Option.some.inj h, ht⟩) (fun q hq => by cases hq) dX3_allPurses_28
      · have h := (if_neg c_1).symm.trans h
        refine lv_iload_n hx hb dX3_allPurses_12 rfl (lv_at hl 1 rfl) ?_
        refine lv_aload_n hx hb dX3_allPurses_13 rfl (lv_at hl 0 rfl) ?_
        refine va_get (D := (dC, dI)) (ci := 3) (v := .ref q_s_purses) (C := RX3) (T := TX3) (N := 11) hx hb hts w_1 hown hK hP 0 rfl rfl 9 (by decide) w_2 (fun _ h9 => h9) rfl dX3_allPurses_14 ?_
        refine lv_iload_n hx hb dX3_allPurses_17 rfl (lv_at hl 2 rfl) ?_
        obtain ⟨b_2, h⟩ := chk_of h
        refine va_iald hx hb hK hP 4 0 rfl rfl (i := v2_h4) b_2 dX3_allPurses_18 ?_
        refine lv_iadd hx hb dX3_allPurses_19 ?_
        refine lv_istore_n (lv' := [(1, .int (v1_h4 + (s_purses v2_h4.toNatClampNeg))), (0, .ref q_s), (2, .int v2_h4)]) hx hb dX3_allPurses_20 rfl hl (by decide) rfl (fun ls hl => ?_)
        refine lv_iinc (v := (v2_h4 + 1)) (lv' := [(2, .int (v2_h4 + 1)), (1, .int (v1_h4 + (s_purses v2_h4.toNatClampNeg))), (0, .ref q_s)]) hx hb dX3_allPurses_21 hl (k := 2) rfl rfl (by decide) rfl (fun ls hl => ?_)
        refine lv_goto (tgt := 4) hx hb dX3_allPurses_24 (by decide) ?_
        exact ih (v1_h4 + (s_purses v2_h4.toNatClampNeg)) (v2_h4 + 1) _ (lv_sub hl [2, 1, 0] rfl) h
  exact KL4 FU 0 0 _ (lv_sub hl [2, 1, 0] rfl) h
def fX3_levelBehind_J24 (s_low : Int32) (s_high : Int32) (w0_j24 : Int32) : Option (Int32) :=
  some ((s_low + (((s_high - s_low) * w0_j24) / 6)))
def fX3_levelBehind (s_low : Int32) (s_high : Int32) (s_hour : Int32) (v1 : Int32) : Option (Int32) :=
  (if 6 < ((s_hour + v1) - (s_hour + v1) / 12 * 12) then (fX3_levelBehind_J24 s_low s_high (12 - ((s_hour + v1) - (s_hour + v1) / 12 * 12))) else (fX3_levelBehind_J24 s_low s_high ((s_hour + v1) - (s_hour + v1) / 12 * 12)))
abbrev rmX3_levelBehind : Room := { frames := 0, cells := 0, slots := 0, locals := 0 }
theorem ddX3_levelBehind : yX3_levelBehind.cls ≠ "java/lang/invoke/MethodHandle" ∧ yX3_levelBehind.cls ≠ "java/lang/invoke/VarHandle" ∧ (parseMethodDescriptor yX3_levelBehind.desc).map (fun d => d.parameters.length) = some 1 := by decide +kernel
set_option maxHeartbeats 4000000 in
set_option maxRecDepth 100000 in
theorem m_X3_levelBehind (l : Launch) (dC : Nat → ClassId) (dI : Nat → Nat → Nat) (cI cZ : ClassId) (q_s q_s_heights q_s_holders q_s_kinds q_s_purses q_s_homes : Nat) (s_told : Int32) (s_low : Int32) (s_high : Int32) (s_price : Int32) (s_hour : Int32) (s_bidders : Int32) (s_heights : (Nat → Int32)) (s_holders : (Nat → Int32)) (s_kinds : (Nat → Int32)) (s_purses : (Nat → Int32)) (s_homes : (Nat → Int32)) (v1 : Int32) (res : Int32) (hf : fX3_levelBehind s_low s_high s_hour v1 = some res) : Met l yX3_levelBehind wsX3_levelBehind rmX3_levelBehind (rdPc (dC, dI) (tyZ cI cZ) ((W_Isle cI cZ q_s q_s_heights q_s_holders q_s_kinds q_s_purses q_s_homes s_told s_low s_high s_price s_hour s_bidders s_heights s_holders s_kinds s_purses s_homes)) [.ref q_s, .int v1]) (rdQ res) 0 0 (fun _ => False) := by
  refine Met.ofW (cc := cX3_levelBehind) (maxL := 4) (ret := (some .int)) (by decide) rfl ?_
  intro p e s m args below meth c s₁ B hml hv
  obtain ⟨rfl, hP, hK⟩ := hv
  have hx := B.exec
  have hb := B.bytes
  have hr := B.returns
  have hts := atoms_spec (ws := wsX3_levelBehind) B.pre
  have hown : s.vm.findClass RX3 = some m.cls := findClass_of_methodNamed B.named
  have hlocks := B.notSynchronized
  have hl := lv_entry ([.ref q_s, .int v1]) (n := 4) (Nat.le_of_ble_eq_true rfl)
  rw [lg_entry_eq]
  generalize (lg_sl ([.ref q_s, .int v1]) ++ List.replicate (4 - (lg_sl ([.ref q_s, .int v1])).length) Slot.unset).toArray = ls at hl ⊢
  have hl : lv_has ls 4 [(0, .ref q_s), (1, .int v1)] := hl
  obtain ⟨QQ, hQQ⟩ : ∃ Q, Q = MQ below (rdQ res) ([.ref q_s, .int v1] : List Value).toArray s 0 0 (fun _ => False) := ⟨_, rfl⟩
  rw [← hQQ]
  have w_0 := hts (Cond.fieldLink RX3 34 "TideInches$Isle" "hour" "I") (List.mem_of_getElem? (i := 1) rfl)
  have w_1 := (fun w hw => List.mem_cons_of_mem _ (List.mem_append_right _ hw) : ∀ w ∈ wsX30, w ∈ wsX3_levelBehind)
  have w_2 := hts (Cond.fieldLink RX3 41 "TideInches$Isle" "low" "I") (List.mem_of_getElem? (i := 2) rfl)
  have w_3 := hts (Cond.fieldLink RX3 44 "TideInches$Isle" "high" "I") (List.mem_of_getElem? (i := 3) rfl)
  have h := hf
  unfold fX3_levelBehind at h
  refine lv_aload_n hx hb dX3_levelBehind_0 rfl (lv_at hl 0 rfl) ?_
  refine va_get (D := (dC, dI)) (ci := 3) (v := .int s_hour) (C := RX3) (T := TX3) (N := 11) hx hb hts w_1 hown hK hP 0 rfl rfl 4 (by decide) w_0 (fun _ h9 => h9) rfl dX3_levelBehind_1 ?_
  refine lv_iload_n hx hb dX3_levelBehind_4 rfl (lv_at hl 1 rfl) ?_
  refine lv_iadd hx hb dX3_levelBehind_5 ?_
  refine lv_bipush (v := 12) hx hb dX3_levelBehind_6 (by decide) ?_
  refine lv_irem hx hb dX3_levelBehind_8 (by decide) ?_
  refine lv_istore_n (lv' := [(2, .int ((s_hour + v1) - (s_hour + v1) / 12 * 12)), (0, .ref q_s), (1, .int v1)]) hx hb dX3_levelBehind_9 rfl hl (by decide) rfl (fun ls hl => ?_)
  refine lv_iload_n hx hb dX3_levelBehind_10 rfl (lv_at hl 0 rfl) ?_
  refine lv_bipush (v := 6) hx hb dX3_levelBehind_11 (by decide) ?_
  have KJ24 : ∀ (w0_j24 : Int32) (ls : Array Slot), lv_has ls 4 [(0, .ref q_s)] → fX3_levelBehind_J24 s_low s_high w0_j24 = some res → W p l e (headSpec wsX3_levelBehind rmX3_levelBehind).room s m ([.ref q_s, .int v1] : List Value).toArray below meth c s.heap [] 0 0 QQ (F0 m 24 ls [.int w0_j24]) := by
    intro w0_j24 ls hl h
    unfold fX3_levelBehind_J24 at h
    refine lv_istore_n (lv' := [(3, .int w0_j24), (0, .ref q_s)]) hx hb dX3_levelBehind_24 rfl hl (by decide) rfl (fun ls hl => ?_)
    refine lv_aload_n hx hb dX3_levelBehind_25 rfl (lv_at hl 1 rfl) ?_
    refine va_get (D := (dC, dI)) (ci := 3) (v := .int s_low) (C := RX3) (T := TX3) (N := 11) hx hb hts w_1 hown hK hP 0 rfl rfl 1 (by decide) w_2 (fun _ h9 => h9) rfl dX3_levelBehind_26 ?_
    refine lv_aload_n hx hb dX3_levelBehind_29 rfl (lv_at hl 1 rfl) ?_
    refine va_get (D := (dC, dI)) (ci := 3) (v := .int s_high) (C := RX3) (T := TX3) (N := 11) hx hb hts w_1 hown hK hP 0 rfl rfl 2 (by decide) w_3 (fun _ h9 => h9) rfl dX3_levelBehind_30 ?_
    refine lv_aload_n hx hb dX3_levelBehind_33 rfl (lv_at hl 1 rfl) ?_
    refine va_get (D := (dC, dI)) (ci := 3) (v := .int s_low) (C := RX3) (T := TX3) (N := 11) hx hb hts w_1 hown hK hP 0 rfl rfl 1 (by decide) w_2 (fun _ h9 => h9) rfl dX3_levelBehind_34 ?_
    refine lv_isub hx hb dX3_levelBehind_37 ?_
    refine lv_iload_n hx hb dX3_levelBehind_38 rfl (lv_at hl 0 rfl) ?_
    refine lv_imul hx hb dX3_levelBehind_39 ?_
    refine lv_bipush (v := 6) hx hb dX3_levelBehind_40 (by decide) ?_
    refine lv_idiv hx hb dX3_levelBehind_42 (by decide) ?_
    refine lv_iadd hx hb dX3_levelBehind_43 ?_
    rw [hQQ]
    exact W.iret (v := (s_low + (((s_high - s_low) * w0_j24) / 6))) hx hb hr (fun t ht hW => ⟨_, rfl, Option.some.inj h, ht⟩) (fun q hq => by cases hq) dX3_levelBehind_44
  refine lv_icmp_gt (tgt := 20) hx hb dX3_levelBehind_13 (by decide) (fun c_1 => ?_) (fun c_1 => ?_)
  · have h := (if_pos c_1).symm.trans h
    refine lv_bipush (v := 12) hx hb dX3_levelBehind_20 (by decide) ?_
    refine lv_iload_n hx hb dX3_levelBehind_22 rfl (lv_at hl 0 rfl) ?_
    refine lv_isub hx hb dX3_levelBehind_23 ?_
    exact KJ24 (12 - ((s_hour + v1) - (s_hour + v1) / 12 * 12)) _ (lv_sub hl [1] rfl) h
  · have h := (if_neg c_1).symm.trans h
    refine lv_iload_n hx hb dX3_levelBehind_16 rfl (lv_at hl 0 rfl) ?_
    refine lv_goto (tgt := 24) hx hb dX3_levelBehind_17 (by decide) ?_
    exact KJ24 ((s_hour + v1) - (s_hour + v1) / 12 * 12) _ (lv_sub hl [1] rfl) h
def fX3_isDryBehind (s_low : Int32) (s_high : Int32) (s_hour : Int32) (s_heights : (Nat → Int32)) (v1 : Int32) (v2 : Int32) : Option (Int32) :=
  chk (¬ (v2 < 0 ∨ 15 ≤ v2.toNatClampNeg)) (bd1 (fX3_levelBehind s_low s_high s_hour v1) (fun r_2 => (if (s_heights v2.toNatClampNeg) ≤ r_2 then some (0) else some (1))))
abbrev rmX3_isDryBehind : Room := { frames := 1, cells := 0, slots := 0, locals := 23 }
theorem ddX3_isDryBehind : yX3_isDryBehind.cls ≠ "java/lang/invoke/MethodHandle" ∧ yX3_isDryBehind.cls ≠ "java/lang/invoke/VarHandle" ∧ (parseMethodDescriptor yX3_isDryBehind.desc).map (fun d => d.parameters.length) = some 2 := by decide +kernel
set_option maxHeartbeats 4000000 in
set_option maxRecDepth 100000 in
theorem m_X3_isDryBehind (l : Launch) (dC : Nat → ClassId) (dI : Nat → Nat → Nat) (cI cZ : ClassId) (q_s q_s_heights q_s_holders q_s_kinds q_s_purses q_s_homes : Nat) (s_told : Int32) (s_low : Int32) (s_high : Int32) (s_price : Int32) (s_hour : Int32) (s_bidders : Int32) (s_heights : (Nat → Int32)) (s_holders : (Nat → Int32)) (s_kinds : (Nat → Int32)) (s_purses : (Nat → Int32)) (s_homes : (Nat → Int32)) (v1 : Int32) (v2 : Int32) (res : Int32) (hf : fX3_isDryBehind s_low s_high s_hour s_heights v1 v2 = some res) : Met l yX3_isDryBehind wsX3_isDryBehind rmX3_isDryBehind (rdPc (dC, dI) (tyZ cI cZ) ((W_Isle cI cZ q_s q_s_heights q_s_holders q_s_kinds q_s_purses q_s_homes s_told s_low s_high s_price s_hour s_bidders s_heights s_holders s_kinds s_purses s_homes)) [.ref q_s, .int v1, .int v2]) (rdQ res) 0 0 (fun _ => False) := by
  refine Met.ofW (cc := cX3_isDryBehind) (maxL := 3) (ret := (some .boolean)) (by decide) rfl ?_
  intro p e s m args below meth c s₁ B hml hv
  obtain ⟨rfl, hP, hK⟩ := hv
  have hx := B.exec
  have hb := B.bytes
  have hr := B.returns
  have hts := atoms_spec (ws := wsX3_isDryBehind) B.pre
  have hown : s.vm.findClass RX3 = some m.cls := findClass_of_methodNamed B.named
  have hlocks := B.notSynchronized
  have hl := lv_entry ([.ref q_s, .int v1, .int v2]) (n := 3) (Nat.le_of_ble_eq_true rfl)
  rw [lg_entry_eq]
  generalize (lg_sl ([.ref q_s, .int v1, .int v2]) ++ List.replicate (3 - (lg_sl ([.ref q_s, .int v1, .int v2])).length) Slot.unset).toArray = ls at hl ⊢
  have hl : lv_has ls 3 [(0, .ref q_s), (1, .int v1), (2, .int v2)] := hl
  obtain ⟨QQ, hQQ⟩ : ∃ Q, Q = MQ below (rdQ res) ([.ref q_s, .int v1, .int v2] : List Value).toArray s 0 0 (fun _ => False) := ⟨_, rfl⟩
  rw [← hQQ]
  have w_0 := hts (Cond.fieldLink RX3 9 "TideInches$Isle" "heights" "[I") (List.mem_of_getElem? (i := 1) rfl)
  have w_1 := (fun w hw => List.mem_cons_of_mem _ (List.mem_append_right _ hw) : ∀ w ∈ wsX30, w ∈ wsX3_isDryBehind)
  have h := hf
  unfold fX3_isDryBehind at h
  refine lv_aload_n hx hb dX3_isDryBehind_0 rfl (lv_at hl 0 rfl) ?_
  refine va_get (D := (dC, dI)) (ci := 3) (v := .ref q_s_heights) (C := RX3) (T := TX3) (N := 11) hx hb hts w_1 hown hK hP 0 rfl rfl 6 (by decide) w_0 (fun _ h9 => h9) rfl dX3_isDryBehind_1 ?_
  refine lv_iload_n hx hb dX3_isDryBehind_4 rfl (lv_at hl 2 rfl) ?_
  obtain ⟨b_1, h⟩ := chk_of h
  refine va_iald hx hb hK hP 1 0 rfl rfl (i := v2) b_1 dX3_isDryBehind_5 ?_
  refine lv_aload_n hx hb dX3_isDryBehind_6 rfl (lv_at hl 0 rfl) ?_
  refine lv_iload_n hx hb dX3_isDryBehind_7 rfl (lv_at hl 1 rfl) ?_
  obtain ⟨r_2, hc_2, h⟩ := bd1_of h
  refine cl_rV (As := [.int v1]) (rest := [.int (s_heights v2.toNatClampNeg)]) ⟨hx, hb, hml, hown, hts⟩ (m_X3_levelBehind l dC dI cI cZ q_s q_s_heights q_s_holders q_s_kinds q_s_purses q_s_homes s_told s_low s_high s_price s_hour s_bidders s_heights s_holders s_kinds s_purses s_homes v1 (r_2) hc_2) (cwV 1 hts gX3_isDryBehind_X3_levelBehind rfl rfl rfl ⟨rfl, ddX3_levelBehind⟩ ⟨Nat.le_of_ble_eq_true rfl, Nat.le_of_ble_eq_true rfl⟩) hK hP [0, 1, 2, 3, 4, 5] rfl rfl rfl rfl rfl hl.1 (Nat.le_of_ble_eq_true rfl) ⟨Nat.zero_le _, Nat.zero_le _⟩ dX3_isDryBehind_8 ?_
  refine lv_icmp_le (tgt := 18) hx hb dX3_isDryBehind_11 (by decide) (fun c_3 => ?_) (fun c_3 => ?_)
  · have h := (if_pos c_3).symm.trans h
    refine lv_iconst (v := 0) hx hb dX3_isDryBehind_18 (by decide) ?_
    rw [hQQ]
    exact W.zret (v := 0) (ty := .boolean) hx hb hr rfl (fun t ht hW => ⟨_, rfl, Option.some.inj h, ht⟩) (fun q hq => by cases hq) dX3_isDryBehind_19
  · have h := (if_neg c_3).symm.trans h
    refine lv_iconst (v := 1) hx hb dX3_isDryBehind_14 (by decide) ?_
    refine lv_goto (tgt := 19) hx hb dX3_isDryBehind_15 (by decide) ?_
    rw [hQQ]
    exact W.zret (v := 1) (ty := .boolean) hx hb hr rfl (fun t ht hW => ⟨_, rfl, Option.some.inj h, ht⟩) (fun q hq => by cases hq) dX3_isDryBehind_19
def fX3_cellsBelow_L4 (s_heights : (Nat → Int32)) (v1 : Int32) : Nat → Int32 → Int32 → Option (Int32)
  | 0, _, _ => none
  | n + 1, v2_h4, v3_h4 => (if 15 ≤ v3_h4 then some (v2_h4) else chk (¬ (v3_h4 < 0 ∨ 15 ≤ v3_h4.toNatClampNeg)) ((if v1 ≤ (s_heights v3_h4.toNatClampNeg) then ((fX3_cellsBelow_L4 s_heights v1 n) v2_h4 (v3_h4 + 1)) else ((fX3_cellsBelow_L4 s_heights v1 n) (v2_h4 ||| (1 <<< (v3_h4 &&& 31))) (v3_h4 + 1)))))
def fX3_cellsBelow (s_heights : (Nat → Int32)) (v1 : Int32) : Option (Int32) :=
  (fX3_cellsBelow_L4 s_heights v1 FU 0 0)
abbrev rmX3_cellsBelow : Room := { frames := 0, cells := 0, slots := 0, locals := 0 }
theorem ddX3_cellsBelow : yX3_cellsBelow.cls ≠ "java/lang/invoke/MethodHandle" ∧ yX3_cellsBelow.cls ≠ "java/lang/invoke/VarHandle" ∧ (parseMethodDescriptor yX3_cellsBelow.desc).map (fun d => d.parameters.length) = some 1 := by decide +kernel
set_option maxHeartbeats 4000000 in
set_option maxRecDepth 100000 in
theorem m_X3_cellsBelow (l : Launch) (dC : Nat → ClassId) (dI : Nat → Nat → Nat) (cI cZ : ClassId) (q_s q_s_heights q_s_holders q_s_kinds q_s_purses q_s_homes : Nat) (s_told : Int32) (s_low : Int32) (s_high : Int32) (s_price : Int32) (s_hour : Int32) (s_bidders : Int32) (s_heights : (Nat → Int32)) (s_holders : (Nat → Int32)) (s_kinds : (Nat → Int32)) (s_purses : (Nat → Int32)) (s_homes : (Nat → Int32)) (v1 : Int32) (res : Int32) (hf : fX3_cellsBelow s_heights v1 = some res) : Met l yX3_cellsBelow wsX3_cellsBelow rmX3_cellsBelow (rdPc (dC, dI) (tyZ cI cZ) ((W_Isle cI cZ q_s q_s_heights q_s_holders q_s_kinds q_s_purses q_s_homes s_told s_low s_high s_price s_hour s_bidders s_heights s_holders s_kinds s_purses s_homes)) [.ref q_s, .int v1]) (rdQ res) 0 0 (fun _ => False) := by
  refine Met.ofW (cc := cX3_cellsBelow) (maxL := 4) (ret := (some .int)) (by decide) rfl ?_
  intro p e s m args below meth c s₁ B hml hv
  obtain ⟨rfl, hP, hK⟩ := hv
  have hx := B.exec
  have hb := B.bytes
  have hr := B.returns
  have hts := atoms_spec (ws := wsX3_cellsBelow) B.pre
  have hown : s.vm.findClass RX3 = some m.cls := findClass_of_methodNamed B.named
  have hlocks := B.notSynchronized
  have hl := lv_entry ([.ref q_s, .int v1]) (n := 4) (Nat.le_of_ble_eq_true rfl)
  rw [lg_entry_eq]
  generalize (lg_sl ([.ref q_s, .int v1]) ++ List.replicate (4 - (lg_sl ([.ref q_s, .int v1])).length) Slot.unset).toArray = ls at hl ⊢
  have hl : lv_has ls 4 [(0, .ref q_s), (1, .int v1)] := hl
  obtain ⟨QQ, hQQ⟩ : ∃ Q, Q = MQ below (rdQ res) ([.ref q_s, .int v1] : List Value).toArray s 0 0 (fun _ => False) := ⟨_, rfl⟩
  rw [← hQQ]
  have w_0 := hts (Cond.fieldLink RX3 9 "TideInches$Isle" "heights" "[I") (List.mem_of_getElem? (i := 1) rfl)
  have w_1 := (fun w hw => List.mem_cons_of_mem _ (List.mem_append_right _ hw) : ∀ w ∈ wsX30, w ∈ wsX3_cellsBelow)
  have h := hf
  unfold fX3_cellsBelow at h
  refine lv_iconst (v := 0) hx hb dX3_cellsBelow_0 (by decide) ?_
  refine lv_istore_n (lv' := [(2, .int 0), (0, .ref q_s), (1, .int v1)]) hx hb dX3_cellsBelow_1 rfl hl (by decide) rfl (fun ls hl => ?_)
  refine lv_iconst (v := 0) hx hb dX3_cellsBelow_2 (by decide) ?_
  refine lv_istore_n (lv' := [(3, .int 0), (2, .int 0), (0, .ref q_s), (1, .int v1)]) hx hb dX3_cellsBelow_3 rfl hl (by decide) rfl (fun ls hl => ?_)
  have KL4 : ∀ (n : Nat) (v2_h4 : Int32) (v3_h4 : Int32) (ls : Array Slot), lv_has ls 4 [(0, .ref q_s), (1, .int v1), (2, .int v2_h4), (3, .int v3_h4)] → fX3_cellsBelow_L4 s_heights v1 n v2_h4 v3_h4 = some res → W p l e (headSpec wsX3_cellsBelow rmX3_cellsBelow).room s m ([.ref q_s, .int v1] : List Value).toArray below meth c s.heap [] 0 0 QQ (F0 m 4 ls []) := by
    intro  n
    induction n with
    | zero => intro v2_h4 v3_h4 ls hl h; rw [fX3_cellsBelow_L4.eq_1] at h; cases h
    | succ n ih =>
      intro v2_h4 v3_h4 ls hl h
      rw [fX3_cellsBelow_L4.eq_2] at h
      refine lv_iload_n hx hb dX3_cellsBelow_4 rfl (lv_at hl 3 rfl) ?_
      refine lv_bipush (v := 15) hx hb dX3_cellsBelow_5 (by decide) ?_
      refine lv_icmp_ge (tgt := 32) hx hb dX3_cellsBelow_7 (by decide) (fun c_1 => ?_) (fun c_1 => ?_)
      · have h := (if_pos c_1).symm.trans h
        refine lv_iload_n hx hb dX3_cellsBelow_32 rfl (lv_at hl 2 rfl) ?_
        rw [hQQ]
        exact W.iret (v := v2_h4) hx hb hr (fun t ht hW => ⟨_, rfl, Option.some.inj h, ht⟩) (fun q hq => by cases hq) dX3_cellsBelow_33
      · have h := (if_neg c_1).symm.trans h
        refine lv_aload_n hx hb dX3_cellsBelow_10 rfl (lv_at hl 0 rfl) ?_
        refine va_get (D := (dC, dI)) (ci := 3) (v := .ref q_s_heights) (C := RX3) (T := TX3) (N := 11) hx hb hts w_1 hown hK hP 0 rfl rfl 6 (by decide) w_0 (fun _ h9 => h9) rfl dX3_cellsBelow_11 ?_
        refine lv_iload_n hx hb dX3_cellsBelow_14 rfl (lv_at hl 3 rfl) ?_
        obtain ⟨b_2, h⟩ := chk_of h
        refine va_iald hx hb hK hP 1 0 rfl rfl (i := v3_h4) b_2 dX3_cellsBelow_15 ?_
        refine lv_iload_n hx hb dX3_cellsBelow_16 rfl (lv_at hl 1 rfl) ?_
        refine lv_icmp_ge (tgt := 26) hx hb dX3_cellsBelow_17 (by decide) (fun c_3 => ?_) (fun c_3 => ?_)
        · have h := (if_pos c_3).symm.trans h
          refine lv_iinc (v := (v3_h4 + 1)) (lv' := [(3, .int (v3_h4 + 1)), (0, .ref q_s), (1, .int v1), (2, .int v2_h4)]) hx hb dX3_cellsBelow_26 hl (k := 3) rfl rfl (by decide) rfl (fun ls hl => ?_)
          refine lv_goto (tgt := 4) hx hb dX3_cellsBelow_29 (by decide) ?_
          exact ih v2_h4 (v3_h4 + 1) _ (lv_sub hl [1, 2, 3, 0] rfl) h
        · have h := (if_neg c_3).symm.trans h
          refine lv_iload_n hx hb dX3_cellsBelow_20 rfl (lv_at hl 2 rfl) ?_
          refine lv_iconst (v := 1) hx hb dX3_cellsBelow_21 (by decide) ?_
          refine lv_iload_n hx hb dX3_cellsBelow_22 rfl (lv_at hl 3 rfl) ?_
          refine lv_ishl hx hb dX3_cellsBelow_23 ?_
          refine lv_ior hx hb dX3_cellsBelow_24 ?_
          refine lv_istore_n (lv' := [(2, .int (v2_h4 ||| (1 <<< (v3_h4 &&& 31)))), (0, .ref q_s), (1, .int v1), (3, .int v3_h4)]) hx hb dX3_cellsBelow_25 rfl hl (by decide) rfl (fun ls hl => ?_)
          refine lv_iinc (v := (v3_h4 + 1)) (lv' := [(3, .int (v3_h4 + 1)), (2, .int (v2_h4 ||| (1 <<< (v3_h4 &&& 31)))), (0, .ref q_s), (1, .int v1)]) hx hb dX3_cellsBelow_26 hl (k := 3) rfl rfl (by decide) rfl (fun ls hl => ?_)
          refine lv_goto (tgt := 4) hx hb dX3_cellsBelow_29 (by decide) ?_
          exact ih (v2_h4 ||| (1 <<< (v3_h4 &&& 31))) (v3_h4 + 1) _ (lv_sub hl [2, 3, 1, 0] rfl) h
  exact KL4 FU 0 0 _ (lv_sub hl [2, 3, 1, 0] rfl) h
def fX3_dryBehind (s_low : Int32) (s_high : Int32) (s_hour : Int32) (s_heights : (Nat → Int32)) (v1 : Int32) : Option (Int32) :=
  bd1 (fX3_levelBehind s_low s_high s_hour v1) (fun r_1 => bd1 (fX3_cellsBelow s_heights (r_1 + 1)) (fun r_2 => some ((32767 &&& (r_2 ^^^ (-1))))))
abbrev rmX3_dryBehind : Room := { frames := 1, cells := 0, slots := 0, locals := 23 }
theorem ddX3_dryBehind : yX3_dryBehind.cls ≠ "java/lang/invoke/MethodHandle" ∧ yX3_dryBehind.cls ≠ "java/lang/invoke/VarHandle" ∧ (parseMethodDescriptor yX3_dryBehind.desc).map (fun d => d.parameters.length) = some 1 := by decide +kernel
set_option maxHeartbeats 4000000 in
set_option maxRecDepth 100000 in
theorem m_X3_dryBehind (l : Launch) (dC : Nat → ClassId) (dI : Nat → Nat → Nat) (cI cZ : ClassId) (q_s q_s_heights q_s_holders q_s_kinds q_s_purses q_s_homes : Nat) (s_told : Int32) (s_low : Int32) (s_high : Int32) (s_price : Int32) (s_hour : Int32) (s_bidders : Int32) (s_heights : (Nat → Int32)) (s_holders : (Nat → Int32)) (s_kinds : (Nat → Int32)) (s_purses : (Nat → Int32)) (s_homes : (Nat → Int32)) (v1 : Int32) (res : Int32) (hf : fX3_dryBehind s_low s_high s_hour s_heights v1 = some res) : Met l yX3_dryBehind wsX3_dryBehind rmX3_dryBehind (rdPc (dC, dI) (tyZ cI cZ) ((W_Isle cI cZ q_s q_s_heights q_s_holders q_s_kinds q_s_purses q_s_homes s_told s_low s_high s_price s_hour s_bidders s_heights s_holders s_kinds s_purses s_homes)) [.ref q_s, .int v1]) (rdQ res) 0 0 (fun _ => False) := by
  refine Met.ofW (cc := cX3_dryBehind) (maxL := 2) (ret := (some .int)) (by decide) rfl ?_
  intro p e s m args below meth c s₁ B hml hv
  obtain ⟨rfl, hP, hK⟩ := hv
  have hx := B.exec
  have hb := B.bytes
  have hr := B.returns
  have hts := atoms_spec (ws := wsX3_dryBehind) B.pre
  have hown : s.vm.findClass RX3 = some m.cls := findClass_of_methodNamed B.named
  have hlocks := B.notSynchronized
  have hl := lv_entry ([.ref q_s, .int v1]) (n := 2) (Nat.le_of_ble_eq_true rfl)
  rw [lg_entry_eq]
  generalize (lg_sl ([.ref q_s, .int v1]) ++ List.replicate (2 - (lg_sl ([.ref q_s, .int v1])).length) Slot.unset).toArray = ls at hl ⊢
  have hl : lv_has ls 2 [(0, .ref q_s), (1, .int v1)] := hl
  obtain ⟨QQ, hQQ⟩ : ∃ Q, Q = MQ below (rdQ res) ([.ref q_s, .int v1] : List Value).toArray s 0 0 (fun _ => False) := ⟨_, rfl⟩
  rw [← hQQ]
  have h := hf
  unfold fX3_dryBehind at h
  refine lv_sipush (v := 32767) hx hb dX3_dryBehind_0 (by decide) ?_
  refine lv_aload_n hx hb dX3_dryBehind_3 rfl (lv_at hl 0 rfl) ?_
  refine lv_aload_n hx hb dX3_dryBehind_4 rfl (lv_at hl 0 rfl) ?_
  refine lv_iload_n hx hb dX3_dryBehind_5 rfl (lv_at hl 1 rfl) ?_
  obtain ⟨r_1, hc_1, h⟩ := bd1_of h
  refine cl_rV (As := [.int v1]) (rest := [.ref q_s, .int 32767]) ⟨hx, hb, hml, hown, hts⟩ (m_X3_levelBehind l dC dI cI cZ q_s q_s_heights q_s_holders q_s_kinds q_s_purses q_s_homes s_told s_low s_high s_price s_hour s_bidders s_heights s_holders s_kinds s_purses s_homes v1 (r_1) hc_1) (cwV 1 hts gX3_dryBehind_X3_levelBehind rfl rfl rfl ⟨rfl, ddX3_levelBehind⟩ ⟨Nat.le_of_ble_eq_true rfl, Nat.le_of_ble_eq_true rfl⟩) hK hP [0, 1, 2, 3, 4, 5] rfl rfl rfl rfl rfl hl.1 (Nat.le_of_ble_eq_true rfl) ⟨Nat.zero_le _, Nat.zero_le _⟩ dX3_dryBehind_6 ?_
  refine lv_iconst (v := 1) hx hb dX3_dryBehind_9 (by decide) ?_
  refine lv_iadd hx hb dX3_dryBehind_10 ?_
  obtain ⟨r_2, hc_2, h⟩ := bd1_of h
  refine cl_rV (As := [.int (r_1 + 1)]) (rest := [.int 32767]) ⟨hx, hb, hml, hown, hts⟩ (m_X3_cellsBelow l dC dI cI cZ q_s q_s_heights q_s_holders q_s_kinds q_s_purses q_s_homes s_told s_low s_high s_price s_hour s_bidders s_heights s_holders s_kinds s_purses s_homes (r_1 + 1) (r_2) hc_2) (cwV 1 hts gX3_dryBehind_X3_cellsBelow rfl rfl rfl ⟨rfl, ddX3_cellsBelow⟩ ⟨Nat.le_of_ble_eq_true rfl, Nat.le_of_ble_eq_true rfl⟩) hK hP [0, 1, 2, 3, 4, 5] rfl rfl rfl rfl rfl hl.1 (Nat.le_of_ble_eq_true rfl) ⟨Nat.zero_le _, Nat.zero_le _⟩ dX3_dryBehind_11 ?_
  refine lv_iconst (v := (-1)) hx hb dX3_dryBehind_14 (by decide) ?_
  refine lv_ixor hx hb dX3_dryBehind_15 ?_
  refine lv_iand hx hb dX3_dryBehind_16 ?_
  rw [hQQ]
  exact W.iret (v := (32767 &&& (r_2 ^^^ (-1)))) hx hb hr (fun t ht hW => ⟨_, rfl, Option.some.inj h, ht⟩) (fun q hq => by cases hq) dX3_dryBehind_17

def fX3_raisedSo_J62 (v1 : Int32) (v3 : Int32) (r20 : Int32 → Int32 → Option (Int32)) (v6_h20 : Int32) (v7_h20 : Int32) (w0_j62 : Int32) : Option (Int32) :=
  (if (v1 &&& (1 <<< (v7_h20 &&& 31))) = 0 then (r20 v6_h20 (v7_h20 + 1)) else (if w0_j62 = v3 then (r20 (v6_h20 ||| (1 <<< (v7_h20 &&& 31))) (v7_h20 + 1)) else (r20 v6_h20 (v7_h20 + 1))))
def fX3_raisedSo_L20 (s_heights : (Nat → Int32)) (v1 : Int32) (v3 : Int32) (r_1 : Int32) (r_2 : Int32) : Nat → Int32 → Int32 → Option (Int32)
  | 0, _, _ => none
  | n + 1, v6_h20, v7_h20 => (if 15 ≤ v7_h20 then some (v6_h20) else chk (¬ (v7_h20 < 0 ∨ 15 ≤ v7_h20.toNatClampNeg)) ((if ((s_heights v7_h20.toNatClampNeg) + 1) ≤ r_1 then (fX3_raisedSo_J62 v1 v3 (fX3_raisedSo_L20 s_heights v1 v3 r_1 r_2 n) v6_h20 v7_h20 (r_2 &&& ((1 <<< (v7_h20 &&& 31)) ^^^ (-1)))) else (fX3_raisedSo_J62 v1 v3 (fX3_raisedSo_L20 s_heights v1 v3 r_1 r_2 n) v6_h20 v7_h20 (r_2 ||| (1 <<< (v7_h20 &&& 31)))))))
def fX3_raisedSo (s_low : Int32) (s_high : Int32) (s_hour : Int32) (s_heights : (Nat → Int32)) (v1 : Int32) (v2 : Int32) (v3 : Int32) : Option (Int32) :=
  bd1 (fX3_levelBehind s_low s_high s_hour v2) (fun r_1 => bd1 (fX3_dryBehind s_low s_high s_hour s_heights v2) (fun r_2 => (fX3_raisedSo_L20 s_heights v1 v3 r_1 r_2 FU 0 0)))
abbrev rmX3_raisedSo : Room := { frames := 2, cells := 0, slots := 0, locals := 44 }
theorem ddX3_raisedSo : yX3_raisedSo.cls ≠ "java/lang/invoke/MethodHandle" ∧ yX3_raisedSo.cls ≠ "java/lang/invoke/VarHandle" ∧ (parseMethodDescriptor yX3_raisedSo.desc).map (fun d => d.parameters.length) = some 3 := by decide +kernel
set_option maxHeartbeats 4000000 in
set_option maxRecDepth 100000 in
theorem m_X3_raisedSo (l : Launch) (dC : Nat → ClassId) (dI : Nat → Nat → Nat) (cI cZ : ClassId) (q_s q_s_heights q_s_holders q_s_kinds q_s_purses q_s_homes : Nat) (s_told : Int32) (s_low : Int32) (s_high : Int32) (s_price : Int32) (s_hour : Int32) (s_bidders : Int32) (s_heights : (Nat → Int32)) (s_holders : (Nat → Int32)) (s_kinds : (Nat → Int32)) (s_purses : (Nat → Int32)) (s_homes : (Nat → Int32)) (v1 : Int32) (v2 : Int32) (v3 : Int32) (res : Int32) (hf : fX3_raisedSo s_low s_high s_hour s_heights v1 v2 v3 = some res) : Met l yX3_raisedSo wsX3_raisedSo rmX3_raisedSo (rdPc (dC, dI) (tyZ cI cZ) ((W_Isle cI cZ q_s q_s_heights q_s_holders q_s_kinds q_s_purses q_s_homes s_told s_low s_high s_price s_hour s_bidders s_heights s_holders s_kinds s_purses s_homes)) [.ref q_s, .int v1, .int v2, .int v3]) (rdQ res) 0 0 (fun _ => False) := by
  refine Met.ofW (cc := cX3_raisedSo) (maxL := 10) (ret := (some .int)) (by decide) rfl ?_
  intro p e s m args below meth c s₁ B hml hv
  obtain ⟨rfl, hP, hK⟩ := hv
  have hx := B.exec
  have hb := B.bytes
  have hr := B.returns
  have hts := atoms_spec (ws := wsX3_raisedSo) B.pre
  have hown : s.vm.findClass RX3 = some m.cls := findClass_of_methodNamed B.named
  have hlocks := B.notSynchronized
  have hl := lv_entry ([.ref q_s, .int v1, .int v2, .int v3]) (n := 10) (Nat.le_of_ble_eq_true rfl)
  rw [lg_entry_eq]
  generalize (lg_sl ([.ref q_s, .int v1, .int v2, .int v3]) ++ List.replicate (10 - (lg_sl ([.ref q_s, .int v1, .int v2, .int v3])).length) Slot.unset).toArray = ls at hl ⊢
  have hl : lv_has ls 10 [(0, .ref q_s), (1, .int v1), (2, .int v2), (3, .int v3)] := hl
  obtain ⟨QQ, hQQ⟩ : ∃ Q, Q = MQ below (rdQ res) ([.ref q_s, .int v1, .int v2, .int v3] : List Value).toArray s 0 0 (fun _ => False) := ⟨_, rfl⟩
  rw [← hQQ]
  have w_0 := hts (Cond.fieldLink RX3 9 "TideInches$Isle" "heights" "[I") (List.mem_of_getElem? (i := 1) rfl)
  have w_1 := (fun w hw => List.mem_cons_of_mem _ (List.mem_append_right _ hw) : ∀ w ∈ wsX30, w ∈ wsX3_raisedSo)
  have h := hf
  unfold fX3_raisedSo at h
  refine lv_aload_n hx hb dX3_raisedSo_0 rfl (lv_at hl 0 rfl) ?_
  refine lv_iload_n hx hb dX3_raisedSo_1 rfl (lv_at hl 2 rfl) ?_
  obtain ⟨r_1, hc_1, h⟩ := bd1_of h
  refine cl_rV (As := [.int v2]) (rest := []) ⟨hx, hb, hml, hown, hts⟩ (m_X3_levelBehind l dC dI cI cZ q_s q_s_heights q_s_holders q_s_kinds q_s_purses q_s_homes s_told s_low s_high s_price s_hour s_bidders s_heights s_holders s_kinds s_purses s_homes v2 (r_1) hc_1) (cwV 1 hts gX3_raisedSo_X3_levelBehind rfl rfl rfl ⟨rfl, ddX3_levelBehind⟩ ⟨Nat.le_of_ble_eq_true rfl, Nat.le_of_ble_eq_true rfl⟩) hK hP [0, 1, 2, 3, 4, 5] rfl rfl rfl rfl rfl hl.1 (Nat.le_of_ble_eq_true rfl) ⟨Nat.zero_le _, Nat.zero_le _⟩ dX3_raisedSo_2 ?_
  refine lv_istore (lv' := [(4, .int r_1), (0, .ref q_s), (1, .int v1), (2, .int v2), (3, .int v3)]) hx hb dX3_raisedSo_5 hl (by decide) rfl (fun ls hl => ?_)
  refine lv_aload_n hx hb dX3_raisedSo_7 rfl (lv_at hl 1 rfl) ?_
  refine lv_iload_n hx hb dX3_raisedSo_8 rfl (lv_at hl 3 rfl) ?_
  obtain ⟨r_2, hc_2, h⟩ := bd1_of h
  refine cl_rV (As := [.int v2]) (rest := []) ⟨hx, hb, hml, hown, hts⟩ (m_X3_dryBehind l dC dI cI cZ q_s q_s_heights q_s_holders q_s_kinds q_s_purses q_s_homes s_told s_low s_high s_price s_hour s_bidders s_heights s_holders s_kinds s_purses s_homes v2 (r_2) hc_2) (cwV 1 hts gX3_raisedSo_X3_dryBehind rfl rfl rfl ⟨rfl, ddX3_dryBehind⟩ ⟨Nat.le_of_ble_eq_true rfl, Nat.le_of_ble_eq_true rfl⟩) hK hP [0, 1, 2, 3, 4, 5] rfl rfl rfl rfl rfl hl.1 (Nat.le_of_ble_eq_true rfl) ⟨Nat.zero_le _, Nat.zero_le _⟩ dX3_raisedSo_9 ?_
  refine lv_istore (lv' := [(5, .int r_2), (4, .int r_1), (0, .ref q_s), (1, .int v1), (2, .int v2), (3, .int v3)]) hx hb dX3_raisedSo_12 hl (by decide) rfl (fun ls hl => ?_)
  refine lv_iconst (v := 0) hx hb dX3_raisedSo_14 (by decide) ?_
  refine lv_istore (lv' := [(6, .int 0), (5, .int r_2), (4, .int r_1), (0, .ref q_s), (1, .int v1), (2, .int v2), (3, .int v3)]) hx hb dX3_raisedSo_15 hl (by decide) rfl (fun ls hl => ?_)
  refine lv_iconst (v := 0) hx hb dX3_raisedSo_17 (by decide) ?_
  refine lv_istore (lv' := [(7, .int 0), (6, .int 0), (5, .int r_2), (4, .int r_1), (0, .ref q_s), (1, .int v1), (2, .int v2), (3, .int v3)]) hx hb dX3_raisedSo_18 hl (by decide) rfl (fun ls hl => ?_)
  have KL20 : ∀ (n : Nat) (v6_h20 : Int32) (v7_h20 : Int32) (ls : Array Slot), lv_has ls 10 [(0, .ref q_s), (1, .int v1), (3, .int v3), (4, .int r_1), (5, .int r_2), (6, .int v6_h20), (7, .int v7_h20)] → fX3_raisedSo_L20 s_heights v1 v3 r_1 r_2 n v6_h20 v7_h20 = some res → W p l e (headSpec wsX3_raisedSo rmX3_raisedSo).room s m ([.ref q_s, .int v1, .int v2, .int v3] : List Value).toArray below meth c s.heap [] 0 0 QQ (F0 m 20 ls []) := by
    intro  n
    induction n with
    | zero => intro v6_h20 v7_h20 ls hl h; rw [fX3_raisedSo_L20.eq_1] at h; cases h
    | succ n ih =>
      intro v6_h20 v7_h20 ls hl h
      rw [fX3_raisedSo_L20.eq_2] at h
      refine lv_iload hx hb dX3_raisedSo_20 (lv_at hl 6 rfl) ?_
      refine lv_bipush (v := 15) hx hb dX3_raisedSo_22 (by decide) ?_
      refine lv_icmp_ge (tgt := 90) hx hb dX3_raisedSo_24 (by decide) (fun c_3 => ?_) (fun c_3 => ?_)
      · have h := (if_pos c_3).symm.trans h
        refine lv_iload hx hb dX3_raisedSo_90 (lv_at hl 5 rfl) ?_
        rw [hQQ]
        exact W.iret (v := v6_h20) hx hb hr (fun t ht hW => ⟨_, rfl, Option.some.inj h, ht⟩) (fun q hq => by cases hq) dX3_raisedSo_92
      · have h := (if_neg c_3).symm.trans h
        refine lv_iconst (v := 1) hx hb dX3_raisedSo_27 (by decide) ?_
        refine lv_iload hx hb dX3_raisedSo_28 (lv_at hl 6 rfl) ?_
        refine lv_ishl hx hb dX3_raisedSo_30 ?_
        refine lv_istore (lv' := [(8, .int (1 <<< (v7_h20 &&& 31))), (0, .ref q_s), (1, .int v1), (3, .int v3), (4, .int r_1), (5, .int r_2), (6, .int v6_h20), (7, .int v7_h20)]) hx hb dX3_raisedSo_31 hl (by decide) rfl (fun ls hl => ?_)
        refine lv_aload_n hx hb dX3_raisedSo_33 rfl (lv_at hl 1 rfl) ?_
        refine va_get (D := (dC, dI)) (ci := 3) (v := .ref q_s_heights) (C := RX3) (T := TX3) (N := 11) hx hb hts w_1 hown hK hP 0 rfl rfl 6 (by decide) w_0 (fun _ h9 => h9) rfl dX3_raisedSo_34 ?_
        refine lv_iload hx hb dX3_raisedSo_37 (lv_at hl 7 rfl) ?_
        obtain ⟨b_4, h⟩ := chk_of h
        refine va_iald hx hb hK hP 1 0 rfl rfl (i := v7_h20) b_4 dX3_raisedSo_39 ?_
        refine lv_iconst (v := 1) hx hb dX3_raisedSo_40 (by decide) ?_
        refine lv_iadd hx hb dX3_raisedSo_41 ?_
        refine lv_iload hx hb dX3_raisedSo_42 (lv_at hl 4 rfl) ?_
        have KJ62 : ∀ (w0_j62 : Int32) (ls : Array Slot), lv_has ls 10 [(0, .ref q_s), (1, .int v1), (3, .int v3), (4, .int r_1), (5, .int r_2), (6, .int v6_h20), (7, .int v7_h20), (8, .int (1 <<< (v7_h20 &&& 31)))] → fX3_raisedSo_J62 v1 v3 (fX3_raisedSo_L20 s_heights v1 v3 r_1 r_2 n) v6_h20 v7_h20 w0_j62 = some res → W p l e (headSpec wsX3_raisedSo rmX3_raisedSo).room s m ([.ref q_s, .int v1, .int v2, .int v3] : List Value).toArray below meth c s.heap [] 0 0 QQ (F0 m 62 ls [.int w0_j62]) := by
          intro w0_j62 ls hl h
          unfold fX3_raisedSo_J62 at h
          refine lv_istore (lv' := [(9, .int w0_j62), (0, .ref q_s), (1, .int v1), (3, .int v3), (4, .int r_1), (5, .int r_2), (6, .int v6_h20), (7, .int v7_h20), (8, .int (1 <<< (v7_h20 &&& 31)))]) hx hb dX3_raisedSo_62 hl (by decide) rfl (fun ls hl => ?_)
          refine lv_iload_n hx hb dX3_raisedSo_64 rfl (lv_at hl 2 rfl) ?_
          refine lv_iload hx hb dX3_raisedSo_65 (lv_at hl 8 rfl) ?_
          refine lv_iand hx hb dX3_raisedSo_67 ?_
          refine lv_if_eq (tgt := 84) hx hb dX3_raisedSo_68 (by decide) (fun c_5 => ?_) (fun c_5 => ?_)
          · have h := (if_pos c_5).symm.trans h
            refine lv_iinc (v := (v7_h20 + 1)) (lv' := [(7, .int (v7_h20 + 1)), (9, .int w0_j62), (0, .ref q_s), (1, .int v1), (3, .int v3), (4, .int r_1), (5, .int r_2), (6, .int v6_h20), (8, .int (1 <<< (v7_h20 &&& 31)))]) hx hb dX3_raisedSo_84 hl (k := 7) rfl rfl (by decide) rfl (fun ls hl => ?_)
            refine lv_goto (tgt := 20) hx hb dX3_raisedSo_87 (by decide) ?_
            exact ih v6_h20 (v7_h20 + 1) _ (lv_sub hl [2, 3, 4, 5, 6, 7, 0] rfl) h
          · have h := (if_neg c_5).symm.trans h
            refine lv_iload hx hb dX3_raisedSo_71 (lv_at hl 0 rfl) ?_
            refine lv_iload_n hx hb dX3_raisedSo_73 rfl (lv_at hl 3 rfl) ?_
            refine lv_icmp_ne (tgt := 84) hx hb dX3_raisedSo_74 (by decide) (fun c_6 => ?_) (fun c_6 => ?_)
            · have h := (if_neg c_6).symm.trans h
              refine lv_iinc (v := (v7_h20 + 1)) (lv' := [(7, .int (v7_h20 + 1)), (9, .int w0_j62), (0, .ref q_s), (1, .int v1), (3, .int v3), (4, .int r_1), (5, .int r_2), (6, .int v6_h20), (8, .int (1 <<< (v7_h20 &&& 31)))]) hx hb dX3_raisedSo_84 hl (k := 7) rfl rfl (by decide) rfl (fun ls hl => ?_)
              refine lv_goto (tgt := 20) hx hb dX3_raisedSo_87 (by decide) ?_
              exact ih v6_h20 (v7_h20 + 1) _ (lv_sub hl [2, 3, 4, 5, 6, 7, 0] rfl) h
            · have h := (if_pos c_6).symm.trans h
              refine lv_iload hx hb dX3_raisedSo_77 (lv_at hl 6 rfl) ?_
              refine lv_iload hx hb dX3_raisedSo_79 (lv_at hl 8 rfl) ?_
              refine lv_ior hx hb dX3_raisedSo_81 ?_
              refine lv_istore (lv' := [(6, .int (v6_h20 ||| (1 <<< (v7_h20 &&& 31)))), (9, .int w0_j62), (0, .ref q_s), (1, .int v1), (3, .int v3), (4, .int r_1), (5, .int r_2), (7, .int v7_h20), (8, .int (1 <<< (v7_h20 &&& 31)))]) hx hb dX3_raisedSo_82 hl (by decide) rfl (fun ls hl => ?_)
              refine lv_iinc (v := (v7_h20 + 1)) (lv' := [(7, .int (v7_h20 + 1)), (6, .int (v6_h20 ||| (1 <<< (v7_h20 &&& 31)))), (9, .int w0_j62), (0, .ref q_s), (1, .int v1), (3, .int v3), (4, .int r_1), (5, .int r_2), (8, .int (1 <<< (v7_h20 &&& 31)))]) hx hb dX3_raisedSo_84 hl (k := 7) rfl rfl (by decide) rfl (fun ls hl => ?_)
              refine lv_goto (tgt := 20) hx hb dX3_raisedSo_87 (by decide) ?_
              exact ih (v6_h20 ||| (1 <<< (v7_h20 &&& 31))) (v7_h20 + 1) _ (lv_sub hl [3, 4, 5, 6, 7, 1, 0] rfl) h
        refine lv_icmp_le (tgt := 55) hx hb dX3_raisedSo_44 (by decide) (fun c_7 => ?_) (fun c_7 => ?_)
        · have h := (if_pos c_7).symm.trans h
          refine lv_iload hx hb dX3_raisedSo_55 (lv_at hl 5 rfl) ?_
          refine lv_iload hx hb dX3_raisedSo_57 (lv_at hl 0 rfl) ?_
          refine lv_iconst (v := (-1)) hx hb dX3_raisedSo_59 (by decide) ?_
          refine lv_ixor hx hb dX3_raisedSo_60 ?_
          refine lv_iand hx hb dX3_raisedSo_61 ?_
          exact KJ62 (r_2 &&& ((1 <<< (v7_h20 &&& 31)) ^^^ (-1))) _ (lv_sub hl [1, 2, 3, 4, 5, 6, 7, 0] rfl) h
        · have h := (if_neg c_7).symm.trans h
          refine lv_iload hx hb dX3_raisedSo_47 (lv_at hl 5 rfl) ?_
          refine lv_iload hx hb dX3_raisedSo_49 (lv_at hl 0 rfl) ?_
          refine lv_ior hx hb dX3_raisedSo_51 ?_
          refine lv_goto (tgt := 62) hx hb dX3_raisedSo_52 (by decide) ?_
          exact KJ62 (r_2 ||| (1 <<< (v7_h20 &&& 31))) _ (lv_sub hl [1, 2, 3, 4, 5, 6, 7, 0] rfl) h
  exact KL20 FU 0 0 _ (lv_sub hl [4, 5, 7, 3, 2, 1, 0] rfl) h
def fX3_cost (s_price : Int32) (s_heights : (Nat → Int32)) (v1 : Int32) (v2 : Int32) : Option (Int32) :=
  chk (¬ (v2 < 0 ∨ 15 ≤ v2.toNatClampNeg)) (bd1 (fX4_cost v1 s_price (s_heights v2.toNatClampNeg)) (fun r_2 => some (r_2)))
abbrev rmX3_cost : Room := { frames := 1, cells := 0, slots := 0, locals := 22 }
theorem ddX3_cost : yX3_cost.cls ≠ "java/lang/invoke/MethodHandle" ∧ yX3_cost.cls ≠ "java/lang/invoke/VarHandle" ∧ (parseMethodDescriptor yX3_cost.desc).map (fun d => d.parameters.length) = some 2 := by decide +kernel
set_option maxHeartbeats 4000000 in
set_option maxRecDepth 100000 in
theorem m_X3_cost (l : Launch) (dC : Nat → ClassId) (dI : Nat → Nat → Nat) (cI cZ : ClassId) (q_s q_s_heights q_s_holders q_s_kinds q_s_purses q_s_homes : Nat) (s_told : Int32) (s_low : Int32) (s_high : Int32) (s_price : Int32) (s_hour : Int32) (s_bidders : Int32) (s_heights : (Nat → Int32)) (s_holders : (Nat → Int32)) (s_kinds : (Nat → Int32)) (s_purses : (Nat → Int32)) (s_homes : (Nat → Int32)) (v1 : Int32) (v2 : Int32) (res : Int32) (hf : fX3_cost s_price s_heights v1 v2 = some res) : Met l yX3_cost wsX3_cost rmX3_cost (rdPc (dC, dI) (tyZ cI cZ) ((W_Isle cI cZ q_s q_s_heights q_s_holders q_s_kinds q_s_purses q_s_homes s_told s_low s_high s_price s_hour s_bidders s_heights s_holders s_kinds s_purses s_homes)) [.ref q_s, .int v1, .int v2]) (rdQ res) 0 0 (fun _ => False) := by
  refine Met.ofW (cc := cX3_cost) (maxL := 3) (ret := (some .int)) (by decide) rfl ?_
  intro p e s m args below meth c s₁ B hml hv
  obtain ⟨rfl, hP, hK⟩ := hv
  have hx := B.exec
  have hb := B.bytes
  have hr := B.returns
  have hts := atoms_spec (ws := wsX3_cost) B.pre
  have hown : s.vm.findClass RX3 = some m.cls := findClass_of_methodNamed B.named
  have hlocks := B.notSynchronized
  have hl := lv_entry ([.ref q_s, .int v1, .int v2]) (n := 3) (Nat.le_of_ble_eq_true rfl)
  rw [lg_entry_eq]
  generalize (lg_sl ([.ref q_s, .int v1, .int v2]) ++ List.replicate (3 - (lg_sl ([.ref q_s, .int v1, .int v2])).length) Slot.unset).toArray = ls at hl ⊢
  have hl : lv_has ls 3 [(0, .ref q_s), (1, .int v1), (2, .int v2)] := hl
  obtain ⟨QQ, hQQ⟩ : ∃ Q, Q = MQ below (rdQ res) ([.ref q_s, .int v1, .int v2] : List Value).toArray s 0 0 (fun _ => False) := ⟨_, rfl⟩
  rw [← hQQ]
  have w_0 := hts (Cond.fieldLink RX3 47 "TideInches$Isle" "price" "I") (List.mem_of_getElem? (i := 1) rfl)
  have w_1 := (fun w hw => List.mem_cons_of_mem _ (List.mem_append_right _ hw) : ∀ w ∈ wsX30, w ∈ wsX3_cost)
  have w_2 := hts (Cond.fieldLink RX3 9 "TideInches$Isle" "heights" "[I") (List.mem_of_getElem? (i := 2) rfl)
  have h := hf
  unfold fX3_cost at h
  refine lv_iload_n hx hb dX3_cost_0 rfl (lv_at hl 1 rfl) ?_
  refine lv_aload_n hx hb dX3_cost_1 rfl (lv_at hl 0 rfl) ?_
  refine va_get (D := (dC, dI)) (ci := 3) (v := .int s_price) (C := RX3) (T := TX3) (N := 11) hx hb hts w_1 hown hK hP 0 rfl rfl 3 (by decide) w_0 (fun _ h9 => h9) rfl dX3_cost_2 ?_
  refine lv_aload_n hx hb dX3_cost_5 rfl (lv_at hl 0 rfl) ?_
  refine va_get (D := (dC, dI)) (ci := 3) (v := .ref q_s_heights) (C := RX3) (T := TX3) (N := 11) hx hb hts w_1 hown hK hP 0 rfl rfl 6 (by decide) w_2 (fun _ h9 => h9) rfl dX3_cost_6 ?_
  refine lv_iload_n hx hb dX3_cost_9 rfl (lv_at hl 2 rfl) ?_
  obtain ⟨b_1, h⟩ := chk_of h
  refine va_iald hx hb hK hP 1 0 rfl rfl (i := v2) b_1 dX3_cost_10 ?_
  obtain ⟨r_2, hc_2, h⟩ := bd1_of h
  refine cl_pS (As := [.int v1, .int s_price, .int (s_heights v2.toNatClampNeg)]) (rest := []) ⟨hx, hb, hml, hown, hts⟩ (m_X4_cost l v1 s_price (s_heights v2.toNatClampNeg) (r_2) hc_2) (va_cwS 3 hts gX3_cost_X4_cost rfl rfl rfl ddX4_cost ⟨Nat.le_of_ble_eq_true rfl, Nat.le_of_ble_eq_true rfl⟩) rfl rfl hl.1 (Nat.le_of_ble_eq_true rfl) ⟨Nat.zero_le _, Nat.zero_le _⟩ dX3_cost_11 ?_
  rw [hQQ]
  exact W.iret (v := r_2) hx hb hr (fun t ht hW => ⟨_, rfl, Option.some.inj h, ht⟩) (fun q hq => by cases hq) dX3_cost_14
def fX3_costTo (s_price : Int32) (s_heights : (Nat → Int32)) (s_kinds : (Nat → Int32)) (v1 : Int32) (v2 : Int32) : Option (Int32) :=
  chk (¬ (v1 < 0 ∨ 5 ≤ v1.toNatClampNeg)) (bd1 (fX3_cost s_price s_heights (s_kinds v1.toNatClampNeg) v2) (fun r_2 => some (r_2)))
abbrev rmX3_costTo : Room := { frames := 2, cells := 0, slots := 0, locals := 44 }
theorem ddX3_costTo : yX3_costTo.cls ≠ "java/lang/invoke/MethodHandle" ∧ yX3_costTo.cls ≠ "java/lang/invoke/VarHandle" ∧ (parseMethodDescriptor yX3_costTo.desc).map (fun d => d.parameters.length) = some 2 := by decide +kernel
set_option maxHeartbeats 4000000 in
set_option maxRecDepth 100000 in
theorem m_X3_costTo (l : Launch) (dC : Nat → ClassId) (dI : Nat → Nat → Nat) (cI cZ : ClassId) (q_s q_s_heights q_s_holders q_s_kinds q_s_purses q_s_homes : Nat) (s_told : Int32) (s_low : Int32) (s_high : Int32) (s_price : Int32) (s_hour : Int32) (s_bidders : Int32) (s_heights : (Nat → Int32)) (s_holders : (Nat → Int32)) (s_kinds : (Nat → Int32)) (s_purses : (Nat → Int32)) (s_homes : (Nat → Int32)) (v1 : Int32) (v2 : Int32) (res : Int32) (hf : fX3_costTo s_price s_heights s_kinds v1 v2 = some res) : Met l yX3_costTo wsX3_costTo rmX3_costTo (rdPc (dC, dI) (tyZ cI cZ) ((W_Isle cI cZ q_s q_s_heights q_s_holders q_s_kinds q_s_purses q_s_homes s_told s_low s_high s_price s_hour s_bidders s_heights s_holders s_kinds s_purses s_homes)) [.ref q_s, .int v1, .int v2]) (rdQ res) 0 0 (fun _ => False) := by
  refine Met.ofW (cc := cX3_costTo) (maxL := 3) (ret := (some .int)) (by decide) rfl ?_
  intro p e s m args below meth c s₁ B hml hv
  obtain ⟨rfl, hP, hK⟩ := hv
  have hx := B.exec
  have hb := B.bytes
  have hr := B.returns
  have hts := atoms_spec (ws := wsX3_costTo) B.pre
  have hown : s.vm.findClass RX3 = some m.cls := findClass_of_methodNamed B.named
  have hlocks := B.notSynchronized
  have hl := lv_entry ([.ref q_s, .int v1, .int v2]) (n := 3) (Nat.le_of_ble_eq_true rfl)
  rw [lg_entry_eq]
  generalize (lg_sl ([.ref q_s, .int v1, .int v2]) ++ List.replicate (3 - (lg_sl ([.ref q_s, .int v1, .int v2])).length) Slot.unset).toArray = ls at hl ⊢
  have hl : lv_has ls 3 [(0, .ref q_s), (1, .int v1), (2, .int v2)] := hl
  obtain ⟨QQ, hQQ⟩ : ∃ Q, Q = MQ below (rdQ res) ([.ref q_s, .int v1, .int v2] : List Value).toArray s 0 0 (fun _ => False) := ⟨_, rfl⟩
  rw [← hQQ]
  have w_0 := hts (Cond.fieldLink RX3 18 "TideInches$Isle" "kinds" "[I") (List.mem_of_getElem? (i := 1) rfl)
  have w_1 := (fun w hw => List.mem_cons_of_mem _ (List.mem_append_right _ hw) : ∀ w ∈ wsX30, w ∈ wsX3_costTo)
  have h := hf
  unfold fX3_costTo at h
  refine lv_aload_n hx hb dX3_costTo_0 rfl (lv_at hl 0 rfl) ?_
  refine lv_aload_n hx hb dX3_costTo_1 rfl (lv_at hl 0 rfl) ?_
  refine va_get (D := (dC, dI)) (ci := 3) (v := .ref q_s_kinds) (C := RX3) (T := TX3) (N := 11) hx hb hts w_1 hown hK hP 0 rfl rfl 8 (by decide) w_0 (fun _ h9 => h9) rfl dX3_costTo_2 ?_
  refine lv_iload_n hx hb dX3_costTo_5 rfl (lv_at hl 1 rfl) ?_
  obtain ⟨b_1, h⟩ := chk_of h
  refine va_iald hx hb hK hP 3 0 rfl rfl (i := v1) b_1 dX3_costTo_6 ?_
  refine lv_iload_n hx hb dX3_costTo_7 rfl (lv_at hl 2 rfl) ?_
  obtain ⟨r_2, hc_2, h⟩ := bd1_of h
  refine cl_rV (As := [.int (s_kinds v1.toNatClampNeg), .int v2]) (rest := []) ⟨hx, hb, hml, hown, hts⟩ (m_X3_cost l dC dI cI cZ q_s q_s_heights q_s_holders q_s_kinds q_s_purses q_s_homes s_told s_low s_high s_price s_hour s_bidders s_heights s_holders s_kinds s_purses s_homes (s_kinds v1.toNatClampNeg) v2 (r_2) hc_2) (cwV 2 hts gX3_costTo_X3_cost rfl rfl rfl ⟨rfl, ddX3_cost⟩ ⟨Nat.le_of_ble_eq_true rfl, Nat.le_of_ble_eq_true rfl⟩) hK hP [0, 1, 2, 3, 4, 5] rfl rfl rfl rfl rfl hl.1 (Nat.le_of_ble_eq_true rfl) ⟨Nat.zero_le _, Nat.zero_le _⟩ dX3_costTo_8 ?_
  rw [hQQ]
  exact W.iret (v := r_2) hx hb hr (fun t ht hW => ⟨_, rfl, Option.some.inj h, ht⟩) (fun q hq => by cases hq) dX3_costTo_11
def fX3_costOf_L5 (s_price : Int32) (s_heights : (Nat → Int32)) (v1 : Int32) (v2 : Int32) : Nat → Int32 → Int32 → Option (Int32)
  | 0, _, _ => none
  | n + 1, v3_h5, v4_h5 => (if 15 ≤ v4_h5 then some (v3_h5) else (if (v2 &&& (1 <<< (v4_h5 &&& 31))) = 0 then ((fX3_costOf_L5 s_price s_heights v1 v2 n) v3_h5 (v4_h5 + 1)) else bd1 (fX3_cost s_price s_heights v1 v4_h5) (fun r_3 => ((fX3_costOf_L5 s_price s_heights v1 v2 n) (v3_h5 + r_3) (v4_h5 + 1)))))
def fX3_costOf (s_price : Int32) (s_heights : (Nat → Int32)) (v1 : Int32) (v2 : Int32) : Option (Int32) :=
  (fX3_costOf_L5 s_price s_heights v1 v2 FU 0 0)
abbrev rmX3_costOf : Room := { frames := 2, cells := 0, slots := 0, locals := 44 }
theorem ddX3_costOf : yX3_costOf.cls ≠ "java/lang/invoke/MethodHandle" ∧ yX3_costOf.cls ≠ "java/lang/invoke/VarHandle" ∧ (parseMethodDescriptor yX3_costOf.desc).map (fun d => d.parameters.length) = some 2 := by decide +kernel
set_option maxHeartbeats 4000000 in
set_option maxRecDepth 100000 in
theorem m_X3_costOf (l : Launch) (dC : Nat → ClassId) (dI : Nat → Nat → Nat) (cI cZ : ClassId) (q_s q_s_heights q_s_holders q_s_kinds q_s_purses q_s_homes : Nat) (s_told : Int32) (s_low : Int32) (s_high : Int32) (s_price : Int32) (s_hour : Int32) (s_bidders : Int32) (s_heights : (Nat → Int32)) (s_holders : (Nat → Int32)) (s_kinds : (Nat → Int32)) (s_purses : (Nat → Int32)) (s_homes : (Nat → Int32)) (v1 : Int32) (v2 : Int32) (res : Int32) (hf : fX3_costOf s_price s_heights v1 v2 = some res) : Met l yX3_costOf wsX3_costOf rmX3_costOf (rdPc (dC, dI) (tyZ cI cZ) ((W_Isle cI cZ q_s q_s_heights q_s_holders q_s_kinds q_s_purses q_s_homes s_told s_low s_high s_price s_hour s_bidders s_heights s_holders s_kinds s_purses s_homes)) [.ref q_s, .int v1, .int v2]) (rdQ res) 0 0 (fun _ => False) := by
  refine Met.ofW (cc := cX3_costOf) (maxL := 5) (ret := (some .int)) (by decide) rfl ?_
  intro p e s m args below meth c s₁ B hml hv
  obtain ⟨rfl, hP, hK⟩ := hv
  have hx := B.exec
  have hb := B.bytes
  have hr := B.returns
  have hts := atoms_spec (ws := wsX3_costOf) B.pre
  have hown : s.vm.findClass RX3 = some m.cls := findClass_of_methodNamed B.named
  have hlocks := B.notSynchronized
  have hl := lv_entry ([.ref q_s, .int v1, .int v2]) (n := 5) (Nat.le_of_ble_eq_true rfl)
  rw [lg_entry_eq]
  generalize (lg_sl ([.ref q_s, .int v1, .int v2]) ++ List.replicate (5 - (lg_sl ([.ref q_s, .int v1, .int v2])).length) Slot.unset).toArray = ls at hl ⊢
  have hl : lv_has ls 5 [(0, .ref q_s), (1, .int v1), (2, .int v2)] := hl
  obtain ⟨QQ, hQQ⟩ : ∃ Q, Q = MQ below (rdQ res) ([.ref q_s, .int v1, .int v2] : List Value).toArray s 0 0 (fun _ => False) := ⟨_, rfl⟩
  rw [← hQQ]
  have h := hf
  unfold fX3_costOf at h
  refine lv_iconst (v := 0) hx hb dX3_costOf_0 (by decide) ?_
  refine lv_istore_n (lv' := [(3, .int 0), (0, .ref q_s), (1, .int v1), (2, .int v2)]) hx hb dX3_costOf_1 rfl hl (by decide) rfl (fun ls hl => ?_)
  refine lv_iconst (v := 0) hx hb dX3_costOf_2 (by decide) ?_
  refine lv_istore (lv' := [(4, .int 0), (3, .int 0), (0, .ref q_s), (1, .int v1), (2, .int v2)]) hx hb dX3_costOf_3 hl (by decide) rfl (fun ls hl => ?_)
  have KL5 : ∀ (n : Nat) (v3_h5 : Int32) (v4_h5 : Int32) (ls : Array Slot), lv_has ls 5 [(0, .ref q_s), (1, .int v1), (2, .int v2), (3, .int v3_h5), (4, .int v4_h5)] → fX3_costOf_L5 s_price s_heights v1 v2 n v3_h5 v4_h5 = some res → W p l e (headSpec wsX3_costOf rmX3_costOf).room s m ([.ref q_s, .int v1, .int v2] : List Value).toArray below meth c s.heap [] 0 0 QQ (F0 m 5 ls []) := by
    intro  n
    induction n with
    | zero => intro v3_h5 v4_h5 ls hl h; rw [fX3_costOf_L5.eq_1] at h; cases h
    | succ n ih =>
      intro v3_h5 v4_h5 ls hl h
      rw [fX3_costOf_L5.eq_2] at h
      refine lv_iload hx hb dX3_costOf_5 (lv_at hl 4 rfl) ?_
      refine lv_bipush (v := 15) hx hb dX3_costOf_7 (by decide) ?_
      refine lv_icmp_ge (tgt := 37) hx hb dX3_costOf_9 (by decide) (fun c_1 => ?_) (fun c_1 => ?_)
      · have h := (if_pos c_1).symm.trans h
        refine lv_iload_n hx hb dX3_costOf_37 rfl (lv_at hl 3 rfl) ?_
        rw [hQQ]
        exact W.iret (v := v3_h5) hx hb hr (fun t ht hW => ⟨_, rfl, Option.some.inj h, ht⟩) (fun q hq => by cases hq) dX3_costOf_38
      · have h := (if_neg c_1).symm.trans h
        refine lv_iload_n hx hb dX3_costOf_12 rfl (lv_at hl 2 rfl) ?_
        refine lv_iconst (v := 1) hx hb dX3_costOf_13 (by decide) ?_
        refine lv_iload hx hb dX3_costOf_14 (lv_at hl 4 rfl) ?_
        refine lv_ishl hx hb dX3_costOf_16 ?_
        refine lv_iand hx hb dX3_costOf_17 ?_
        refine lv_if_eq (tgt := 31) hx hb dX3_costOf_18 (by decide) (fun c_2 => ?_) (fun c_2 => ?_)
        · have h := (if_pos c_2).symm.trans h
          refine lv_iinc (v := (v4_h5 + 1)) (lv' := [(4, .int (v4_h5 + 1)), (0, .ref q_s), (1, .int v1), (2, .int v2), (3, .int v3_h5)]) hx hb dX3_costOf_31 hl (k := 4) rfl rfl (by decide) rfl (fun ls hl => ?_)
          refine lv_goto (tgt := 5) hx hb dX3_costOf_34 (by decide) ?_
          exact ih v3_h5 (v4_h5 + 1) _ (lv_sub hl [1, 2, 3, 4, 0] rfl) h
        · have h := (if_neg c_2).symm.trans h
          refine lv_iload_n hx hb dX3_costOf_21 rfl (lv_at hl 3 rfl) ?_
          refine lv_aload_n hx hb dX3_costOf_22 rfl (lv_at hl 0 rfl) ?_
          refine lv_iload_n hx hb dX3_costOf_23 rfl (lv_at hl 1 rfl) ?_
          refine lv_iload hx hb dX3_costOf_24 (lv_at hl 4 rfl) ?_
          obtain ⟨r_3, hc_3, h⟩ := bd1_of h
          refine cl_rV (As := [.int v1, .int v4_h5]) (rest := [.int v3_h5]) ⟨hx, hb, hml, hown, hts⟩ (m_X3_cost l dC dI cI cZ q_s q_s_heights q_s_holders q_s_kinds q_s_purses q_s_homes s_told s_low s_high s_price s_hour s_bidders s_heights s_holders s_kinds s_purses s_homes v1 v4_h5 (r_3) hc_3) (cwV 2 hts gX3_costOf_X3_cost rfl rfl rfl ⟨rfl, ddX3_cost⟩ ⟨Nat.le_of_ble_eq_true rfl, Nat.le_of_ble_eq_true rfl⟩) hK hP [0, 1, 2, 3, 4, 5] rfl rfl rfl rfl rfl hl.1 (Nat.le_of_ble_eq_true rfl) ⟨Nat.zero_le _, Nat.zero_le _⟩ dX3_costOf_26 ?_
          refine lv_iadd hx hb dX3_costOf_29 ?_
          refine lv_istore_n (lv' := [(3, .int (v3_h5 + r_3)), (0, .ref q_s), (1, .int v1), (2, .int v2), (4, .int v4_h5)]) hx hb dX3_costOf_30 rfl hl (by decide) rfl (fun ls hl => ?_)
          refine lv_iinc (v := (v4_h5 + 1)) (lv' := [(4, .int (v4_h5 + 1)), (3, .int (v3_h5 + r_3)), (0, .ref q_s), (1, .int v1), (2, .int v2)]) hx hb dX3_costOf_31 hl (k := 4) rfl rfl (by decide) rfl (fun ls hl => ?_)
          refine lv_goto (tgt := 5) hx hb dX3_costOf_34 (by decide) ?_
          exact ih (v3_h5 + r_3) (v4_h5 + 1) _ (lv_sub hl [2, 3, 4, 1, 0] rfl) h
  exact KL5 FU 0 0 _ (lv_sub hl [2, 3, 4, 1, 0] rfl) h
def fX3_canHave (s_low : Int32) (s_high : Int32) (s_hour : Int32) (s_heights : (Nat → Int32)) (s_kinds : (Nat → Int32)) (v1 : Int32) (v2 : Int32) : Option (Int32) :=
  chk (¬ (v1 < 0 ∨ 5 ≤ v1.toNatClampNeg)) (bd1 (fX3_isDryBehind s_low s_high s_hour s_heights 0 v2) (fun r_2 => bd1 (fX4_takes (s_kinds v1.toNatClampNeg) r_2) (fun r_3 => chk (r_3 = 0 ∨ r_3 = 1) (some (r_3)))))
abbrev rmX3_canHave : Room := { frames := 2, cells := 0, slots := 0, locals := 45 }
theorem ddX3_canHave : yX3_canHave.cls ≠ "java/lang/invoke/MethodHandle" ∧ yX3_canHave.cls ≠ "java/lang/invoke/VarHandle" ∧ (parseMethodDescriptor yX3_canHave.desc).map (fun d => d.parameters.length) = some 2 := by decide +kernel
set_option maxHeartbeats 4000000 in
set_option maxRecDepth 100000 in
theorem m_X3_canHave (l : Launch) (dC : Nat → ClassId) (dI : Nat → Nat → Nat) (cI cZ : ClassId) (q_s q_s_heights q_s_holders q_s_kinds q_s_purses q_s_homes : Nat) (s_told : Int32) (s_low : Int32) (s_high : Int32) (s_price : Int32) (s_hour : Int32) (s_bidders : Int32) (s_heights : (Nat → Int32)) (s_holders : (Nat → Int32)) (s_kinds : (Nat → Int32)) (s_purses : (Nat → Int32)) (s_homes : (Nat → Int32)) (v1 : Int32) (v2 : Int32) (res : Int32) (hf : fX3_canHave s_low s_high s_hour s_heights s_kinds v1 v2 = some res) : Met l yX3_canHave wsX3_canHave rmX3_canHave (rdPc (dC, dI) (tyZ cI cZ) ((W_Isle cI cZ q_s q_s_heights q_s_holders q_s_kinds q_s_purses q_s_homes s_told s_low s_high s_price s_hour s_bidders s_heights s_holders s_kinds s_purses s_homes)) [.ref q_s, .int v1, .int v2]) (rdQ res) 0 0 (fun _ => False) := by
  refine Met.ofW (cc := cX3_canHave) (maxL := 3) (ret := (some .boolean)) (by decide) rfl ?_
  intro p e s m args below meth c s₁ B hml hv
  obtain ⟨rfl, hP, hK⟩ := hv
  have hx := B.exec
  have hb := B.bytes
  have hr := B.returns
  have hts := atoms_spec (ws := wsX3_canHave) B.pre
  have hown : s.vm.findClass RX3 = some m.cls := findClass_of_methodNamed B.named
  have hlocks := B.notSynchronized
  have hl := lv_entry ([.ref q_s, .int v1, .int v2]) (n := 3) (Nat.le_of_ble_eq_true rfl)
  rw [lg_entry_eq]
  generalize (lg_sl ([.ref q_s, .int v1, .int v2]) ++ List.replicate (3 - (lg_sl ([.ref q_s, .int v1, .int v2])).length) Slot.unset).toArray = ls at hl ⊢
  have hl : lv_has ls 3 [(0, .ref q_s), (1, .int v1), (2, .int v2)] := hl
  obtain ⟨QQ, hQQ⟩ : ∃ Q, Q = MQ below (rdQ res) ([.ref q_s, .int v1, .int v2] : List Value).toArray s 0 0 (fun _ => False) := ⟨_, rfl⟩
  rw [← hQQ]
  have w_0 := hts (Cond.fieldLink RX3 18 "TideInches$Isle" "kinds" "[I") (List.mem_of_getElem? (i := 1) rfl)
  have w_1 := (fun w hw => List.mem_cons_of_mem _ (List.mem_append_right _ hw) : ∀ w ∈ wsX30, w ∈ wsX3_canHave)
  have h := hf
  unfold fX3_canHave at h
  refine lv_aload_n hx hb dX3_canHave_0 rfl (lv_at hl 0 rfl) ?_
  refine va_get (D := (dC, dI)) (ci := 3) (v := .ref q_s_kinds) (C := RX3) (T := TX3) (N := 11) hx hb hts w_1 hown hK hP 0 rfl rfl 8 (by decide) w_0 (fun _ h9 => h9) rfl dX3_canHave_1 ?_
  refine lv_iload_n hx hb dX3_canHave_4 rfl (lv_at hl 1 rfl) ?_
  obtain ⟨b_1, h⟩ := chk_of h
  refine va_iald hx hb hK hP 3 0 rfl rfl (i := v1) b_1 dX3_canHave_5 ?_
  refine lv_aload_n hx hb dX3_canHave_6 rfl (lv_at hl 0 rfl) ?_
  refine lv_iconst (v := 0) hx hb dX3_canHave_7 (by decide) ?_
  refine lv_iload_n hx hb dX3_canHave_8 rfl (lv_at hl 2 rfl) ?_
  obtain ⟨r_2, hc_2, h⟩ := bd1_of h
  refine cl_rV (As := [.int 0, .int v2]) (rest := [.int (s_kinds v1.toNatClampNeg)]) ⟨hx, hb, hml, hown, hts⟩ (m_X3_isDryBehind l dC dI cI cZ q_s q_s_heights q_s_holders q_s_kinds q_s_purses q_s_homes s_told s_low s_high s_price s_hour s_bidders s_heights s_holders s_kinds s_purses s_homes 0 v2 (r_2) hc_2) (cwV 2 hts gX3_canHave_X3_isDryBehind rfl rfl rfl ⟨rfl, ddX3_isDryBehind⟩ ⟨Nat.le_of_ble_eq_true rfl, Nat.le_of_ble_eq_true rfl⟩) hK hP [0, 1, 2, 3, 4, 5] rfl rfl rfl rfl rfl hl.1 (Nat.le_of_ble_eq_true rfl) ⟨Nat.zero_le _, Nat.zero_le _⟩ dX3_canHave_9 ?_
  obtain ⟨r_3, hc_3, h⟩ := bd1_of h
  refine cl_pS (As := [.int (s_kinds v1.toNatClampNeg), .int r_2]) (rest := []) ⟨hx, hb, hml, hown, hts⟩ (m_X4_takes l (s_kinds v1.toNatClampNeg) r_2 (r_3) hc_3) (va_cwS 2 hts gX3_canHave_X4_takes rfl rfl rfl ddX4_takes ⟨Nat.le_of_ble_eq_true rfl, Nat.le_of_ble_eq_true rfl⟩) rfl rfl hl.1 (Nat.le_of_ble_eq_true rfl) ⟨Nat.zero_le _, Nat.zero_le _⟩ dX3_canHave_12 ?_
  obtain ⟨b_4, h⟩ := chk_of h
  rw [hQQ]
  exact W.zret (v := r_3) (ty := .boolean) hx hb hr (zb_nar b_4) (fun t ht hW => ⟨_, rfl, Option.some.inj h, ht⟩) (fun q hq => by cases hq) dX3_canHave_15
def fX3_sell (s_price : Int32) (s_heights : (Nat → Int32)) (s_holders : (Nat → Int32)) (s_kinds : (Nat → Int32)) (s_purses : (Nat → Int32)) (v1 : Int32) (v2 : Int32) : Option ((Nat → Int32) × (Nat → Int32)) :=
  chk (¬ (v1 < 0 ∨ 5 ≤ v1.toNatClampNeg)) (bd1 (fX3_costTo s_price s_heights s_kinds v1 v2) (fun r_2 => chk (¬ (v1 < 0 ∨ 5 ≤ v1.toNatClampNeg)) (chk (¬ (v2 < 0 ∨ 15 ≤ v2.toNatClampNeg)) (some ((upd s_holders v2.toNatClampNeg v1), (upd s_purses v1.toNatClampNeg ((s_purses v1.toNatClampNeg) - r_2)))))))
abbrev rmX3_sell : Room := { frames := 3, cells := 0, slots := 0, locals := 66 }
theorem ddX3_sell : yX3_sell.cls ≠ "java/lang/invoke/MethodHandle" ∧ yX3_sell.cls ≠ "java/lang/invoke/VarHandle" ∧ (parseMethodDescriptor yX3_sell.desc).map (fun d => d.parameters.length) = some 2 := by decide +kernel
set_option maxHeartbeats 4000000 in
set_option maxRecDepth 100000 in
theorem m_X3_sell (l : Launch) (dC : Nat → ClassId) (dI : Nat → Nat → Nat) (cI cZ : ClassId) (q_s q_s_heights q_s_holders q_s_kinds q_s_purses q_s_homes : Nat) (s_told : Int32) (s_low : Int32) (s_high : Int32) (s_price : Int32) (s_hour : Int32) (s_bidders : Int32) (s_heights : (Nat → Int32)) (s_holders : (Nat → Int32)) (s_kinds : (Nat → Int32)) (s_purses : (Nat → Int32)) (s_homes : (Nat → Int32)) (v1 : Int32) (v2 : Int32) (sz : Nat) (res : (Nat → Int32) × (Nat → Int32)) (hf : fX3_sell s_price s_heights s_holders s_kinds s_purses v1 v2 = some res) : Met l yX3_sell wsX3_sell rmX3_sell (mtPc (dC, dI) (tyZ cI cZ) ((W_Isle cI cZ q_s q_s_heights q_s_holders q_s_kinds q_s_purses q_s_homes s_told s_low s_high s_price s_hour s_bidders s_heights s_holders s_kinds s_purses s_homes)) [.ref q_s, .int v1, .int v2] sz) (mtQv (dC, dI) (tyZ cI cZ) ((W_Isle cI cZ q_s q_s_heights q_s_holders q_s_kinds q_s_purses q_s_homes s_told s_low s_high s_price s_hour s_bidders s_heights s_holders s_kinds s_purses s_homes)) ((W_Isle cI cZ q_s q_s_heights q_s_holders q_s_kinds q_s_purses q_s_homes s_told s_low s_high s_price s_hour s_bidders s_heights res.1 s_kinds res.2 s_homes)) sz) 0 0 (va_A ((W_Isle cI cZ q_s q_s_heights q_s_holders q_s_kinds q_s_purses q_s_homes s_told s_low s_high s_price s_hour s_bidders s_heights s_holders s_kinds s_purses s_homes)) sz) := by
  refine Met.ofW (cc := cX3_sell) (maxL := 3) (ret := none) (by decide) rfl ?_
  intro p e s m args below meth c s₁ B hml hv
  obtain ⟨rfl, hsz, hP, hK, hD0⟩ := hv
  have hx := B.exec
  have hb := B.bytes
  have hr := B.returns
  have hts := atoms_spec (ws := wsX3_sell) B.pre
  have hown : s.vm.findClass RX3 = some m.cls := findClass_of_methodNamed B.named
  have hlocks := B.notSynchronized
  subst hsz
  have hD := hD0.self (sz := s.heap.size)
  obtain ⟨A, hAe⟩ : ∃ A, A = va_A ((W_Isle cI cZ q_s q_s_heights q_s_holders q_s_kinds q_s_purses q_s_homes s_told s_low s_high s_price s_hour s_bidders s_heights s_holders s_kinds s_purses s_homes)) s.heap.size := ⟨_, rfl⟩
  rw [← hAe] at hD
  have hA : ∀ q : Nat, s.heap.size ≤ q → A q := fun q h => by rw [hAe]; exact Or.inr h
  have hS : va_S A s.heap s.heap [] := va_S.rf
  have hl := lv_entry ([.ref q_s, .int v1, .int v2]) (n := 3) (Nat.le_of_ble_eq_true rfl)
  rw [lg_entry_eq]
  generalize (lg_sl ([.ref q_s, .int v1, .int v2]) ++ List.replicate (3 - (lg_sl ([.ref q_s, .int v1, .int v2])).length) Slot.unset).toArray = ls at hl ⊢
  have hl : lv_has ls 3 [(0, .ref q_s), (1, .int v1), (2, .int v2)] := hl
  obtain ⟨QQ, hQQ⟩ : ∃ Q, Q = MQ below (mtQv (dC, dI) (tyZ cI cZ) ((W_Isle cI cZ q_s q_s_heights q_s_holders q_s_kinds q_s_purses q_s_homes s_told s_low s_high s_price s_hour s_bidders s_heights s_holders s_kinds s_purses s_homes)) ((W_Isle cI cZ q_s q_s_heights q_s_holders q_s_kinds q_s_purses q_s_homes s_told s_low s_high s_price s_hour s_bidders s_heights res.1 s_kinds res.2 s_homes)) s.heap.size) ([.ref q_s, .int v1, .int v2] : List Value).toArray s 0 0 (va_A ((W_Isle cI cZ q_s q_s_heights q_s_holders q_s_kinds q_s_purses q_s_homes s_told s_low s_high s_price s_hour s_bidders s_heights s_holders s_kinds s_purses s_homes)) s.heap.size) := ⟨_, rfl⟩
  rw [← hQQ]
  have w_0 := hts (Cond.fieldLink RX3 21 "TideInches$Isle" "purses" "[I") (List.mem_of_getElem? (i := 1) rfl)
  have w_1 := (fun w hw => List.mem_cons_of_mem _ (List.mem_append_right _ hw) : ∀ w ∈ wsX30, w ∈ wsX3_sell)
  have w_2 := hts (Cond.fieldLink RX3 15 "TideInches$Isle" "holders" "[I") (List.mem_of_getElem? (i := 2) rfl)
  have h := hf
  unfold fX3_sell at h
  refine lv_aload_n hx hb dX3_sell_0 rfl (lv_at hl 0 rfl) ?_
  refine va_get (D := (dC, dI)) (ci := 3) (v := .ref q_s_purses) (C := RX3) (T := TX3) (N := 11) hx hb hts w_1 hown hK hP 0 rfl rfl 9 (by decide) w_0 (fun _ h9 => h9) rfl dX3_sell_1 ?_
  refine lv_iload_n hx hb dX3_sell_4 rfl (lv_at hl 1 rfl) ?_
  refine lv_dup2_11 hx hb dX3_sell_5 rfl rfl ?_
  obtain ⟨b_1, h⟩ := chk_of h
  refine va_iald hx hb hK hP 4 0 rfl rfl (i := v1) b_1 dX3_sell_6 ?_
  refine lv_aload_n hx hb dX3_sell_7 rfl (lv_at hl 0 rfl) ?_
  refine lv_iload_n hx hb dX3_sell_8 rfl (lv_at hl 1 rfl) ?_
  refine lv_iload_n hx hb dX3_sell_9 rfl (lv_at hl 2 rfl) ?_
  obtain ⟨r_2, hc_2, h⟩ := bd1_of h
  refine cl_rV (As := [.int v1, .int v2]) (rest := [.int (s_purses v1.toNatClampNeg), .int v1, .ref q_s_purses]) ⟨hx, hb, hml, hown, hts⟩ (m_X3_costTo l dC dI cI cZ q_s q_s_heights q_s_holders q_s_kinds q_s_purses q_s_homes s_told s_low s_high s_price s_hour s_bidders s_heights s_holders s_kinds s_purses s_homes v1 v2 (r_2) hc_2) (cwV 2 hts gX3_sell_X3_costTo rfl rfl rfl ⟨rfl, ddX3_costTo⟩ ⟨Nat.le_of_ble_eq_true rfl, Nat.le_of_ble_eq_true rfl⟩) hK hP [0, 1, 2, 3, 4, 5] rfl rfl rfl rfl rfl hl.1 (Nat.le_of_ble_eq_true rfl) ⟨Nat.zero_le _, Nat.zero_le _⟩ dX3_sell_10 ?_
  refine lv_isub hx hb dX3_sell_13 ?_
  obtain ⟨b_3, h⟩ := chk_of h
  refine va_iast hx hb hK hP hD hS 4 0 rfl rfl (i := v1) (x := ((s_purses v1.toNatClampNeg) - r_2)) b_3 dX3_sell_14 (fun H locs hP hD hS => ?_)
  have hP : va_P (dC, dI) vwCl ((W_Isle cI cZ q_s q_s_heights q_s_holders q_s_kinds q_s_purses q_s_homes s_told s_low s_high s_price s_hour s_bidders s_heights s_holders s_kinds (upd s_purses v1.toNatClampNeg ((s_purses v1.toNatClampNeg) - r_2)) s_homes)) H := hP
  have hD : va_D A ((W_Isle cI cZ q_s q_s_heights q_s_holders q_s_kinds q_s_purses q_s_homes s_told s_low s_high s_price s_hour s_bidders s_heights s_holders s_kinds (upd s_purses v1.toNatClampNeg ((s_purses v1.toNatClampNeg) - r_2)) s_homes)) := hD
  refine lv_aload_n hx hb dX3_sell_15 rfl (lv_at hl 0 rfl) ?_
  refine va_get (D := (dC, dI)) (ci := 3) (v := .ref q_s_holders) (C := RX3) (T := TX3) (N := 11) hx hb hts w_1 hown hK hP 0 rfl rfl 7 (by decide) w_2 (fun _ h9 => h9) rfl dX3_sell_16 ?_
  refine lv_iload_n hx hb dX3_sell_19 rfl (lv_at hl 2 rfl) ?_
  refine lv_iload_n hx hb dX3_sell_20 rfl (lv_at hl 1 rfl) ?_
  obtain ⟨b_4, h⟩ := chk_of h
  refine va_iast hx hb hK hP hD hS 2 0 rfl rfl (i := v2) (x := v1) b_4 dX3_sell_21 (fun H locs hP hD hS => ?_)
  have hP : va_P (dC, dI) vwCl ((W_Isle cI cZ q_s q_s_heights q_s_holders q_s_kinds q_s_purses q_s_homes s_told s_low s_high s_price s_hour s_bidders s_heights (upd s_holders v2.toNatClampNeg v1) s_kinds (upd s_purses v1.toNatClampNeg ((s_purses v1.toNatClampNeg) - r_2)) s_homes)) H := hP
  have hD : va_D A ((W_Isle cI cZ q_s q_s_heights q_s_holders q_s_kinds q_s_purses q_s_homes s_told s_low s_high s_price s_hour s_bidders s_heights (upd s_holders v2.toNatClampNeg v1) s_kinds (upd s_purses v1.toNatClampNeg ((s_purses v1.toNatClampNeg) - r_2)) s_homes)) := hD
  have h := Option.some.inj h
  subst h
  rw [hQQ]
  subst hAe
  exact W.vret hx hb hr (fun t ht hW => ⟨⟨(), rfl, trivial, by rw [ht]; exact hP, va_K.moved hW.alike hK, hD⟩, hS.F ht⟩) hS.2.2 dX3_sell_22
def fX3_putStones (s_heights : (Nat → Int32)) (v1 : Int32) : Option ((Nat → Int32)) :=
  chk (¬ (v1 < 0 ∨ 15 ≤ v1.toNatClampNeg)) (chk (¬ (v1 < 0 ∨ 15 ≤ v1.toNatClampNeg)) (some ((upd s_heights v1.toNatClampNeg ((s_heights v1.toNatClampNeg) + 1)))))
abbrev rmX3_putStones : Room := { frames := 0, cells := 0, slots := 0, locals := 0 }
theorem ddX3_putStones : yX3_putStones.cls ≠ "java/lang/invoke/MethodHandle" ∧ yX3_putStones.cls ≠ "java/lang/invoke/VarHandle" ∧ (parseMethodDescriptor yX3_putStones.desc).map (fun d => d.parameters.length) = some 1 := by decide +kernel
set_option maxHeartbeats 4000000 in
set_option maxRecDepth 100000 in
theorem m_X3_putStones (l : Launch) (dC : Nat → ClassId) (dI : Nat → Nat → Nat) (cI cZ : ClassId) (q_s q_s_heights q_s_holders q_s_kinds q_s_purses q_s_homes : Nat) (s_told : Int32) (s_low : Int32) (s_high : Int32) (s_price : Int32) (s_hour : Int32) (s_bidders : Int32) (s_heights : (Nat → Int32)) (s_holders : (Nat → Int32)) (s_kinds : (Nat → Int32)) (s_purses : (Nat → Int32)) (s_homes : (Nat → Int32)) (v1 : Int32) (sz : Nat) (res : (Nat → Int32)) (hf : fX3_putStones s_heights v1 = some res) : Met l yX3_putStones wsX3_putStones rmX3_putStones (mtPc (dC, dI) (tyZ cI cZ) ((W_Isle cI cZ q_s q_s_heights q_s_holders q_s_kinds q_s_purses q_s_homes s_told s_low s_high s_price s_hour s_bidders s_heights s_holders s_kinds s_purses s_homes)) [.ref q_s, .int v1] sz) (mtQv (dC, dI) (tyZ cI cZ) ((W_Isle cI cZ q_s q_s_heights q_s_holders q_s_kinds q_s_purses q_s_homes s_told s_low s_high s_price s_hour s_bidders s_heights s_holders s_kinds s_purses s_homes)) ((W_Isle cI cZ q_s q_s_heights q_s_holders q_s_kinds q_s_purses q_s_homes s_told s_low s_high s_price s_hour s_bidders res s_holders s_kinds s_purses s_homes)) sz) 0 0 (va_A ((W_Isle cI cZ q_s q_s_heights q_s_holders q_s_kinds q_s_purses q_s_homes s_told s_low s_high s_price s_hour s_bidders s_heights s_holders s_kinds s_purses s_homes)) sz) := by
  refine Met.ofW (cc := cX3_putStones) (maxL := 2) (ret := none) (by decide) rfl ?_
  intro p e s m args below meth c s₁ B hml hv
  obtain ⟨rfl, hsz, hP, hK, hD0⟩ := hv
  have hx := B.exec
  have hb := B.bytes
  have hr := B.returns
  have hts := atoms_spec (ws := wsX3_putStones) B.pre
  have hown : s.vm.findClass RX3 = some m.cls := findClass_of_methodNamed B.named
  have hlocks := B.notSynchronized
  subst hsz
  have hD := hD0.self (sz := s.heap.size)
  obtain ⟨A, hAe⟩ : ∃ A, A = va_A ((W_Isle cI cZ q_s q_s_heights q_s_holders q_s_kinds q_s_purses q_s_homes s_told s_low s_high s_price s_hour s_bidders s_heights s_holders s_kinds s_purses s_homes)) s.heap.size := ⟨_, rfl⟩
  rw [← hAe] at hD
  have hA : ∀ q : Nat, s.heap.size ≤ q → A q := fun q h => by rw [hAe]; exact Or.inr h
  have hS : va_S A s.heap s.heap [] := va_S.rf
  have hl := lv_entry ([.ref q_s, .int v1]) (n := 2) (Nat.le_of_ble_eq_true rfl)
  rw [lg_entry_eq]
  generalize (lg_sl ([.ref q_s, .int v1]) ++ List.replicate (2 - (lg_sl ([.ref q_s, .int v1])).length) Slot.unset).toArray = ls at hl ⊢
  have hl : lv_has ls 2 [(0, .ref q_s), (1, .int v1)] := hl
  obtain ⟨QQ, hQQ⟩ : ∃ Q, Q = MQ below (mtQv (dC, dI) (tyZ cI cZ) ((W_Isle cI cZ q_s q_s_heights q_s_holders q_s_kinds q_s_purses q_s_homes s_told s_low s_high s_price s_hour s_bidders s_heights s_holders s_kinds s_purses s_homes)) ((W_Isle cI cZ q_s q_s_heights q_s_holders q_s_kinds q_s_purses q_s_homes s_told s_low s_high s_price s_hour s_bidders res s_holders s_kinds s_purses s_homes)) s.heap.size) ([.ref q_s, .int v1] : List Value).toArray s 0 0 (va_A ((W_Isle cI cZ q_s q_s_heights q_s_holders q_s_kinds q_s_purses q_s_homes s_told s_low s_high s_price s_hour s_bidders s_heights s_holders s_kinds s_purses s_homes)) s.heap.size) := ⟨_, rfl⟩
  rw [← hQQ]
  have w_0 := hts (Cond.fieldLink RX3 9 "TideInches$Isle" "heights" "[I") (List.mem_of_getElem? (i := 1) rfl)
  have w_1 := (fun w hw => List.mem_cons_of_mem _ (List.mem_append_right _ hw) : ∀ w ∈ wsX30, w ∈ wsX3_putStones)
  have h := hf
  unfold fX3_putStones at h
  refine lv_aload_n hx hb dX3_putStones_0 rfl (lv_at hl 0 rfl) ?_
  refine va_get (D := (dC, dI)) (ci := 3) (v := .ref q_s_heights) (C := RX3) (T := TX3) (N := 11) hx hb hts w_1 hown hK hP 0 rfl rfl 6 (by decide) w_0 (fun _ h9 => h9) rfl dX3_putStones_1 ?_
  refine lv_iload_n hx hb dX3_putStones_4 rfl (lv_at hl 1 rfl) ?_
  refine lv_dup2_11 hx hb dX3_putStones_5 rfl rfl ?_
  obtain ⟨b_1, h⟩ := chk_of h
  refine va_iald hx hb hK hP 1 0 rfl rfl (i := v1) b_1 dX3_putStones_6 ?_
  refine lv_iconst (v := 1) hx hb dX3_putStones_7 (by decide) ?_
  refine lv_iadd hx hb dX3_putStones_8 ?_
  obtain ⟨b_2, h⟩ := chk_of h
  refine va_iast hx hb hK hP hD hS 1 0 rfl rfl (i := v1) (x := ((s_heights v1.toNatClampNeg) + 1)) b_2 dX3_putStones_9 (fun H locs hP hD hS => ?_)
  have hP : va_P (dC, dI) vwCl ((W_Isle cI cZ q_s q_s_heights q_s_holders q_s_kinds q_s_purses q_s_homes s_told s_low s_high s_price s_hour s_bidders (upd s_heights v1.toNatClampNeg ((s_heights v1.toNatClampNeg) + 1)) s_holders s_kinds s_purses s_homes)) H := hP
  have hD : va_D A ((W_Isle cI cZ q_s q_s_heights q_s_holders q_s_kinds q_s_purses q_s_homes s_told s_low s_high s_price s_hour s_bidders (upd s_heights v1.toNatClampNeg ((s_heights v1.toNatClampNeg) + 1)) s_holders s_kinds s_purses s_homes)) := hD
  have h := Option.some.inj h
  subst h
  rw [hQQ]
  subst hAe
  exact W.vret hx hb hr (fun t ht hW => ⟨⟨(), rfl, trivial, by rw [ht]; exact hP, va_K.moved hW.alike hK, hD⟩, hS.F ht⟩) hS.2.2 dX3_putStones_10
def fX3_handOver (s_holders : (Nat → Int32)) (v1 : Int32) (v2 : Int32) : Option ((Nat → Int32)) :=
  chk (¬ (v1 < 0 ∨ 15 ≤ v1.toNatClampNeg)) (some ((upd s_holders v1.toNatClampNeg v2)))
abbrev rmX3_handOver : Room := { frames := 0, cells := 0, slots := 0, locals := 0 }
theorem ddX3_handOver : yX3_handOver.cls ≠ "java/lang/invoke/MethodHandle" ∧ yX3_handOver.cls ≠ "java/lang/invoke/VarHandle" ∧ (parseMethodDescriptor yX3_handOver.desc).map (fun d => d.parameters.length) = some 2 := by decide +kernel
set_option maxHeartbeats 4000000 in
set_option maxRecDepth 100000 in
theorem m_X3_handOver (l : Launch) (dC : Nat → ClassId) (dI : Nat → Nat → Nat) (cI cZ : ClassId) (q_s q_s_heights q_s_holders q_s_kinds q_s_purses q_s_homes : Nat) (s_told : Int32) (s_low : Int32) (s_high : Int32) (s_price : Int32) (s_hour : Int32) (s_bidders : Int32) (s_heights : (Nat → Int32)) (s_holders : (Nat → Int32)) (s_kinds : (Nat → Int32)) (s_purses : (Nat → Int32)) (s_homes : (Nat → Int32)) (v1 : Int32) (v2 : Int32) (sz : Nat) (res : (Nat → Int32)) (hf : fX3_handOver s_holders v1 v2 = some res) : Met l yX3_handOver wsX3_handOver rmX3_handOver (mtPc (dC, dI) (tyZ cI cZ) ((W_Isle cI cZ q_s q_s_heights q_s_holders q_s_kinds q_s_purses q_s_homes s_told s_low s_high s_price s_hour s_bidders s_heights s_holders s_kinds s_purses s_homes)) [.ref q_s, .int v1, .int v2] sz) (mtQv (dC, dI) (tyZ cI cZ) ((W_Isle cI cZ q_s q_s_heights q_s_holders q_s_kinds q_s_purses q_s_homes s_told s_low s_high s_price s_hour s_bidders s_heights s_holders s_kinds s_purses s_homes)) ((W_Isle cI cZ q_s q_s_heights q_s_holders q_s_kinds q_s_purses q_s_homes s_told s_low s_high s_price s_hour s_bidders s_heights res s_kinds s_purses s_homes)) sz) 0 0 (va_A ((W_Isle cI cZ q_s q_s_heights q_s_holders q_s_kinds q_s_purses q_s_homes s_told s_low s_high s_price s_hour s_bidders s_heights s_holders s_kinds s_purses s_homes)) sz) := by
  refine Met.ofW (cc := cX3_handOver) (maxL := 3) (ret := none) (by decide) rfl ?_
  intro p e s m args below meth c s₁ B hml hv
  obtain ⟨rfl, hsz, hP, hK, hD0⟩ := hv
  have hx := B.exec
  have hb := B.bytes
  have hr := B.returns
  have hts := atoms_spec (ws := wsX3_handOver) B.pre
  have hown : s.vm.findClass RX3 = some m.cls := findClass_of_methodNamed B.named
  have hlocks := B.notSynchronized
  subst hsz
  have hD := hD0.self (sz := s.heap.size)
  obtain ⟨A, hAe⟩ : ∃ A, A = va_A ((W_Isle cI cZ q_s q_s_heights q_s_holders q_s_kinds q_s_purses q_s_homes s_told s_low s_high s_price s_hour s_bidders s_heights s_holders s_kinds s_purses s_homes)) s.heap.size := ⟨_, rfl⟩
  rw [← hAe] at hD
  have hA : ∀ q : Nat, s.heap.size ≤ q → A q := fun q h => by rw [hAe]; exact Or.inr h
  have hS : va_S A s.heap s.heap [] := va_S.rf
  have hl := lv_entry ([.ref q_s, .int v1, .int v2]) (n := 3) (Nat.le_of_ble_eq_true rfl)
  rw [lg_entry_eq]
  generalize (lg_sl ([.ref q_s, .int v1, .int v2]) ++ List.replicate (3 - (lg_sl ([.ref q_s, .int v1, .int v2])).length) Slot.unset).toArray = ls at hl ⊢
  have hl : lv_has ls 3 [(0, .ref q_s), (1, .int v1), (2, .int v2)] := hl
  obtain ⟨QQ, hQQ⟩ : ∃ Q, Q = MQ below (mtQv (dC, dI) (tyZ cI cZ) ((W_Isle cI cZ q_s q_s_heights q_s_holders q_s_kinds q_s_purses q_s_homes s_told s_low s_high s_price s_hour s_bidders s_heights s_holders s_kinds s_purses s_homes)) ((W_Isle cI cZ q_s q_s_heights q_s_holders q_s_kinds q_s_purses q_s_homes s_told s_low s_high s_price s_hour s_bidders s_heights res s_kinds s_purses s_homes)) s.heap.size) ([.ref q_s, .int v1, .int v2] : List Value).toArray s 0 0 (va_A ((W_Isle cI cZ q_s q_s_heights q_s_holders q_s_kinds q_s_purses q_s_homes s_told s_low s_high s_price s_hour s_bidders s_heights s_holders s_kinds s_purses s_homes)) s.heap.size) := ⟨_, rfl⟩
  rw [← hQQ]
  have w_0 := hts (Cond.fieldLink RX3 15 "TideInches$Isle" "holders" "[I") (List.mem_of_getElem? (i := 1) rfl)
  have w_1 := (fun w hw => List.mem_cons_of_mem _ (List.mem_append_right _ hw) : ∀ w ∈ wsX30, w ∈ wsX3_handOver)
  have h := hf
  unfold fX3_handOver at h
  refine lv_aload_n hx hb dX3_handOver_0 rfl (lv_at hl 0 rfl) ?_
  refine va_get (D := (dC, dI)) (ci := 3) (v := .ref q_s_holders) (C := RX3) (T := TX3) (N := 11) hx hb hts w_1 hown hK hP 0 rfl rfl 7 (by decide) w_0 (fun _ h9 => h9) rfl dX3_handOver_1 ?_
  refine lv_iload_n hx hb dX3_handOver_4 rfl (lv_at hl 1 rfl) ?_
  refine lv_iload_n hx hb dX3_handOver_5 rfl (lv_at hl 2 rfl) ?_
  obtain ⟨b_1, h⟩ := chk_of h
  refine va_iast hx hb hK hP hD hS 2 0 rfl rfl (i := v1) (x := v2) b_1 dX3_handOver_6 (fun H locs hP hD hS => ?_)
  have hP : va_P (dC, dI) vwCl ((W_Isle cI cZ q_s q_s_heights q_s_holders q_s_kinds q_s_purses q_s_homes s_told s_low s_high s_price s_hour s_bidders s_heights (upd s_holders v1.toNatClampNeg v2) s_kinds s_purses s_homes)) H := hP
  have hD : va_D A ((W_Isle cI cZ q_s q_s_heights q_s_holders q_s_kinds q_s_purses q_s_homes s_told s_low s_high s_price s_hour s_bidders s_heights (upd s_holders v1.toNatClampNeg v2) s_kinds s_purses s_homes)) := hD
  have h := Option.some.inj h
  subst h
  rw [hQQ]
  subst hAe
  exact W.vret hx hb hr (fun t ht hW => ⟨⟨(), rfl, trivial, by rw [ht]; exact hP, va_K.moved hW.alike hK, hD⟩, hS.F ht⟩) hS.2.2 dX3_handOver_7
def fX3_passHour_L18 (s_hour : Int32) (s_heights : (Nat → Int32)) (s_kinds : (Nat → Int32)) (r_1 : Int32) : Nat → Int32 → (Nat → Int32) → Option (Int32 × (Nat → Int32))
  | 0, _, _ => none
  | n + 1, v2_h18, s_holders_h18 => (if 15 ≤ v2_h18 then some ((s_hour + 1), s_holders_h18) else bd1 (fX3_isHeld s_holders_h18 v2_h18) (fun r_3 => (if r_3 = 0 then ((fX3_passHour_L18 s_hour s_heights s_kinds r_1 n) (v2_h18 + 1) s_holders_h18) else chk (¬ (v2_h18 < 0 ∨ 15 ≤ v2_h18.toNatClampNeg)) (chk (¬ ((s_holders_h18 v2_h18.toNatClampNeg) < 0 ∨ 5 ≤ (s_holders_h18 v2_h18.toNatClampNeg).toNatClampNeg)) (chk (¬ (v2_h18 < 0 ∨ 15 ≤ v2_h18.toNatClampNeg)) (bd1 (fX4_loses (s_kinds (s_holders_h18 v2_h18.toNatClampNeg).toNatClampNeg) r_1 (s_heights v2_h18.toNatClampNeg)) (fun r_8 => (if r_8 = 0 then ((fX3_passHour_L18 s_hour s_heights s_kinds r_1 n) (v2_h18 + 1) s_holders_h18) else chk (¬ (v2_h18 < 0 ∨ 15 ≤ v2_h18.toNatClampNeg)) (((fX3_passHour_L18 s_hour s_heights s_kinds r_1 n) (v2_h18 + 1) (upd s_holders_h18 v2_h18.toNatClampNeg (-1))))))))))))
def fX3_passHour (s_low : Int32) (s_high : Int32) (s_hour : Int32) (s_heights : (Nat → Int32)) (s_holders : (Nat → Int32)) (s_kinds : (Nat → Int32)) : Option (Int32 × (Nat → Int32)) :=
  bd1 (fX3_levelBehind s_low s_high (s_hour + 1) 0) (fun r_1 => (fX3_passHour_L18 s_hour s_heights s_kinds r_1 FU 0 s_holders))
abbrev rmX3_passHour : Room := { frames := 1, cells := 0, slots := 0, locals := 23 }
theorem ddX3_passHour : yX3_passHour.cls ≠ "java/lang/invoke/MethodHandle" ∧ yX3_passHour.cls ≠ "java/lang/invoke/VarHandle" ∧ (parseMethodDescriptor yX3_passHour.desc).map (fun d => d.parameters.length) = some 0 := by decide +kernel
set_option maxHeartbeats 4000000 in
set_option maxRecDepth 100000 in
theorem m_X3_passHour (l : Launch) (dC : Nat → ClassId) (dI : Nat → Nat → Nat) (cI cZ : ClassId) (q_s q_s_heights q_s_holders q_s_kinds q_s_purses q_s_homes : Nat) (s_told : Int32) (s_low : Int32) (s_high : Int32) (s_price : Int32) (s_hour : Int32) (s_bidders : Int32) (s_heights : (Nat → Int32)) (s_holders : (Nat → Int32)) (s_kinds : (Nat → Int32)) (s_purses : (Nat → Int32)) (s_homes : (Nat → Int32)) (sz : Nat) (res : Int32 × (Nat → Int32)) (hf : fX3_passHour s_low s_high s_hour s_heights s_holders s_kinds = some res) : Met l yX3_passHour wsX3_passHour rmX3_passHour (mtPc (dC, dI) (tyZ cI cZ) ((W_Isle cI cZ q_s q_s_heights q_s_holders q_s_kinds q_s_purses q_s_homes s_told s_low s_high s_price s_hour s_bidders s_heights s_holders s_kinds s_purses s_homes)) [.ref q_s] sz) (mtQv (dC, dI) (tyZ cI cZ) ((W_Isle cI cZ q_s q_s_heights q_s_holders q_s_kinds q_s_purses q_s_homes s_told s_low s_high s_price s_hour s_bidders s_heights s_holders s_kinds s_purses s_homes)) ((W_Isle cI cZ q_s q_s_heights q_s_holders q_s_kinds q_s_purses q_s_homes s_told s_low s_high s_price res.1 s_bidders s_heights res.2 s_kinds s_purses s_homes)) sz) 0 0 (va_A ((W_Isle cI cZ q_s q_s_heights q_s_holders q_s_kinds q_s_purses q_s_homes s_told s_low s_high s_price s_hour s_bidders s_heights s_holders s_kinds s_purses s_homes)) sz) := by
  refine Met.ofW (cc := cX3_passHour) (maxL := 3) (ret := none) (by decide) rfl ?_
  intro p e s m args below meth c s₁ B hml hv
  obtain ⟨rfl, hsz, hP, hK, hD0⟩ := hv
  have hx := B.exec
  have hb := B.bytes
  have hr := B.returns
  have hts := atoms_spec (ws := wsX3_passHour) B.pre
  have hown : s.vm.findClass RX3 = some m.cls := findClass_of_methodNamed B.named
  have hlocks := B.notSynchronized
  subst hsz
  have hD := hD0.self (sz := s.heap.size)
  obtain ⟨A, hAe⟩ : ∃ A, A = va_A ((W_Isle cI cZ q_s q_s_heights q_s_holders q_s_kinds q_s_purses q_s_homes s_told s_low s_high s_price s_hour s_bidders s_heights s_holders s_kinds s_purses s_homes)) s.heap.size := ⟨_, rfl⟩
  rw [← hAe] at hD
  have hA : ∀ q : Nat, s.heap.size ≤ q → A q := fun q h => by rw [hAe]; exact Or.inr h
  have hS : va_S A s.heap s.heap [] := va_S.rf
  have hl := lv_entry ([.ref q_s]) (n := 3) (Nat.le_of_ble_eq_true rfl)
  rw [lg_entry_eq]
  generalize (lg_sl ([.ref q_s]) ++ List.replicate (3 - (lg_sl ([.ref q_s])).length) Slot.unset).toArray = ls at hl ⊢
  have hl : lv_has ls 3 [(0, .ref q_s)] := hl
  obtain ⟨QQ, hQQ⟩ : ∃ Q, Q = MQ below (mtQv (dC, dI) (tyZ cI cZ) ((W_Isle cI cZ q_s q_s_heights q_s_holders q_s_kinds q_s_purses q_s_homes s_told s_low s_high s_price s_hour s_bidders s_heights s_holders s_kinds s_purses s_homes)) ((W_Isle cI cZ q_s q_s_heights q_s_holders q_s_kinds q_s_purses q_s_homes s_told s_low s_high s_price res.1 s_bidders s_heights res.2 s_kinds s_purses s_homes)) s.heap.size) ([.ref q_s] : List Value).toArray s 0 0 (va_A ((W_Isle cI cZ q_s q_s_heights q_s_holders q_s_kinds q_s_purses q_s_homes s_told s_low s_high s_price s_hour s_bidders s_heights s_holders s_kinds s_purses s_homes)) s.heap.size) := ⟨_, rfl⟩
  rw [← hQQ]
  have w_0 := hts (Cond.fieldLink RX3 34 "TideInches$Isle" "hour" "I") (List.mem_of_getElem? (i := 1) rfl)
  have w_1 := (fun w hw => List.mem_cons_of_mem _ (List.mem_append_right _ hw) : ∀ w ∈ wsX30, w ∈ wsX3_passHour)
  have w_2 := hts (Cond.fieldLink RX3 18 "TideInches$Isle" "kinds" "[I") (List.mem_of_getElem? (i := 2) rfl)
  have w_3 := hts (Cond.fieldLink RX3 15 "TideInches$Isle" "holders" "[I") (List.mem_of_getElem? (i := 3) rfl)
  have w_4 := hts (Cond.fieldLink RX3 9 "TideInches$Isle" "heights" "[I") (List.mem_of_getElem? (i := 4) rfl)
  have h := hf
  unfold fX3_passHour at h
  refine lv_aload_n hx hb dX3_passHour_0 rfl (lv_at hl 0 rfl) ?_
  refine lv_dup hx hb dX3_passHour_1 rfl ?_
  refine va_get (D := (dC, dI)) (ci := 3) (v := .int s_hour) (C := RX3) (T := TX3) (N := 11) hx hb hts w_1 hown hK hP 0 rfl rfl 4 (by decide) w_0 (fun _ h9 => h9) rfl dX3_passHour_2 ?_
  refine lv_iconst (v := 1) hx hb dX3_passHour_5 (by decide) ?_
  refine lv_iadd hx hb dX3_passHour_6 ?_
  refine va_put (D := (dC, dI)) (ci := 3) (v := .int (s_hour + 1)) (ty := .int) (C := RX3) (T := TX3) (N := 11) hx hb hts w_1 tyX3 tyX3_ok nmX3 hown hK hP hD hS 0 rfl rfl 4 (by decide) w_0 (fun _ h9 => h9) rfl (by decide +kernel) rfl rfl (Nat.le_of_ble_eq_true rfl) dX3_passHour_7 (fun H locs hP hD hS => ?_)
  have hP : va_P (dC, dI) vwCl ((W_Isle cI cZ q_s q_s_heights q_s_holders q_s_kinds q_s_purses q_s_homes s_told s_low s_high s_price (s_hour + 1) s_bidders s_heights s_holders s_kinds s_purses s_homes)) H := hP
  have hD : va_D A ((W_Isle cI cZ q_s q_s_heights q_s_holders q_s_kinds q_s_purses q_s_homes s_told s_low s_high s_price (s_hour + 1) s_bidders s_heights s_holders s_kinds s_purses s_homes)) := hD
  refine lv_aload_n hx hb dX3_passHour_10 rfl (lv_at hl 0 rfl) ?_
  refine lv_iconst (v := 0) hx hb dX3_passHour_11 (by decide) ?_
  obtain ⟨r_1, hc_1, h⟩ := bd1_of h
  refine cl_rV (As := [.int 0]) (rest := []) ⟨hx, hb, hml, hown, hts⟩ (m_X3_levelBehind l dC dI cI cZ q_s q_s_heights q_s_holders q_s_kinds q_s_purses q_s_homes s_told s_low s_high s_price (s_hour + 1) s_bidders s_heights s_holders s_kinds s_purses s_homes 0 (r_1) hc_1) (cwV 1 hts gX3_passHour_X3_levelBehind rfl rfl rfl ⟨rfl, ddX3_levelBehind⟩ ⟨Nat.le_of_ble_eq_true rfl, Nat.le_of_ble_eq_true rfl⟩) hK hP [0, 1, 2, 3, 4, 5] rfl rfl rfl rfl rfl hl.1 (Nat.le_of_ble_eq_true rfl) ⟨Nat.zero_le _, Nat.zero_le _⟩ dX3_passHour_12 ?_
  refine lv_istore_n (lv' := [(1, .int r_1), (0, .ref q_s)]) hx hb dX3_passHour_15 rfl hl (by decide) rfl (fun ls hl => ?_)
  refine lv_iconst (v := 0) hx hb dX3_passHour_16 (by decide) ?_
  refine lv_istore_n (lv' := [(2, .int 0), (1, .int r_1), (0, .ref q_s)]) hx hb dX3_passHour_17 rfl hl (by decide) rfl (fun ls hl => ?_)
  have KL18 : ∀ (n : Nat) (v2_h18 : Int32) (s_holders_h18 : (Nat → Int32)) (H : Heap) (locs : List Loc) (ls : Array Slot), va_P (dC, dI) vwCl ((W_Isle cI cZ q_s q_s_heights q_s_holders q_s_kinds q_s_purses q_s_homes s_told s_low s_high s_price (s_hour + 1) s_bidders s_heights s_holders_h18 s_kinds s_purses s_homes)) H → va_D A ((W_Isle cI cZ q_s q_s_heights q_s_holders q_s_kinds q_s_purses q_s_homes s_told s_low s_high s_price (s_hour + 1) s_bidders s_heights s_holders_h18 s_kinds s_purses s_homes)) → va_S A s.heap H locs → lv_has ls 3 [(0, .ref q_s), (1, .int r_1), (2, .int v2_h18)] → fX3_passHour_L18 s_hour s_heights s_kinds r_1 n v2_h18 s_holders_h18 = some res → W p l e (headSpec wsX3_passHour rmX3_passHour).room s m ([.ref q_s] : List Value).toArray below meth c H locs 0 0 QQ (F0 m 18 ls []) := by
    intro  n
    induction n with
    | zero => intro v2_h18 s_holders_h18 H locs ls hP hD hS hl h; rw [fX3_passHour_L18.eq_1] at h; cases h
    | succ n ih =>
      intro v2_h18 s_holders_h18 H locs ls hP hD hS hl h
      rw [fX3_passHour_L18.eq_2] at h
      refine lv_iload_n hx hb dX3_passHour_18 rfl (lv_at hl 2 rfl) ?_
      refine lv_bipush (v := 15) hx hb dX3_passHour_19 (by decide) ?_
      refine lv_icmp_ge (tgt := 69) hx hb dX3_passHour_21 (by decide) (fun c_2 => ?_) (fun c_2 => ?_)
      · have h := (if_pos c_2).symm.trans h
        have h := Option.some.inj h
        subst h
        rw [hQQ]
        subst hAe
        exact W.vret hx hb hr (fun t ht hW => ⟨⟨(), rfl, trivial, by rw [ht]; exact hP, va_K.moved hW.alike hK, hD⟩, hS.F ht⟩) hS.2.2 dX3_passHour_69
      · have h := (if_neg c_2).symm.trans h
        refine lv_aload_n hx hb dX3_passHour_24 rfl (lv_at hl 0 rfl) ?_
        refine lv_iload_n hx hb dX3_passHour_25 rfl (lv_at hl 2 rfl) ?_
        obtain ⟨r_3, hc_3, h⟩ := bd1_of h
        refine cl_rV (As := [.int v2_h18]) (rest := []) ⟨hx, hb, hml, hown, hts⟩ (m_X3_isHeld l dC dI cI cZ q_s q_s_heights q_s_holders q_s_kinds q_s_purses q_s_homes s_told s_low s_high s_price (s_hour + 1) s_bidders s_heights s_holders_h18 s_kinds s_purses s_homes v2_h18 (r_3) hc_3) (cwV 1 hts gX3_passHour_X3_isHeld rfl rfl rfl ⟨rfl, ddX3_isHeld⟩ ⟨Nat.le_of_ble_eq_true rfl, Nat.le_of_ble_eq_true rfl⟩) hK hP [0, 1, 2, 3, 4, 5] rfl rfl rfl rfl rfl hl.1 (Nat.le_of_ble_eq_true rfl) ⟨Nat.zero_le _, Nat.zero_le _⟩ dX3_passHour_26 ?_
        refine lv_if_eq (tgt := 63) hx hb dX3_passHour_29 (by decide) (fun c_4 => ?_) (fun c_4 => ?_)
        · have h := (if_pos c_4).symm.trans h
          refine lv_iinc (v := (v2_h18 + 1)) (lv' := [(2, .int (v2_h18 + 1)), (0, .ref q_s), (1, .int r_1)]) hx hb dX3_passHour_63 hl (k := 2) rfl rfl (by decide) rfl (fun ls hl => ?_)
          refine lv_goto (tgt := 18) hx hb dX3_passHour_66 (by decide) ?_
          exact ih (v2_h18 + 1) s_holders_h18 _ _ _ hP hD hS (lv_sub hl [1, 2, 0] rfl) h
        · have h := (if_neg c_4).symm.trans h
          refine lv_aload_n hx hb dX3_passHour_32 rfl (lv_at hl 0 rfl) ?_
          refine va_get (D := (dC, dI)) (ci := 3) (v := .ref q_s_kinds) (C := RX3) (T := TX3) (N := 11) hx hb hts w_1 hown hK hP 0 rfl rfl 8 (by decide) w_2 (fun _ h9 => h9) rfl dX3_passHour_33 ?_
          refine lv_aload_n hx hb dX3_passHour_36 rfl (lv_at hl 0 rfl) ?_
          refine va_get (D := (dC, dI)) (ci := 3) (v := .ref q_s_holders) (C := RX3) (T := TX3) (N := 11) hx hb hts w_1 hown hK hP 0 rfl rfl 7 (by decide) w_3 (fun _ h9 => h9) rfl dX3_passHour_37 ?_
          refine lv_iload_n hx hb dX3_passHour_40 rfl (lv_at hl 2 rfl) ?_
          obtain ⟨b_5, h⟩ := chk_of h
          refine va_iald hx hb hK hP 2 0 rfl rfl (i := v2_h18) b_5 dX3_passHour_41 ?_
          obtain ⟨b_6, h⟩ := chk_of h
          refine va_iald hx hb hK hP 3 0 rfl rfl (i := (s_holders_h18 v2_h18.toNatClampNeg)) b_6 dX3_passHour_42 ?_
          refine lv_iload_n hx hb dX3_passHour_43 rfl (lv_at hl 1 rfl) ?_
          refine lv_aload_n hx hb dX3_passHour_44 rfl (lv_at hl 0 rfl) ?_
          refine va_get (D := (dC, dI)) (ci := 3) (v := .ref q_s_heights) (C := RX3) (T := TX3) (N := 11) hx hb hts w_1 hown hK hP 0 rfl rfl 6 (by decide) w_4 (fun _ h9 => h9) rfl dX3_passHour_45 ?_
          refine lv_iload_n hx hb dX3_passHour_48 rfl (lv_at hl 2 rfl) ?_
          obtain ⟨b_7, h⟩ := chk_of h
          refine va_iald hx hb hK hP 1 0 rfl rfl (i := v2_h18) b_7 dX3_passHour_49 ?_
          obtain ⟨r_8, hc_8, h⟩ := bd1_of h
          refine cl_pS (As := [.int (s_kinds (s_holders_h18 v2_h18.toNatClampNeg).toNatClampNeg), .int r_1, .int (s_heights v2_h18.toNatClampNeg)]) (rest := []) ⟨hx, hb, hml, hown, hts⟩ (m_X4_loses l (s_kinds (s_holders_h18 v2_h18.toNatClampNeg).toNatClampNeg) r_1 (s_heights v2_h18.toNatClampNeg) (r_8) hc_8) (va_cwS 3 hts gX3_passHour_X4_loses rfl rfl rfl ddX4_loses ⟨Nat.le_of_ble_eq_true rfl, Nat.le_of_ble_eq_true rfl⟩) rfl rfl hl.1 (Nat.le_of_ble_eq_true rfl) ⟨Nat.zero_le _, Nat.zero_le _⟩ dX3_passHour_50 ?_
          refine lv_if_eq (tgt := 63) hx hb dX3_passHour_53 (by decide) (fun c_9 => ?_) (fun c_9 => ?_)
          · have h := (if_pos c_9).symm.trans h
            refine lv_iinc (v := (v2_h18 + 1)) (lv' := [(2, .int (v2_h18 + 1)), (0, .ref q_s), (1, .int r_1)]) hx hb dX3_passHour_63 hl (k := 2) rfl rfl (by decide) rfl (fun ls hl => ?_)
            refine lv_goto (tgt := 18) hx hb dX3_passHour_66 (by decide) ?_
            exact ih (v2_h18 + 1) s_holders_h18 _ _ _ hP hD hS (lv_sub hl [1, 2, 0] rfl) h
          · have h := (if_neg c_9).symm.trans h
            refine lv_aload_n hx hb dX3_passHour_56 rfl (lv_at hl 0 rfl) ?_
            refine va_get (D := (dC, dI)) (ci := 3) (v := .ref q_s_holders) (C := RX3) (T := TX3) (N := 11) hx hb hts w_1 hown hK hP 0 rfl rfl 7 (by decide) w_3 (fun _ h9 => h9) rfl dX3_passHour_57 ?_
            refine lv_iload_n hx hb dX3_passHour_60 rfl (lv_at hl 2 rfl) ?_
            refine lv_iconst (v := (-1)) hx hb dX3_passHour_61 (by decide) ?_
            obtain ⟨b_10, h⟩ := chk_of h
            refine va_iast hx hb hK hP hD hS 2 0 rfl rfl (i := v2_h18) (x := (-1)) b_10 dX3_passHour_62 (fun H locs hP hD hS => ?_)
            have hP : va_P (dC, dI) vwCl ((W_Isle cI cZ q_s q_s_heights q_s_holders q_s_kinds q_s_purses q_s_homes s_told s_low s_high s_price (s_hour + 1) s_bidders s_heights (upd s_holders_h18 v2_h18.toNatClampNeg (-1)) s_kinds s_purses s_homes)) H := hP
            have hD : va_D A ((W_Isle cI cZ q_s q_s_heights q_s_holders q_s_kinds q_s_purses q_s_homes s_told s_low s_high s_price (s_hour + 1) s_bidders s_heights (upd s_holders_h18 v2_h18.toNatClampNeg (-1)) s_kinds s_purses s_homes)) := hD
            refine lv_iinc (v := (v2_h18 + 1)) (lv' := [(2, .int (v2_h18 + 1)), (0, .ref q_s), (1, .int r_1)]) hx hb dX3_passHour_63 hl (k := 2) rfl rfl (by decide) rfl (fun ls hl => ?_)
            refine lv_goto (tgt := 18) hx hb dX3_passHour_66 (by decide) ?_
            exact ih (v2_h18 + 1) (upd s_holders_h18 v2_h18.toNatClampNeg (-1)) _ _ _ hP hD hS (lv_sub hl [1, 2, 0] rfl) h
  exact KL18 FU 0 s_holders _ _ _ hP hD hS (lv_sub hl [2, 1, 0] rfl) h
def fX3_passDrawnHours_L6 (s_low : Int32) (s_high : Int32) (s_price : Int32) (s_bidders : Int32) (s_heights : (Nat → Int32)) (s_kinds : (Nat → Int32)) (v1 : Int32) : Nat → Int64 → Int32 → Int32 → (Nat → Int32) → (Nat → Int32) → Option (Int32 × (Nat → Int32) × (Nat → Int32))
  | 0, _, _, _, _, _ => none
  | n + 1, v3_h6, v5_h6, s_hour_h6, s_holders_h6, s_purses_h6 => (if v1 ≤ v5_h6 then some (s_hour_h6, s_holders_h6, s_purses_h6) else (if s_bidders ≤ 0 then some (s_hour_h6, s_holders_h6, s_purses_h6) else chk (¬ s_bidders.toInt64 = 0) (bd1 (fX3_isHeld s_holders_h6 ((((v3_h6 * 16807) - (v3_h6 * 16807) / 2147483647 * 2147483647) - ((v3_h6 * 16807) - (v3_h6 * 16807) / 2147483647 * 2147483647) / 15 * 15).toInt32)) (fun r_4 => (if r_4 = 0 then bd1 (fX3_canHave s_low s_high s_hour_h6 s_heights s_kinds ((((v3_h6 * 16807) - (v3_h6 * 16807) / 2147483647 * 2147483647) - ((v3_h6 * 16807) - (v3_h6 * 16807) / 2147483647 * 2147483647) / s_bidders.toInt64 * s_bidders.toInt64).toInt32) ((((v3_h6 * 16807) - (v3_h6 * 16807) / 2147483647 * 2147483647) - ((v3_h6 * 16807) - (v3_h6 * 16807) / 2147483647 * 2147483647) / 15 * 15).toInt32)) (fun r_7 => (if r_7 = 0 then bd2 (fX3_passHour s_low s_high s_hour_h6 s_heights s_holders_h6 s_kinds) (fun s_hour_9 s_holders_9 => ((fX3_passDrawnHours_L6 s_low s_high s_price s_bidders s_heights s_kinds v1 n) ((v3_h6 * 16807) - (v3_h6 * 16807) / 2147483647 * 2147483647) (v5_h6 + 1) s_hour_9 s_holders_9 s_purses_h6)) else bd1 (fX3_costTo s_price s_heights s_kinds ((((v3_h6 * 16807) - (v3_h6 * 16807) / 2147483647 * 2147483647) - ((v3_h6 * 16807) - (v3_h6 * 16807) / 2147483647 * 2147483647) / s_bidders.toInt64 * s_bidders.toInt64).toInt32) ((((v3_h6 * 16807) - (v3_h6 * 16807) / 2147483647 * 2147483647) - ((v3_h6 * 16807) - (v3_h6 * 16807) / 2147483647 * 2147483647) / 15 * 15).toInt32)) (fun r_10 => chk (¬ (((((v3_h6 * 16807) - (v3_h6 * 16807) / 2147483647 * 2147483647) - ((v3_h6 * 16807) - (v3_h6 * 16807) / 2147483647 * 2147483647) / s_bidders.toInt64 * s_bidders.toInt64).toInt32) < 0 ∨ 5 ≤ ((((v3_h6 * 16807) - (v3_h6 * 16807) / 2147483647 * 2147483647) - ((v3_h6 * 16807) - (v3_h6 * 16807) / 2147483647 * 2147483647) / s_bidders.toInt64 * s_bidders.toInt64).toInt32).toNatClampNeg)) ((if (s_purses_h6 ((((v3_h6 * 16807) - (v3_h6 * 16807) / 2147483647 * 2147483647) - ((v3_h6 * 16807) - (v3_h6 * 16807) / 2147483647 * 2147483647) / s_bidders.toInt64 * s_bidders.toInt64).toInt32).toNatClampNeg) < r_10 then bd2 (fX3_passHour s_low s_high s_hour_h6 s_heights s_holders_h6 s_kinds) (fun s_hour_13 s_holders_13 => ((fX3_passDrawnHours_L6 s_low s_high s_price s_bidders s_heights s_kinds v1 n) ((v3_h6 * 16807) - (v3_h6 * 16807) / 2147483647 * 2147483647) (v5_h6 + 1) s_hour_13 s_holders_13 s_purses_h6)) else bd2 (fX3_sell s_price s_heights s_holders_h6 s_kinds s_purses_h6 ((((v3_h6 * 16807) - (v3_h6 * 16807) / 2147483647 * 2147483647) - ((v3_h6 * 16807) - (v3_h6 * 16807) / 2147483647 * 2147483647) / s_bidders.toInt64 * s_bidders.toInt64).toInt32) ((((v3_h6 * 16807) - (v3_h6 * 16807) / 2147483647 * 2147483647) - ((v3_h6 * 16807) - (v3_h6 * 16807) / 2147483647 * 2147483647) / 15 * 15).toInt32)) (fun s_holders_14 s_purses_14 => bd2 (fX3_passHour s_low s_high s_hour_h6 s_heights s_holders_14 s_kinds) (fun s_hour_15 s_holders_15 => ((fX3_passDrawnHours_L6 s_low s_high s_price s_bidders s_heights s_kinds v1 n) ((v3_h6 * 16807) - (v3_h6 * 16807) / 2147483647 * 2147483647) (v5_h6 + 1) s_hour_15 s_holders_15 s_purses_14)))))))) else bd2 (fX3_passHour s_low s_high s_hour_h6 s_heights s_holders_h6 s_kinds) (fun s_hour_6 s_holders_6 => ((fX3_passDrawnHours_L6 s_low s_high s_price s_bidders s_heights s_kinds v1 n) ((v3_h6 * 16807) - (v3_h6 * 16807) / 2147483647 * 2147483647) (v5_h6 + 1) s_hour_6 s_holders_6 s_purses_h6)))))))
def fX3_passDrawnHours (s_low : Int32) (s_high : Int32) (s_price : Int32) (s_hour : Int32) (s_bidders : Int32) (s_heights : (Nat → Int32)) (s_holders : (Nat → Int32)) (s_kinds : (Nat → Int32)) (s_purses : (Nat → Int32)) (v1 : Int32) (v2 : Int32) : Option (Int32 × (Nat → Int32) × (Nat → Int32)) :=
  (fX3_passDrawnHours_L6 s_low s_high s_price s_bidders s_heights s_kinds v1 FU v2.toInt64 0 s_hour s_holders s_purses)
abbrev rmX3_passDrawnHours : Room := { frames := 4, cells := 0, slots := 0, locals := 88 }
theorem ddX3_passDrawnHours : yX3_passDrawnHours.cls ≠ "java/lang/invoke/MethodHandle" ∧ yX3_passDrawnHours.cls ≠ "java/lang/invoke/VarHandle" ∧ (parseMethodDescriptor yX3_passDrawnHours.desc).map (fun d => d.parameters.length) = some 2 := by decide +kernel
set_option maxHeartbeats 4000000 in
set_option maxRecDepth 100000 in
theorem m_X3_passDrawnHours (l : Launch) (dC : Nat → ClassId) (dI : Nat → Nat → Nat) (cI cZ : ClassId) (q_s q_s_heights q_s_holders q_s_kinds q_s_purses q_s_homes : Nat) (s_told : Int32) (s_low : Int32) (s_high : Int32) (s_price : Int32) (s_hour : Int32) (s_bidders : Int32) (s_heights : (Nat → Int32)) (s_holders : (Nat → Int32)) (s_kinds : (Nat → Int32)) (s_purses : (Nat → Int32)) (s_homes : (Nat → Int32)) (v1 : Int32) (v2 : Int32) (sz : Nat) (res : Int32 × (Nat → Int32) × (Nat → Int32)) (hf : fX3_passDrawnHours s_low s_high s_price s_hour s_bidders s_heights s_holders s_kinds s_purses v1 v2 = some res) : Met l yX3_passDrawnHours wsX3_passDrawnHours rmX3_passDrawnHours (mtPc (dC, dI) (tyZ cI cZ) ((W_Isle cI cZ q_s q_s_heights q_s_holders q_s_kinds q_s_purses q_s_homes s_told s_low s_high s_price s_hour s_bidders s_heights s_holders s_kinds s_purses s_homes)) [.ref q_s, .int v1, .int v2] sz) (mtQv (dC, dI) (tyZ cI cZ) ((W_Isle cI cZ q_s q_s_heights q_s_holders q_s_kinds q_s_purses q_s_homes s_told s_low s_high s_price s_hour s_bidders s_heights s_holders s_kinds s_purses s_homes)) ((W_Isle cI cZ q_s q_s_heights q_s_holders q_s_kinds q_s_purses q_s_homes s_told s_low s_high s_price res.1 s_bidders s_heights res.2.1 s_kinds res.2.2 s_homes)) sz) 0 0 (va_A ((W_Isle cI cZ q_s q_s_heights q_s_holders q_s_kinds q_s_purses q_s_homes s_told s_low s_high s_price s_hour s_bidders s_heights s_holders s_kinds s_purses s_homes)) sz) := by
  refine Met.ofW (cc := cX3_passDrawnHours) (maxL := 8) (ret := none) (by decide) rfl ?_
  intro p e s m args below meth c s₁ B hml hv
  obtain ⟨rfl, hsz, hP, hK, hD0⟩ := hv
  have hx := B.exec
  have hb := B.bytes
  have hr := B.returns
  have hts := atoms_spec (ws := wsX3_passDrawnHours) B.pre
  have hown : s.vm.findClass RX3 = some m.cls := findClass_of_methodNamed B.named
  have hlocks := B.notSynchronized
  subst hsz
  have hD := hD0.self (sz := s.heap.size)
  obtain ⟨A, hAe⟩ : ∃ A, A = va_A ((W_Isle cI cZ q_s q_s_heights q_s_holders q_s_kinds q_s_purses q_s_homes s_told s_low s_high s_price s_hour s_bidders s_heights s_holders s_kinds s_purses s_homes)) s.heap.size := ⟨_, rfl⟩
  rw [← hAe] at hD
  have hA : ∀ q : Nat, s.heap.size ≤ q → A q := fun q h => by rw [hAe]; exact Or.inr h
  have hS : va_S A s.heap s.heap [] := va_S.rf
  have hl := lv_entry ([.ref q_s, .int v1, .int v2]) (n := 8) (Nat.le_of_ble_eq_true rfl)
  rw [lg_entry_eq]
  generalize (lg_sl ([.ref q_s, .int v1, .int v2]) ++ List.replicate (8 - (lg_sl ([.ref q_s, .int v1, .int v2])).length) Slot.unset).toArray = ls at hl ⊢
  have hl : lv_has ls 8 [(0, .ref q_s), (1, .int v1), (2, .int v2)] := hl
  obtain ⟨QQ, hQQ⟩ : ∃ Q, Q = MQ below (mtQv (dC, dI) (tyZ cI cZ) ((W_Isle cI cZ q_s q_s_heights q_s_holders q_s_kinds q_s_purses q_s_homes s_told s_low s_high s_price s_hour s_bidders s_heights s_holders s_kinds s_purses s_homes)) ((W_Isle cI cZ q_s q_s_heights q_s_holders q_s_kinds q_s_purses q_s_homes s_told s_low s_high s_price res.1 s_bidders s_heights res.2.1 s_kinds res.2.2 s_homes)) s.heap.size) ([.ref q_s, .int v1, .int v2] : List Value).toArray s 0 0 (va_A ((W_Isle cI cZ q_s q_s_heights q_s_holders q_s_kinds q_s_purses q_s_homes s_told s_low s_high s_price s_hour s_bidders s_heights s_holders s_kinds s_purses s_homes)) s.heap.size) := ⟨_, rfl⟩
  rw [← hQQ]
  have w_0 := hts (Cond.fieldLink RX3 38 "TideInches$Isle" "bidders" "I") (List.mem_of_getElem? (i := 1) rfl)
  have w_1 := (fun w hw => List.mem_cons_of_mem _ (List.mem_append_right _ hw) : ∀ w ∈ wsX30, w ∈ wsX3_passDrawnHours)
  have w_2 := hts (Cond.constantLong RX3 97 (16807)) (List.mem_of_getElem? (i := 2) rfl)
  have w_3 := hts (Cond.constantLong RX3 99 (2147483647)) (List.mem_of_getElem? (i := 3) rfl)
  have w_4 := hts (Cond.constantLong RX3 101 (15)) (List.mem_of_getElem? (i := 4) rfl)
  have w_5 := hts (Cond.fieldLink RX3 21 "TideInches$Isle" "purses" "[I") (List.mem_of_getElem? (i := 5) rfl)
  have h := hf
  unfold fX3_passDrawnHours at h
  refine lv_iload_n hx hb dX3_passDrawnHours_0 rfl (lv_at hl 2 rfl) ?_
  refine lv_i2l hx hb dX3_passDrawnHours_1 rfl ?_
  refine lv_lstore_n (lv' := [(3, .long v2.toInt64), (0, .ref q_s), (1, .int v1), (2, .int v2)]) hx hb dX3_passDrawnHours_2 rfl hl (by decide) rfl (fun ls hl => ?_)
  refine lv_iconst (v := 0) hx hb dX3_passDrawnHours_3 (by decide) ?_
  refine lv_istore (lv' := [(5, .int 0), (3, .long v2.toInt64), (0, .ref q_s), (1, .int v1), (2, .int v2)]) hx hb dX3_passDrawnHours_4 hl (by decide) rfl (fun ls hl => ?_)
  have KL6 : ∀ (n : Nat) (v3_h6 : Int64) (v5_h6 : Int32) (s_hour_h6 : Int32) (s_holders_h6 : (Nat → Int32)) (s_purses_h6 : (Nat → Int32)) (H : Heap) (locs : List Loc) (ls : Array Slot), va_P (dC, dI) vwCl ((W_Isle cI cZ q_s q_s_heights q_s_holders q_s_kinds q_s_purses q_s_homes s_told s_low s_high s_price s_hour_h6 s_bidders s_heights s_holders_h6 s_kinds s_purses_h6 s_homes)) H → va_D A ((W_Isle cI cZ q_s q_s_heights q_s_holders q_s_kinds q_s_purses q_s_homes s_told s_low s_high s_price s_hour_h6 s_bidders s_heights s_holders_h6 s_kinds s_purses_h6 s_homes)) → va_S A s.heap H locs → lv_has ls 8 [(0, .ref q_s), (1, .int v1), (3, .long v3_h6), (5, .int v5_h6)] → fX3_passDrawnHours_L6 s_low s_high s_price s_bidders s_heights s_kinds v1 n v3_h6 v5_h6 s_hour_h6 s_holders_h6 s_purses_h6 = some res → W p l e (headSpec wsX3_passDrawnHours rmX3_passDrawnHours).room s m ([.ref q_s, .int v1, .int v2] : List Value).toArray below meth c H locs 0 0 QQ (F0 m 6 ls []) := by
    intro  n
    induction n with
    | zero => intro v3_h6 v5_h6 s_hour_h6 s_holders_h6 s_purses_h6 H locs ls hP hD hS hl h; rw [fX3_passDrawnHours_L6.eq_1] at h; cases h
    | succ n ih =>
      intro v3_h6 v5_h6 s_hour_h6 s_holders_h6 s_purses_h6 H locs ls hP hD hS hl h
      rw [fX3_passDrawnHours_L6.eq_2] at h
      refine lv_iload hx hb dX3_passDrawnHours_6 (lv_at hl 3 rfl) ?_
      refine lv_iload_n hx hb dX3_passDrawnHours_8 rfl (lv_at hl 1 rfl) ?_
      refine lv_icmp_ge (tgt := 103) hx hb dX3_passDrawnHours_9 (by decide) (fun c_1 => ?_) (fun c_1 => ?_)
      · have h := (if_pos c_1).symm.trans h
        have h := Option.some.inj h
        subst h
        rw [hQQ]
        subst hAe
        exact W.vret hx hb hr (fun t ht hW => ⟨⟨(), rfl, trivial, by rw [ht]; exact hP, va_K.moved hW.alike hK, hD⟩, hS.F ht⟩) hS.2.2 dX3_passDrawnHours_103
      · have h := (if_neg c_1).symm.trans h
        refine lv_aload_n hx hb dX3_passDrawnHours_12 rfl (lv_at hl 0 rfl) ?_
        refine va_get (D := (dC, dI)) (ci := 3) (v := .int s_bidders) (C := RX3) (T := TX3) (N := 11) hx hb hts w_1 hown hK hP 0 rfl rfl 5 (by decide) w_0 (fun _ h9 => h9) rfl dX3_passDrawnHours_13 ?_
        refine lv_if_le (tgt := 103) hx hb dX3_passDrawnHours_16 (by decide) (fun c_2 => ?_) (fun c_2 => ?_)
        · have h := (if_pos c_2).symm.trans h
          have h := Option.some.inj h
          subst h
          rw [hQQ]
          subst hAe
          exact W.vret hx hb hr (fun t ht hW => ⟨⟨(), rfl, trivial, by rw [ht]; exact hP, va_K.moved hW.alike hK, hD⟩, hS.F ht⟩) hS.2.2 dX3_passDrawnHours_103
        · have h := (if_neg c_2).symm.trans h
          refine lv_lload_n hx hb dX3_passDrawnHours_19 rfl (lv_at hl 2 rfl) ?_
          refine lv_ldc2 hx hb hown w_2 dX3_passDrawnHours_20 ?_
          refine lv_lmul hx hb dX3_passDrawnHours_23 ?_
          refine lv_ldc2 hx hb hown w_3 dX3_passDrawnHours_24 ?_
          refine lv_lrem hx hb dX3_passDrawnHours_27 (by decide) ?_
          refine lv_lstore_n (lv' := [(3, .long ((v3_h6 * 16807) - (v3_h6 * 16807) / 2147483647 * 2147483647)), (0, .ref q_s), (1, .int v1), (5, .int v5_h6)]) hx hb dX3_passDrawnHours_28 rfl hl (by decide) rfl (fun ls hl => ?_)
          refine lv_lload_n hx hb dX3_passDrawnHours_29 rfl (lv_at hl 0 rfl) ?_
          refine lv_aload_n hx hb dX3_passDrawnHours_30 rfl (lv_at hl 1 rfl) ?_
          refine va_get (D := (dC, dI)) (ci := 3) (v := .int s_bidders) (C := RX3) (T := TX3) (N := 11) hx hb hts w_1 hown hK hP 0 rfl rfl 5 (by decide) w_0 (fun _ h9 => h9) rfl dX3_passDrawnHours_31 ?_
          refine lv_i2l hx hb dX3_passDrawnHours_34 rfl ?_
          obtain ⟨b_3, h⟩ := chk_of h
          refine lv_lrem hx hb dX3_passDrawnHours_35 b_3 ?_
          refine lv_l2i hx hb dX3_passDrawnHours_36 rfl ?_
          refine lv_istore (lv' := [(6, .int ((((v3_h6 * 16807) - (v3_h6 * 16807) / 2147483647 * 2147483647) - ((v3_h6 * 16807) - (v3_h6 * 16807) / 2147483647 * 2147483647) / s_bidders.toInt64 * s_bidders.toInt64).toInt32)), (3, .long ((v3_h6 * 16807) - (v3_h6 * 16807) / 2147483647 * 2147483647)), (0, .ref q_s), (1, .int v1), (5, .int v5_h6)]) hx hb dX3_passDrawnHours_37 hl (by decide) rfl (fun ls hl => ?_)
          refine lv_lload_n hx hb dX3_passDrawnHours_39 rfl (lv_at hl 1 rfl) ?_
          refine lv_ldc2 hx hb hown w_4 dX3_passDrawnHours_40 ?_
          refine lv_lrem hx hb dX3_passDrawnHours_43 (by decide) ?_
          refine lv_l2i hx hb dX3_passDrawnHours_44 rfl ?_
          refine lv_istore (lv' := [(7, .int ((((v3_h6 * 16807) - (v3_h6 * 16807) / 2147483647 * 2147483647) - ((v3_h6 * 16807) - (v3_h6 * 16807) / 2147483647 * 2147483647) / 15 * 15).toInt32)), (6, .int ((((v3_h6 * 16807) - (v3_h6 * 16807) / 2147483647 * 2147483647) - ((v3_h6 * 16807) - (v3_h6 * 16807) / 2147483647 * 2147483647) / s_bidders.toInt64 * s_bidders.toInt64).toInt32)), (3, .long ((v3_h6 * 16807) - (v3_h6 * 16807) / 2147483647 * 2147483647)), (0, .ref q_s), (1, .int v1), (5, .int v5_h6)]) hx hb dX3_passDrawnHours_45 hl (by decide) rfl (fun ls hl => ?_)
          refine lv_aload_n hx hb dX3_passDrawnHours_47 rfl (lv_at hl 3 rfl) ?_
          refine lv_iload hx hb dX3_passDrawnHours_48 (lv_at hl 0 rfl) ?_
          obtain ⟨r_4, hc_4, h⟩ := bd1_of h
          refine cl_rV (As := [.int ((((v3_h6 * 16807) - (v3_h6 * 16807) / 2147483647 * 2147483647) - ((v3_h6 * 16807) - (v3_h6 * 16807) / 2147483647 * 2147483647) / 15 * 15).toInt32)]) (rest := []) ⟨hx, hb, hml, hown, hts⟩ (m_X3_isHeld l dC dI cI cZ q_s q_s_heights q_s_holders q_s_kinds q_s_purses q_s_homes s_told s_low s_high s_price s_hour_h6 s_bidders s_heights s_holders_h6 s_kinds s_purses_h6 s_homes ((((v3_h6 * 16807) - (v3_h6 * 16807) / 2147483647 * 2147483647) - ((v3_h6 * 16807) - (v3_h6 * 16807) / 2147483647 * 2147483647) / 15 * 15).toInt32) (r_4) hc_4) (cwV 1 hts gX3_passDrawnHours_X3_isHeld rfl rfl rfl ⟨rfl, ddX3_isHeld⟩ ⟨Nat.le_of_ble_eq_true rfl, Nat.le_of_ble_eq_true rfl⟩) hK hP [0, 1, 2, 3, 4, 5] rfl rfl rfl rfl rfl hl.1 (Nat.le_of_ble_eq_true rfl) ⟨Nat.zero_le _, Nat.zero_le _⟩ dX3_passDrawnHours_50 ?_
          refine lv_if_ne (tgt := 93) hx hb dX3_passDrawnHours_53 (by decide) (fun c_5 => ?_) (fun c_5 => ?_)
          · have h := (if_neg c_5).symm.trans h
            refine lv_aload_n hx hb dX3_passDrawnHours_93 rfl (lv_at hl 3 rfl) ?_
            obtain ⟨s_hour_6, s_holders_6, hc_6, h⟩ := bd2_of h
            refine cl_mVv (As := []) (rest := []) (ws' := (W_Isle cI cZ q_s q_s_heights q_s_holders q_s_kinds q_s_purses q_s_homes s_told s_low s_high s_price s_hour_6 s_bidders s_heights s_holders_6 s_kinds s_purses_h6 s_homes)) (wr := []) ⟨hx, hb, hml, hown, hts⟩ (m_X3_passHour l dC dI cI cZ q_s q_s_heights q_s_holders q_s_kinds q_s_purses q_s_homes s_told s_low s_high s_price s_hour_h6 s_bidders s_heights s_holders_h6 s_kinds s_purses_h6 s_homes _ (s_hour_6, s_holders_6) hc_6) (cwV 0 hts gX3_passDrawnHours_X3_passHour rfl rfl rfl ⟨rfl, ddX3_passHour⟩ ⟨Nat.le_of_ble_eq_true rfl, Nat.le_of_ble_eq_true rfl⟩) hK hP hD hS hA [0, 1, 2, 3, 4, 5] [] rfl rfl rfl rfl (by decide) [0, 1, 2, 3, 4, 5] rfl rfl rfl rfl rfl rfl rfl hl.1 (Nat.le_of_ble_eq_true rfl) ⟨Nat.zero_le _, Nat.zero_le _⟩ dX3_passDrawnHours_94 (fun H locs hP hD hS => ?_)
            refine lv_iinc (v := (v5_h6 + 1)) (lv' := [(5, .int (v5_h6 + 1)), (7, .int ((((v3_h6 * 16807) - (v3_h6 * 16807) / 2147483647 * 2147483647) - ((v3_h6 * 16807) - (v3_h6 * 16807) / 2147483647 * 2147483647) / 15 * 15).toInt32)), (6, .int ((((v3_h6 * 16807) - (v3_h6 * 16807) / 2147483647 * 2147483647) - ((v3_h6 * 16807) - (v3_h6 * 16807) / 2147483647 * 2147483647) / s_bidders.toInt64 * s_bidders.toInt64).toInt32)), (3, .long ((v3_h6 * 16807) - (v3_h6 * 16807) / 2147483647 * 2147483647)), (0, .ref q_s), (1, .int v1)]) hx hb dX3_passDrawnHours_97 hl (k := 5) rfl rfl (by decide) rfl (fun ls hl => ?_)
            refine lv_goto (tgt := 6) hx hb dX3_passDrawnHours_100 (by decide) ?_
            exact ih ((v3_h6 * 16807) - (v3_h6 * 16807) / 2147483647 * 2147483647) (v5_h6 + 1) s_hour_6 s_holders_6 s_purses_h6 _ _ _ hP hD hS (lv_sub hl [4, 5, 3, 0] rfl) h
          · have h := (if_pos c_5).symm.trans h
            refine lv_aload_n hx hb dX3_passDrawnHours_56 rfl (lv_at hl 3 rfl) ?_
            refine lv_iload hx hb dX3_passDrawnHours_57 (lv_at hl 1 rfl) ?_
            refine lv_iload hx hb dX3_passDrawnHours_59 (lv_at hl 0 rfl) ?_
            obtain ⟨r_7, hc_7, h⟩ := bd1_of h
            refine cl_rV (As := [.int ((((v3_h6 * 16807) - (v3_h6 * 16807) / 2147483647 * 2147483647) - ((v3_h6 * 16807) - (v3_h6 * 16807) / 2147483647 * 2147483647) / s_bidders.toInt64 * s_bidders.toInt64).toInt32), .int ((((v3_h6 * 16807) - (v3_h6 * 16807) / 2147483647 * 2147483647) - ((v3_h6 * 16807) - (v3_h6 * 16807) / 2147483647 * 2147483647) / 15 * 15).toInt32)]) (rest := []) ⟨hx, hb, hml, hown, hts⟩ (m_X3_canHave l dC dI cI cZ q_s q_s_heights q_s_holders q_s_kinds q_s_purses q_s_homes s_told s_low s_high s_price s_hour_h6 s_bidders s_heights s_holders_h6 s_kinds s_purses_h6 s_homes ((((v3_h6 * 16807) - (v3_h6 * 16807) / 2147483647 * 2147483647) - ((v3_h6 * 16807) - (v3_h6 * 16807) / 2147483647 * 2147483647) / s_bidders.toInt64 * s_bidders.toInt64).toInt32) ((((v3_h6 * 16807) - (v3_h6 * 16807) / 2147483647 * 2147483647) - ((v3_h6 * 16807) - (v3_h6 * 16807) / 2147483647 * 2147483647) / 15 * 15).toInt32) (r_7) hc_7) (cwV 2 hts gX3_passDrawnHours_X3_canHave rfl rfl rfl ⟨rfl, ddX3_canHave⟩ ⟨Nat.le_of_ble_eq_true rfl, Nat.le_of_ble_eq_true rfl⟩) hK hP [0, 1, 2, 3, 4, 5] rfl rfl rfl rfl rfl hl.1 (Nat.le_of_ble_eq_true rfl) ⟨Nat.zero_le _, Nat.zero_le _⟩ dX3_passDrawnHours_61 ?_
            refine lv_if_eq (tgt := 93) hx hb dX3_passDrawnHours_64 (by decide) (fun c_8 => ?_) (fun c_8 => ?_)
            · have h := (if_pos c_8).symm.trans h
              refine lv_aload_n hx hb dX3_passDrawnHours_93 rfl (lv_at hl 3 rfl) ?_
              obtain ⟨s_hour_9, s_holders_9, hc_9, h⟩ := bd2_of h
              refine cl_mVv (As := []) (rest := []) (ws' := (W_Isle cI cZ q_s q_s_heights q_s_holders q_s_kinds q_s_purses q_s_homes s_told s_low s_high s_price s_hour_9 s_bidders s_heights s_holders_9 s_kinds s_purses_h6 s_homes)) (wr := []) ⟨hx, hb, hml, hown, hts⟩ (m_X3_passHour l dC dI cI cZ q_s q_s_heights q_s_holders q_s_kinds q_s_purses q_s_homes s_told s_low s_high s_price s_hour_h6 s_bidders s_heights s_holders_h6 s_kinds s_purses_h6 s_homes _ (s_hour_9, s_holders_9) hc_9) (cwV 0 hts gX3_passDrawnHours_X3_passHour rfl rfl rfl ⟨rfl, ddX3_passHour⟩ ⟨Nat.le_of_ble_eq_true rfl, Nat.le_of_ble_eq_true rfl⟩) hK hP hD hS hA [0, 1, 2, 3, 4, 5] [] rfl rfl rfl rfl (by decide) [0, 1, 2, 3, 4, 5] rfl rfl rfl rfl rfl rfl rfl hl.1 (Nat.le_of_ble_eq_true rfl) ⟨Nat.zero_le _, Nat.zero_le _⟩ dX3_passDrawnHours_94 (fun H locs hP hD hS => ?_)
              refine lv_iinc (v := (v5_h6 + 1)) (lv' := [(5, .int (v5_h6 + 1)), (7, .int ((((v3_h6 * 16807) - (v3_h6 * 16807) / 2147483647 * 2147483647) - ((v3_h6 * 16807) - (v3_h6 * 16807) / 2147483647 * 2147483647) / 15 * 15).toInt32)), (6, .int ((((v3_h6 * 16807) - (v3_h6 * 16807) / 2147483647 * 2147483647) - ((v3_h6 * 16807) - (v3_h6 * 16807) / 2147483647 * 2147483647) / s_bidders.toInt64 * s_bidders.toInt64).toInt32)), (3, .long ((v3_h6 * 16807) - (v3_h6 * 16807) / 2147483647 * 2147483647)), (0, .ref q_s), (1, .int v1)]) hx hb dX3_passDrawnHours_97 hl (k := 5) rfl rfl (by decide) rfl (fun ls hl => ?_)
              refine lv_goto (tgt := 6) hx hb dX3_passDrawnHours_100 (by decide) ?_
              exact ih ((v3_h6 * 16807) - (v3_h6 * 16807) / 2147483647 * 2147483647) (v5_h6 + 1) s_hour_9 s_holders_9 s_purses_h6 _ _ _ hP hD hS (lv_sub hl [4, 5, 3, 0] rfl) h
            · have h := (if_neg c_8).symm.trans h
              refine lv_aload_n hx hb dX3_passDrawnHours_67 rfl (lv_at hl 3 rfl) ?_
              refine lv_iload hx hb dX3_passDrawnHours_68 (lv_at hl 1 rfl) ?_
              refine lv_iload hx hb dX3_passDrawnHours_70 (lv_at hl 0 rfl) ?_
              obtain ⟨r_10, hc_10, h⟩ := bd1_of h
              refine cl_rV (As := [.int ((((v3_h6 * 16807) - (v3_h6 * 16807) / 2147483647 * 2147483647) - ((v3_h6 * 16807) - (v3_h6 * 16807) / 2147483647 * 2147483647) / s_bidders.toInt64 * s_bidders.toInt64).toInt32), .int ((((v3_h6 * 16807) - (v3_h6 * 16807) / 2147483647 * 2147483647) - ((v3_h6 * 16807) - (v3_h6 * 16807) / 2147483647 * 2147483647) / 15 * 15).toInt32)]) (rest := []) ⟨hx, hb, hml, hown, hts⟩ (m_X3_costTo l dC dI cI cZ q_s q_s_heights q_s_holders q_s_kinds q_s_purses q_s_homes s_told s_low s_high s_price s_hour_h6 s_bidders s_heights s_holders_h6 s_kinds s_purses_h6 s_homes ((((v3_h6 * 16807) - (v3_h6 * 16807) / 2147483647 * 2147483647) - ((v3_h6 * 16807) - (v3_h6 * 16807) / 2147483647 * 2147483647) / s_bidders.toInt64 * s_bidders.toInt64).toInt32) ((((v3_h6 * 16807) - (v3_h6 * 16807) / 2147483647 * 2147483647) - ((v3_h6 * 16807) - (v3_h6 * 16807) / 2147483647 * 2147483647) / 15 * 15).toInt32) (r_10) hc_10) (cwV 2 hts gX3_passDrawnHours_X3_costTo rfl rfl rfl ⟨rfl, ddX3_costTo⟩ ⟨Nat.le_of_ble_eq_true rfl, Nat.le_of_ble_eq_true rfl⟩) hK hP [0, 1, 2, 3, 4, 5] rfl rfl rfl rfl rfl hl.1 (Nat.le_of_ble_eq_true rfl) ⟨Nat.zero_le _, Nat.zero_le _⟩ dX3_passDrawnHours_72 ?_
              refine lv_aload_n hx hb dX3_passDrawnHours_75 rfl (lv_at hl 3 rfl) ?_
              refine va_get (D := (dC, dI)) (ci := 3) (v := .ref q_s_purses) (C := RX3) (T := TX3) (N := 11) hx hb hts w_1 hown hK hP 0 rfl rfl 9 (by decide) w_5 (fun _ h9 => h9) rfl dX3_passDrawnHours_76 ?_
              refine lv_iload hx hb dX3_passDrawnHours_79 (lv_at hl 1 rfl) ?_
              obtain ⟨b_11, h⟩ := chk_of h
              refine va_iald hx hb hK hP 4 0 rfl rfl (i := (((v3_h6 * 16807) - (v3_h6 * 16807) / 2147483647 * 2147483647) - ((v3_h6 * 16807) - (v3_h6 * 16807) / 2147483647 * 2147483647) / s_bidders.toInt64 * s_bidders.toInt64).toInt32) b_11 dX3_passDrawnHours_81 ?_
              refine lv_icmp_gt (tgt := 93) hx hb dX3_passDrawnHours_82 (by decide) (fun c_12 => ?_) (fun c_12 => ?_)
              · have h := (if_pos c_12).symm.trans h
                refine lv_aload_n hx hb dX3_passDrawnHours_93 rfl (lv_at hl 3 rfl) ?_
                obtain ⟨s_hour_13, s_holders_13, hc_13, h⟩ := bd2_of h
                refine cl_mVv (As := []) (rest := []) (ws' := (W_Isle cI cZ q_s q_s_heights q_s_holders q_s_kinds q_s_purses q_s_homes s_told s_low s_high s_price s_hour_13 s_bidders s_heights s_holders_13 s_kinds s_purses_h6 s_homes)) (wr := []) ⟨hx, hb, hml, hown, hts⟩ (m_X3_passHour l dC dI cI cZ q_s q_s_heights q_s_holders q_s_kinds q_s_purses q_s_homes s_told s_low s_high s_price s_hour_h6 s_bidders s_heights s_holders_h6 s_kinds s_purses_h6 s_homes _ (s_hour_13, s_holders_13) hc_13) (cwV 0 hts gX3_passDrawnHours_X3_passHour rfl rfl rfl ⟨rfl, ddX3_passHour⟩ ⟨Nat.le_of_ble_eq_true rfl, Nat.le_of_ble_eq_true rfl⟩) hK hP hD hS hA [0, 1, 2, 3, 4, 5] [] rfl rfl rfl rfl (by decide) [0, 1, 2, 3, 4, 5] rfl rfl rfl rfl rfl rfl rfl hl.1 (Nat.le_of_ble_eq_true rfl) ⟨Nat.zero_le _, Nat.zero_le _⟩ dX3_passDrawnHours_94 (fun H locs hP hD hS => ?_)
                refine lv_iinc (v := (v5_h6 + 1)) (lv' := [(5, .int (v5_h6 + 1)), (7, .int ((((v3_h6 * 16807) - (v3_h6 * 16807) / 2147483647 * 2147483647) - ((v3_h6 * 16807) - (v3_h6 * 16807) / 2147483647 * 2147483647) / 15 * 15).toInt32)), (6, .int ((((v3_h6 * 16807) - (v3_h6 * 16807) / 2147483647 * 2147483647) - ((v3_h6 * 16807) - (v3_h6 * 16807) / 2147483647 * 2147483647) / s_bidders.toInt64 * s_bidders.toInt64).toInt32)), (3, .long ((v3_h6 * 16807) - (v3_h6 * 16807) / 2147483647 * 2147483647)), (0, .ref q_s), (1, .int v1)]) hx hb dX3_passDrawnHours_97 hl (k := 5) rfl rfl (by decide) rfl (fun ls hl => ?_)
                refine lv_goto (tgt := 6) hx hb dX3_passDrawnHours_100 (by decide) ?_
                exact ih ((v3_h6 * 16807) - (v3_h6 * 16807) / 2147483647 * 2147483647) (v5_h6 + 1) s_hour_13 s_holders_13 s_purses_h6 _ _ _ hP hD hS (lv_sub hl [4, 5, 3, 0] rfl) h
              · have h := (if_neg c_12).symm.trans h
                refine lv_aload_n hx hb dX3_passDrawnHours_85 rfl (lv_at hl 3 rfl) ?_
                refine lv_iload hx hb dX3_passDrawnHours_86 (lv_at hl 1 rfl) ?_
                refine lv_iload hx hb dX3_passDrawnHours_88 (lv_at hl 0 rfl) ?_
                obtain ⟨s_holders_14, s_purses_14, hc_14, h⟩ := bd2_of h
                refine cl_mVv (As := [.int ((((v3_h6 * 16807) - (v3_h6 * 16807) / 2147483647 * 2147483647) - ((v3_h6 * 16807) - (v3_h6 * 16807) / 2147483647 * 2147483647) / s_bidders.toInt64 * s_bidders.toInt64).toInt32), .int ((((v3_h6 * 16807) - (v3_h6 * 16807) / 2147483647 * 2147483647) - ((v3_h6 * 16807) - (v3_h6 * 16807) / 2147483647 * 2147483647) / 15 * 15).toInt32)]) (rest := []) (ws' := (W_Isle cI cZ q_s q_s_heights q_s_holders q_s_kinds q_s_purses q_s_homes s_told s_low s_high s_price s_hour_h6 s_bidders s_heights s_holders_14 s_kinds s_purses_14 s_homes)) (wr := []) ⟨hx, hb, hml, hown, hts⟩ (m_X3_sell l dC dI cI cZ q_s q_s_heights q_s_holders q_s_kinds q_s_purses q_s_homes s_told s_low s_high s_price s_hour_h6 s_bidders s_heights s_holders_h6 s_kinds s_purses_h6 s_homes ((((v3_h6 * 16807) - (v3_h6 * 16807) / 2147483647 * 2147483647) - ((v3_h6 * 16807) - (v3_h6 * 16807) / 2147483647 * 2147483647) / s_bidders.toInt64 * s_bidders.toInt64).toInt32) ((((v3_h6 * 16807) - (v3_h6 * 16807) / 2147483647 * 2147483647) - ((v3_h6 * 16807) - (v3_h6 * 16807) / 2147483647 * 2147483647) / 15 * 15).toInt32) _ (s_holders_14, s_purses_14) hc_14) (cwV 2 hts gX3_passDrawnHours_X3_sell rfl rfl rfl ⟨rfl, ddX3_sell⟩ ⟨Nat.le_of_ble_eq_true rfl, Nat.le_of_ble_eq_true rfl⟩) hK hP hD hS hA [0, 1, 2, 3, 4, 5] [] rfl rfl rfl rfl (by decide) [0, 1, 2, 3, 4, 5] rfl rfl rfl rfl rfl rfl rfl hl.1 (Nat.le_of_ble_eq_true rfl) ⟨Nat.zero_le _, Nat.zero_le _⟩ dX3_passDrawnHours_90 (fun H locs hP hD hS => ?_)
                refine lv_aload_n hx hb dX3_passDrawnHours_93 rfl (lv_at hl 3 rfl) ?_
                obtain ⟨s_hour_15, s_holders_15, hc_15, h⟩ := bd2_of h
                refine cl_mVv (As := []) (rest := []) (ws' := (W_Isle cI cZ q_s q_s_heights q_s_holders q_s_kinds q_s_purses q_s_homes s_told s_low s_high s_price s_hour_15 s_bidders s_heights s_holders_15 s_kinds s_purses_14 s_homes)) (wr := []) ⟨hx, hb, hml, hown, hts⟩ (m_X3_passHour l dC dI cI cZ q_s q_s_heights q_s_holders q_s_kinds q_s_purses q_s_homes s_told s_low s_high s_price s_hour_h6 s_bidders s_heights s_holders_14 s_kinds s_purses_14 s_homes _ (s_hour_15, s_holders_15) hc_15) (cwV 0 hts gX3_passDrawnHours_X3_passHour rfl rfl rfl ⟨rfl, ddX3_passHour⟩ ⟨Nat.le_of_ble_eq_true rfl, Nat.le_of_ble_eq_true rfl⟩) hK hP hD hS hA [0, 1, 2, 3, 4, 5] [] rfl rfl rfl rfl (by decide) [0, 1, 2, 3, 4, 5] rfl rfl rfl rfl rfl rfl rfl hl.1 (Nat.le_of_ble_eq_true rfl) ⟨Nat.zero_le _, Nat.zero_le _⟩ dX3_passDrawnHours_94 (fun H locs hP hD hS => ?_)
                refine lv_iinc (v := (v5_h6 + 1)) (lv' := [(5, .int (v5_h6 + 1)), (7, .int ((((v3_h6 * 16807) - (v3_h6 * 16807) / 2147483647 * 2147483647) - ((v3_h6 * 16807) - (v3_h6 * 16807) / 2147483647 * 2147483647) / 15 * 15).toInt32)), (6, .int ((((v3_h6 * 16807) - (v3_h6 * 16807) / 2147483647 * 2147483647) - ((v3_h6 * 16807) - (v3_h6 * 16807) / 2147483647 * 2147483647) / s_bidders.toInt64 * s_bidders.toInt64).toInt32)), (3, .long ((v3_h6 * 16807) - (v3_h6 * 16807) / 2147483647 * 2147483647)), (0, .ref q_s), (1, .int v1)]) hx hb dX3_passDrawnHours_97 hl (k := 5) rfl rfl (by decide) rfl (fun ls hl => ?_)
                refine lv_goto (tgt := 6) hx hb dX3_passDrawnHours_100 (by decide) ?_
                exact ih ((v3_h6 * 16807) - (v3_h6 * 16807) / 2147483647 * 2147483647) (v5_h6 + 1) s_hour_15 s_holders_15 s_purses_14 _ _ _ hP hD hS (lv_sub hl [4, 5, 3, 0] rfl) h
  exact KL6 FU v2.toInt64 0 s_hour s_holders s_purses _ _ _ hP hD hS (lv_sub hl [2, 3, 1, 0] rfl) h
def fX3_hoursTillLost_L3 (s_low : Int32) (s_high : Int32) (s_hour : Int32) (s_heights : (Nat → Int32)) (s_kinds : (Nat → Int32)) (v1 : Int32) (v2 : Int32) (v3 : Int32) (k3_42 : Option (Int32)) : Nat → Int32 → Option (Int32)
  | 0, _ => none
  | n + 1, v4_h3 => (if v3 < v4_h3 then k3_42 else chk (¬ (v1 < 0 ∨ 5 ≤ v1.toNatClampNeg)) (bd1 (fX3_levelBehind s_low s_high s_hour v4_h3) (fun r_3 => chk (¬ (v2 < 0 ∨ 15 ≤ v2.toNatClampNeg)) (bd1 (fX4_loses (s_kinds v1.toNatClampNeg) r_3 (s_heights v2.toNatClampNeg)) (fun r_5 => (if r_5 = 0 then ((fX3_hoursTillLost_L3 s_low s_high s_hour s_heights s_kinds v1 v2 v3 k3_42 n) (v4_h3 + 1)) else some (v4_h3)))))))
def fX3_hoursTillLost (s_low : Int32) (s_high : Int32) (s_hour : Int32) (s_heights : (Nat → Int32)) (s_kinds : (Nat → Int32)) (v1 : Int32) (v2 : Int32) (v3 : Int32) : Option (Int32) :=
  (fX3_hoursTillLost_L3 s_low s_high s_hour s_heights s_kinds v1 v2 v3 (some ((v3 + 1))) FU 1)
abbrev rmX3_hoursTillLost : Room := { frames := 1, cells := 0, slots := 0, locals := 23 }
theorem ddX3_hoursTillLost : yX3_hoursTillLost.cls ≠ "java/lang/invoke/MethodHandle" ∧ yX3_hoursTillLost.cls ≠ "java/lang/invoke/VarHandle" ∧ (parseMethodDescriptor yX3_hoursTillLost.desc).map (fun d => d.parameters.length) = some 3 := by decide +kernel
set_option maxHeartbeats 4000000 in
set_option maxRecDepth 100000 in
theorem m_X3_hoursTillLost (l : Launch) (dC : Nat → ClassId) (dI : Nat → Nat → Nat) (cI cZ : ClassId) (q_s q_s_heights q_s_holders q_s_kinds q_s_purses q_s_homes : Nat) (s_told : Int32) (s_low : Int32) (s_high : Int32) (s_price : Int32) (s_hour : Int32) (s_bidders : Int32) (s_heights : (Nat → Int32)) (s_holders : (Nat → Int32)) (s_kinds : (Nat → Int32)) (s_purses : (Nat → Int32)) (s_homes : (Nat → Int32)) (v1 : Int32) (v2 : Int32) (v3 : Int32) (res : Int32) (hf : fX3_hoursTillLost s_low s_high s_hour s_heights s_kinds v1 v2 v3 = some res) : Met l yX3_hoursTillLost wsX3_hoursTillLost rmX3_hoursTillLost (rdPc (dC, dI) (tyZ cI cZ) ((W_Isle cI cZ q_s q_s_heights q_s_holders q_s_kinds q_s_purses q_s_homes s_told s_low s_high s_price s_hour s_bidders s_heights s_holders s_kinds s_purses s_homes)) [.ref q_s, .int v1, .int v2, .int v3]) (rdQ res) 0 0 (fun _ => False) := by
  refine Met.ofW (cc := cX3_hoursTillLost) (maxL := 5) (ret := (some .int)) (by decide) rfl ?_
  intro p e s m args below meth c s₁ B hml hv
  obtain ⟨rfl, hP, hK⟩ := hv
  have hx := B.exec
  have hb := B.bytes
  have hr := B.returns
  have hts := atoms_spec (ws := wsX3_hoursTillLost) B.pre
  have hown : s.vm.findClass RX3 = some m.cls := findClass_of_methodNamed B.named
  have hlocks := B.notSynchronized
  have hl := lv_entry ([.ref q_s, .int v1, .int v2, .int v3]) (n := 5) (Nat.le_of_ble_eq_true rfl)
  rw [lg_entry_eq]
  generalize (lg_sl ([.ref q_s, .int v1, .int v2, .int v3]) ++ List.replicate (5 - (lg_sl ([.ref q_s, .int v1, .int v2, .int v3])).length) Slot.unset).toArray = ls at hl ⊢
  have hl : lv_has ls 5 [(0, .ref q_s), (1, .int v1), (2, .int v2), (3, .int v3)] := hl
  obtain ⟨QQ, hQQ⟩ : ∃ Q, Q = MQ below (rdQ res) ([.ref q_s, .int v1, .int v2, .int v3] : List Value).toArray s 0 0 (fun _ => False) := ⟨_, rfl⟩
  rw [← hQQ]
  have w_0 := hts (Cond.fieldLink RX3 18 "TideInches$Isle" "kinds" "[I") (List.mem_of_getElem? (i := 1) rfl)
  have w_1 := (fun w hw => List.mem_cons_of_mem _ (List.mem_append_right _ hw) : ∀ w ∈ wsX30, w ∈ wsX3_hoursTillLost)
  have w_2 := hts (Cond.fieldLink RX3 9 "TideInches$Isle" "heights" "[I") (List.mem_of_getElem? (i := 2) rfl)
  have h := hf
  unfold fX3_hoursTillLost at h
  refine lv_iconst (v := 1) hx hb dX3_hoursTillLost_0 (by decide) ?_
  refine lv_istore (lv' := [(4, .int 1), (0, .ref q_s), (1, .int v1), (2, .int v2), (3, .int v3)]) hx hb dX3_hoursTillLost_1 hl (by decide) rfl (fun ls hl => ?_)
  have KL3 : ∀ (k3_42 : Option (Int32)) , (∀ (ls : Array Slot), lv_has ls 5 [(3, .int v3)] → k3_42 = some res → W p l e (headSpec wsX3_hoursTillLost rmX3_hoursTillLost).room s m ([.ref q_s, .int v1, .int v2, .int v3] : List Value).toArray below meth c s.heap [] 0 0 QQ (F0 m 42 ls [])) → ∀ (n : Nat) (v4_h3 : Int32) (ls : Array Slot), lv_has ls 5 [(0, .ref q_s), (1, .int v1), (2, .int v2), (3, .int v3), (4, .int v4_h3)] → fX3_hoursTillLost_L3 s_low s_high s_hour s_heights s_kinds v1 v2 v3 k3_42 n v4_h3 = some res → W p l e (headSpec wsX3_hoursTillLost rmX3_hoursTillLost).room s m ([.ref q_s, .int v1, .int v2, .int v3] : List Value).toArray below meth c s.heap [] 0 0 QQ (F0 m 3 ls []) := by
    intro k3_42 Kk3_42 n
    induction n with
    | zero => intro v4_h3 ls hl h; rw [fX3_hoursTillLost_L3.eq_1] at h; cases h
    | succ n ih =>
      intro v4_h3 ls hl h
      rw [fX3_hoursTillLost_L3.eq_2] at h
      refine lv_iload hx hb dX3_hoursTillLost_3 (lv_at hl 4 rfl) ?_
      refine lv_iload_n hx hb dX3_hoursTillLost_5 rfl (lv_at hl 3 rfl) ?_
      refine lv_icmp_gt (tgt := 42) hx hb dX3_hoursTillLost_6 (by decide) (fun c_1 => ?_) (fun c_1 => ?_)
      · have h := (if_pos c_1).symm.trans h
        exact Kk3_42 _ (lv_sub hl [3] rfl) h
      · have h := (if_neg c_1).symm.trans h
        refine lv_aload_n hx hb dX3_hoursTillLost_9 rfl (lv_at hl 0 rfl) ?_
        refine va_get (D := (dC, dI)) (ci := 3) (v := .ref q_s_kinds) (C := RX3) (T := TX3) (N := 11) hx hb hts w_1 hown hK hP 0 rfl rfl 8 (by decide) w_0 (fun _ h9 => h9) rfl dX3_hoursTillLost_10 ?_
        refine lv_iload_n hx hb dX3_hoursTillLost_13 rfl (lv_at hl 1 rfl) ?_
        obtain ⟨b_2, h⟩ := chk_of h
        refine va_iald hx hb hK hP 3 0 rfl rfl (i := v1) b_2 dX3_hoursTillLost_14 ?_
        refine lv_aload_n hx hb dX3_hoursTillLost_15 rfl (lv_at hl 0 rfl) ?_
        refine lv_iload hx hb dX3_hoursTillLost_16 (lv_at hl 4 rfl) ?_
        obtain ⟨r_3, hc_3, h⟩ := bd1_of h
        refine cl_rV (As := [.int v4_h3]) (rest := [.int (s_kinds v1.toNatClampNeg)]) ⟨hx, hb, hml, hown, hts⟩ (m_X3_levelBehind l dC dI cI cZ q_s q_s_heights q_s_holders q_s_kinds q_s_purses q_s_homes s_told s_low s_high s_price s_hour s_bidders s_heights s_holders s_kinds s_purses s_homes v4_h3 (r_3) hc_3) (cwV 1 hts gX3_hoursTillLost_X3_levelBehind rfl rfl rfl ⟨rfl, ddX3_levelBehind⟩ ⟨Nat.le_of_ble_eq_true rfl, Nat.le_of_ble_eq_true rfl⟩) hK hP [0, 1, 2, 3, 4, 5] rfl rfl rfl rfl rfl hl.1 (Nat.le_of_ble_eq_true rfl) ⟨Nat.zero_le _, Nat.zero_le _⟩ dX3_hoursTillLost_18 ?_
        refine lv_aload_n hx hb dX3_hoursTillLost_21 rfl (lv_at hl 0 rfl) ?_
        refine va_get (D := (dC, dI)) (ci := 3) (v := .ref q_s_heights) (C := RX3) (T := TX3) (N := 11) hx hb hts w_1 hown hK hP 0 rfl rfl 6 (by decide) w_2 (fun _ h9 => h9) rfl dX3_hoursTillLost_22 ?_
        refine lv_iload_n hx hb dX3_hoursTillLost_25 rfl (lv_at hl 2 rfl) ?_
        obtain ⟨b_4, h⟩ := chk_of h
        refine va_iald hx hb hK hP 1 0 rfl rfl (i := v2) b_4 dX3_hoursTillLost_26 ?_
        obtain ⟨r_5, hc_5, h⟩ := bd1_of h
        refine cl_pS (As := [.int (s_kinds v1.toNatClampNeg), .int r_3, .int (s_heights v2.toNatClampNeg)]) (rest := []) ⟨hx, hb, hml, hown, hts⟩ (m_X4_loses l (s_kinds v1.toNatClampNeg) r_3 (s_heights v2.toNatClampNeg) (r_5) hc_5) (va_cwS 3 hts gX3_hoursTillLost_X4_loses rfl rfl rfl ddX4_loses ⟨Nat.le_of_ble_eq_true rfl, Nat.le_of_ble_eq_true rfl⟩) rfl rfl hl.1 (Nat.le_of_ble_eq_true rfl) ⟨Nat.zero_le _, Nat.zero_le _⟩ dX3_hoursTillLost_27 ?_
        refine lv_if_eq (tgt := 36) hx hb dX3_hoursTillLost_30 (by decide) (fun c_6 => ?_) (fun c_6 => ?_)
        · have h := (if_pos c_6).symm.trans h
          refine lv_iinc (v := (v4_h3 + 1)) (lv' := [(4, .int (v4_h3 + 1)), (0, .ref q_s), (1, .int v1), (2, .int v2), (3, .int v3)]) hx hb dX3_hoursTillLost_36 hl (k := 4) rfl rfl (by decide) rfl (fun ls hl => ?_)
          refine lv_goto (tgt := 3) hx hb dX3_hoursTillLost_39 (by decide) ?_
          exact ih (v4_h3 + 1) _ (lv_sub hl [1, 2, 3, 4, 0] rfl) h
        · have h := (if_neg c_6).symm.trans h
          refine lv_iload hx hb dX3_hoursTillLost_33 (lv_at hl 4 rfl) ?_
          rw [hQQ]
          exact W.iret (v := v4_h3) hx hb hr (fun t ht hW => ⟨_, rfl, Option.some.inj h, ht⟩) (fun q hq => by cases hq) dX3_hoursTillLost_35
  refine KL3 _ (fun ls hl h => ?_) FU 1 _ (lv_sub hl [1, 2, 3, 4, 0] rfl) h
  refine lv_iload_n hx hb dX3_hoursTillLost_42 rfl (lv_at hl 0 rfl) ?_
  refine lv_iconst (v := 1) hx hb dX3_hoursTillLost_43 (by decide) ?_
  refine lv_iadd hx hb dX3_hoursTillLost_44 ?_
  rw [hQQ]
  exact W.iret (v := (v3 + 1)) hx hb hr (fun t ht hW => ⟨_, rfl, Option.some.inj h, ht⟩) (fun q hq => by cases hq) dX3_hoursTillLost_45
def fX3_freeFor_L4 (s_low : Int32) (s_high : Int32) (s_hour : Int32) (s_heights : (Nat → Int32)) (s_holders : (Nat → Int32)) (s_kinds : (Nat → Int32)) (v1 : Int32) : Nat → Int32 → Int32 → Option (Int32)
  | 0, _, _ => none
  | n + 1, v2_h4, v3_h4 => (if 15 ≤ v3_h4 then some (v2_h4) else bd1 (fX3_isHeld s_holders v3_h4) (fun r_2 => (if r_2 = 0 then bd1 (fX3_canHave s_low s_high s_hour s_heights s_kinds v1 v3_h4) (fun r_4 => (if r_4 = 0 then ((fX3_freeFor_L4 s_low s_high s_hour s_heights s_holders s_kinds v1 n) v2_h4 (v3_h4 + 1)) else ((fX3_freeFor_L4 s_low s_high s_hour s_heights s_holders s_kinds v1 n) (v2_h4 ||| (1 <<< (v3_h4 &&& 31))) (v3_h4 + 1)))) else ((fX3_freeFor_L4 s_low s_high s_hour s_heights s_holders s_kinds v1 n) v2_h4 (v3_h4 + 1)))))
def fX3_freeFor (s_low : Int32) (s_high : Int32) (s_hour : Int32) (s_heights : (Nat → Int32)) (s_holders : (Nat → Int32)) (s_kinds : (Nat → Int32)) (v1 : Int32) : Option (Int32) :=
  (fX3_freeFor_L4 s_low s_high s_hour s_heights s_holders s_kinds v1 FU 0 0)
abbrev rmX3_freeFor : Room := { frames := 3, cells := 0, slots := 0, locals := 67 }
theorem ddX3_freeFor : yX3_freeFor.cls ≠ "java/lang/invoke/MethodHandle" ∧ yX3_freeFor.cls ≠ "java/lang/invoke/VarHandle" ∧ (parseMethodDescriptor yX3_freeFor.desc).map (fun d => d.parameters.length) = some 1 := by decide +kernel
set_option maxHeartbeats 4000000 in
set_option maxRecDepth 100000 in
theorem m_X3_freeFor (l : Launch) (dC : Nat → ClassId) (dI : Nat → Nat → Nat) (cI cZ : ClassId) (q_s q_s_heights q_s_holders q_s_kinds q_s_purses q_s_homes : Nat) (s_told : Int32) (s_low : Int32) (s_high : Int32) (s_price : Int32) (s_hour : Int32) (s_bidders : Int32) (s_heights : (Nat → Int32)) (s_holders : (Nat → Int32)) (s_kinds : (Nat → Int32)) (s_purses : (Nat → Int32)) (s_homes : (Nat → Int32)) (v1 : Int32) (res : Int32) (hf : fX3_freeFor s_low s_high s_hour s_heights s_holders s_kinds v1 = some res) : Met l yX3_freeFor wsX3_freeFor rmX3_freeFor (rdPc (dC, dI) (tyZ cI cZ) ((W_Isle cI cZ q_s q_s_heights q_s_holders q_s_kinds q_s_purses q_s_homes s_told s_low s_high s_price s_hour s_bidders s_heights s_holders s_kinds s_purses s_homes)) [.ref q_s, .int v1]) (rdQ res) 0 0 (fun _ => False) := by
  refine Met.ofW (cc := cX3_freeFor) (maxL := 4) (ret := (some .int)) (by decide) rfl ?_
  intro p e s m args below meth c s₁ B hml hv
  obtain ⟨rfl, hP, hK⟩ := hv
  have hx := B.exec
  have hb := B.bytes
  have hr := B.returns
  have hts := atoms_spec (ws := wsX3_freeFor) B.pre
  have hown : s.vm.findClass RX3 = some m.cls := findClass_of_methodNamed B.named
  have hlocks := B.notSynchronized
  have hl := lv_entry ([.ref q_s, .int v1]) (n := 4) (Nat.le_of_ble_eq_true rfl)
  rw [lg_entry_eq]
  generalize (lg_sl ([.ref q_s, .int v1]) ++ List.replicate (4 - (lg_sl ([.ref q_s, .int v1])).length) Slot.unset).toArray = ls at hl ⊢
  have hl : lv_has ls 4 [(0, .ref q_s), (1, .int v1)] := hl
  obtain ⟨QQ, hQQ⟩ : ∃ Q, Q = MQ below (rdQ res) ([.ref q_s, .int v1] : List Value).toArray s 0 0 (fun _ => False) := ⟨_, rfl⟩
  rw [← hQQ]
  have h := hf
  unfold fX3_freeFor at h
  refine lv_iconst (v := 0) hx hb dX3_freeFor_0 (by decide) ?_
  refine lv_istore_n (lv' := [(2, .int 0), (0, .ref q_s), (1, .int v1)]) hx hb dX3_freeFor_1 rfl hl (by decide) rfl (fun ls hl => ?_)
  refine lv_iconst (v := 0) hx hb dX3_freeFor_2 (by decide) ?_
  refine lv_istore_n (lv' := [(3, .int 0), (2, .int 0), (0, .ref q_s), (1, .int v1)]) hx hb dX3_freeFor_3 rfl hl (by decide) rfl (fun ls hl => ?_)
  have KL4 : ∀ (n : Nat) (v2_h4 : Int32) (v3_h4 : Int32) (ls : Array Slot), lv_has ls 4 [(0, .ref q_s), (1, .int v1), (2, .int v2_h4), (3, .int v3_h4)] → fX3_freeFor_L4 s_low s_high s_hour s_heights s_holders s_kinds v1 n v2_h4 v3_h4 = some res → W p l e (headSpec wsX3_freeFor rmX3_freeFor).room s m ([.ref q_s, .int v1] : List Value).toArray below meth c s.heap [] 0 0 QQ (F0 m 4 ls []) := by
    intro  n
    induction n with
    | zero => intro v2_h4 v3_h4 ls hl h; rw [fX3_freeFor_L4.eq_1] at h; cases h
    | succ n ih =>
      intro v2_h4 v3_h4 ls hl h
      rw [fX3_freeFor_L4.eq_2] at h
      refine lv_iload_n hx hb dX3_freeFor_4 rfl (lv_at hl 3 rfl) ?_
      refine lv_bipush (v := 15) hx hb dX3_freeFor_5 (by decide) ?_
      refine lv_icmp_ge (tgt := 39) hx hb dX3_freeFor_7 (by decide) (fun c_1 => ?_) (fun c_1 => ?_)
      · have h := (if_pos c_1).symm.trans h
        refine lv_iload_n hx hb dX3_freeFor_39 rfl (lv_at hl 2 rfl) ?_
        rw [hQQ]
        exact W.iret (v := v2_h4) hx hb hr (fun t ht hW => ⟨_, rfl, Option.some.inj h, ht⟩) (fun q hq => by cases hq) dX3_freeFor_40
      · have h := (if_neg c_1).symm.trans h
        refine lv_aload_n hx hb dX3_freeFor_10 rfl (lv_at hl 0 rfl) ?_
        refine lv_iload_n hx hb dX3_freeFor_11 rfl (lv_at hl 3 rfl) ?_
        obtain ⟨r_2, hc_2, h⟩ := bd1_of h
        refine cl_rV (As := [.int v3_h4]) (rest := []) ⟨hx, hb, hml, hown, hts⟩ (m_X3_isHeld l dC dI cI cZ q_s q_s_heights q_s_holders q_s_kinds q_s_purses q_s_homes s_told s_low s_high s_price s_hour s_bidders s_heights s_holders s_kinds s_purses s_homes v3_h4 (r_2) hc_2) (cwV 1 hts gX3_freeFor_X3_isHeld rfl rfl rfl ⟨rfl, ddX3_isHeld⟩ ⟨Nat.le_of_ble_eq_true rfl, Nat.le_of_ble_eq_true rfl⟩) hK hP [0, 1, 2, 3, 4, 5] rfl rfl rfl rfl rfl hl.1 (Nat.le_of_ble_eq_true rfl) ⟨Nat.zero_le _, Nat.zero_le _⟩ dX3_freeFor_12 ?_
        refine lv_if_ne (tgt := 33) hx hb dX3_freeFor_15 (by decide) (fun c_3 => ?_) (fun c_3 => ?_)
        · have h := (if_neg c_3).symm.trans h
          refine lv_iinc (v := (v3_h4 + 1)) (lv' := [(3, .int (v3_h4 + 1)), (0, .ref q_s), (1, .int v1), (2, .int v2_h4)]) hx hb dX3_freeFor_33 hl (k := 3) rfl rfl (by decide) rfl (fun ls hl => ?_)
          refine lv_goto (tgt := 4) hx hb dX3_freeFor_36 (by decide) ?_
          exact ih v2_h4 (v3_h4 + 1) _ (lv_sub hl [1, 2, 3, 0] rfl) h
        · have h := (if_pos c_3).symm.trans h
          refine lv_aload_n hx hb dX3_freeFor_18 rfl (lv_at hl 0 rfl) ?_
          refine lv_iload_n hx hb dX3_freeFor_19 rfl (lv_at hl 1 rfl) ?_
          refine lv_iload_n hx hb dX3_freeFor_20 rfl (lv_at hl 3 rfl) ?_
          obtain ⟨r_4, hc_4, h⟩ := bd1_of h
          refine cl_rV (As := [.int v1, .int v3_h4]) (rest := []) ⟨hx, hb, hml, hown, hts⟩ (m_X3_canHave l dC dI cI cZ q_s q_s_heights q_s_holders q_s_kinds q_s_purses q_s_homes s_told s_low s_high s_price s_hour s_bidders s_heights s_holders s_kinds s_purses s_homes v1 v3_h4 (r_4) hc_4) (cwV 2 hts gX3_freeFor_X3_canHave rfl rfl rfl ⟨rfl, ddX3_canHave⟩ ⟨Nat.le_of_ble_eq_true rfl, Nat.le_of_ble_eq_true rfl⟩) hK hP [0, 1, 2, 3, 4, 5] rfl rfl rfl rfl rfl hl.1 (Nat.le_of_ble_eq_true rfl) ⟨Nat.zero_le _, Nat.zero_le _⟩ dX3_freeFor_21 ?_
          refine lv_if_eq (tgt := 33) hx hb dX3_freeFor_24 (by decide) (fun c_5 => ?_) (fun c_5 => ?_)
          · have h := (if_pos c_5).symm.trans h
            refine lv_iinc (v := (v3_h4 + 1)) (lv' := [(3, .int (v3_h4 + 1)), (0, .ref q_s), (1, .int v1), (2, .int v2_h4)]) hx hb dX3_freeFor_33 hl (k := 3) rfl rfl (by decide) rfl (fun ls hl => ?_)
            refine lv_goto (tgt := 4) hx hb dX3_freeFor_36 (by decide) ?_
            exact ih v2_h4 (v3_h4 + 1) _ (lv_sub hl [1, 2, 3, 0] rfl) h
          · have h := (if_neg c_5).symm.trans h
            refine lv_iload_n hx hb dX3_freeFor_27 rfl (lv_at hl 2 rfl) ?_
            refine lv_iconst (v := 1) hx hb dX3_freeFor_28 (by decide) ?_
            refine lv_iload_n hx hb dX3_freeFor_29 rfl (lv_at hl 3 rfl) ?_
            refine lv_ishl hx hb dX3_freeFor_30 ?_
            refine lv_ior hx hb dX3_freeFor_31 ?_
            refine lv_istore_n (lv' := [(2, .int (v2_h4 ||| (1 <<< (v3_h4 &&& 31)))), (0, .ref q_s), (1, .int v1), (3, .int v3_h4)]) hx hb dX3_freeFor_32 rfl hl (by decide) rfl (fun ls hl => ?_)
            refine lv_iinc (v := (v3_h4 + 1)) (lv' := [(3, .int (v3_h4 + 1)), (2, .int (v2_h4 ||| (1 <<< (v3_h4 &&& 31)))), (0, .ref q_s), (1, .int v1)]) hx hb dX3_freeFor_33 hl (k := 3) rfl rfl (by decide) rfl (fun ls hl => ?_)
            refine lv_goto (tgt := 4) hx hb dX3_freeFor_36 (by decide) ?_
            exact ih (v2_h4 ||| (1 <<< (v3_h4 &&& 31))) (v3_h4 + 1) _ (lv_sub hl [2, 3, 1, 0] rfl) h
  exact KL4 FU 0 0 _ (lv_sub hl [2, 3, 1, 0] rfl) h
def fX3_keptFor_L9 (s_low : Int32) (s_high : Int32) (s_hour : Int32) (s_heights : (Nat → Int32)) (s_kinds : (Nat → Int32)) (v1 : Int32) (v2 : Int32) : Nat → Int32 → Int32 → Option (Int32)
  | 0, _, _ => none
  | n + 1, v3_h9, v4_h9 => (if 15 ≤ v4_h9 then some (v3_h9) else bd1 (fX3_hoursTillLost s_low s_high s_hour s_heights s_kinds v1 v4_h9 v2) (fun r_3 => (if v2 < r_3 then ((fX3_keptFor_L9 s_low s_high s_hour s_heights s_kinds v1 v2 n) v3_h9 (v4_h9 + 1)) else ((fX3_keptFor_L9 s_low s_high s_hour s_heights s_kinds v1 v2 n) (v3_h9 &&& ((1 <<< (v4_h9 &&& 31)) ^^^ (-1))) (v4_h9 + 1)))))
def fX3_keptFor (s_low : Int32) (s_high : Int32) (s_hour : Int32) (s_heights : (Nat → Int32)) (s_holders : (Nat → Int32)) (s_kinds : (Nat → Int32)) (v1 : Int32) (v2 : Int32) : Option (Int32) :=
  bd1 (fX3_freeFor s_low s_high s_hour s_heights s_holders s_kinds v1) (fun r_1 => (fX3_keptFor_L9 s_low s_high s_hour s_heights s_kinds v1 v2 FU r_1 0))
abbrev rmX3_keptFor : Room := { frames := 4, cells := 0, slots := 0, locals := 90 }
theorem ddX3_keptFor : yX3_keptFor.cls ≠ "java/lang/invoke/MethodHandle" ∧ yX3_keptFor.cls ≠ "java/lang/invoke/VarHandle" ∧ (parseMethodDescriptor yX3_keptFor.desc).map (fun d => d.parameters.length) = some 2 := by decide +kernel
set_option maxHeartbeats 4000000 in
set_option maxRecDepth 100000 in
theorem m_X3_keptFor (l : Launch) (dC : Nat → ClassId) (dI : Nat → Nat → Nat) (cI cZ : ClassId) (q_s q_s_heights q_s_holders q_s_kinds q_s_purses q_s_homes : Nat) (s_told : Int32) (s_low : Int32) (s_high : Int32) (s_price : Int32) (s_hour : Int32) (s_bidders : Int32) (s_heights : (Nat → Int32)) (s_holders : (Nat → Int32)) (s_kinds : (Nat → Int32)) (s_purses : (Nat → Int32)) (s_homes : (Nat → Int32)) (v1 : Int32) (v2 : Int32) (res : Int32) (hf : fX3_keptFor s_low s_high s_hour s_heights s_holders s_kinds v1 v2 = some res) : Met l yX3_keptFor wsX3_keptFor rmX3_keptFor (rdPc (dC, dI) (tyZ cI cZ) ((W_Isle cI cZ q_s q_s_heights q_s_holders q_s_kinds q_s_purses q_s_homes s_told s_low s_high s_price s_hour s_bidders s_heights s_holders s_kinds s_purses s_homes)) [.ref q_s, .int v1, .int v2]) (rdQ res) 0 0 (fun _ => False) := by
  refine Met.ofW (cc := cX3_keptFor) (maxL := 5) (ret := (some .int)) (by decide) rfl ?_
  intro p e s m args below meth c s₁ B hml hv
  obtain ⟨rfl, hP, hK⟩ := hv
  have hx := B.exec
  have hb := B.bytes
  have hr := B.returns
  have hts := atoms_spec (ws := wsX3_keptFor) B.pre
  have hown : s.vm.findClass RX3 = some m.cls := findClass_of_methodNamed B.named
  have hlocks := B.notSynchronized
  have hl := lv_entry ([.ref q_s, .int v1, .int v2]) (n := 5) (Nat.le_of_ble_eq_true rfl)
  rw [lg_entry_eq]
  generalize (lg_sl ([.ref q_s, .int v1, .int v2]) ++ List.replicate (5 - (lg_sl ([.ref q_s, .int v1, .int v2])).length) Slot.unset).toArray = ls at hl ⊢
  have hl : lv_has ls 5 [(0, .ref q_s), (1, .int v1), (2, .int v2)] := hl
  obtain ⟨QQ, hQQ⟩ : ∃ Q, Q = MQ below (rdQ res) ([.ref q_s, .int v1, .int v2] : List Value).toArray s 0 0 (fun _ => False) := ⟨_, rfl⟩
  rw [← hQQ]
  have h := hf
  unfold fX3_keptFor at h
  refine lv_aload_n hx hb dX3_keptFor_0 rfl (lv_at hl 0 rfl) ?_
  refine lv_iload_n hx hb dX3_keptFor_1 rfl (lv_at hl 1 rfl) ?_
  obtain ⟨r_1, hc_1, h⟩ := bd1_of h
  refine cl_rV (As := [.int v1]) (rest := []) ⟨hx, hb, hml, hown, hts⟩ (m_X3_freeFor l dC dI cI cZ q_s q_s_heights q_s_holders q_s_kinds q_s_purses q_s_homes s_told s_low s_high s_price s_hour s_bidders s_heights s_holders s_kinds s_purses s_homes v1 (r_1) hc_1) (cwV 1 hts gX3_keptFor_X3_freeFor rfl rfl rfl ⟨rfl, ddX3_freeFor⟩ ⟨Nat.le_of_ble_eq_true rfl, Nat.le_of_ble_eq_true rfl⟩) hK hP [0, 1, 2, 3, 4, 5] rfl rfl rfl rfl rfl hl.1 (Nat.le_of_ble_eq_true rfl) ⟨Nat.zero_le _, Nat.zero_le _⟩ dX3_keptFor_2 ?_
  refine lv_istore_n (lv' := [(3, .int r_1), (0, .ref q_s), (1, .int v1), (2, .int v2)]) hx hb dX3_keptFor_5 rfl hl (by decide) rfl (fun ls hl => ?_)
  refine lv_iconst (v := 0) hx hb dX3_keptFor_6 (by decide) ?_
  refine lv_istore (lv' := [(4, .int 0), (3, .int r_1), (0, .ref q_s), (1, .int v1), (2, .int v2)]) hx hb dX3_keptFor_7 hl (by decide) rfl (fun ls hl => ?_)
  have KL9 : ∀ (n : Nat) (v3_h9 : Int32) (v4_h9 : Int32) (ls : Array Slot), lv_has ls 5 [(0, .ref q_s), (1, .int v1), (2, .int v2), (3, .int v3_h9), (4, .int v4_h9)] → fX3_keptFor_L9 s_low s_high s_hour s_heights s_kinds v1 v2 n v3_h9 v4_h9 = some res → W p l e (headSpec wsX3_keptFor rmX3_keptFor).room s m ([.ref q_s, .int v1, .int v2] : List Value).toArray below meth c s.heap [] 0 0 QQ (F0 m 9 ls []) := by
    intro  n
    induction n with
    | zero => intro v3_h9 v4_h9 ls hl h; rw [fX3_keptFor_L9.eq_1] at h; cases h
    | succ n ih =>
      intro v3_h9 v4_h9 ls hl h
      rw [fX3_keptFor_L9.eq_2] at h
      refine lv_iload hx hb dX3_keptFor_9 (lv_at hl 4 rfl) ?_
      refine lv_bipush (v := 15) hx hb dX3_keptFor_11 (by decide) ?_
      refine lv_icmp_ge (tgt := 43) hx hb dX3_keptFor_13 (by decide) (fun c_2 => ?_) (fun c_2 => ?_)
      · have h := (if_pos c_2).symm.trans h
        refine lv_iload_n hx hb dX3_keptFor_43 rfl (lv_at hl 3 rfl) ?_
        rw [hQQ]
        exact W.iret (v := v3_h9) hx hb hr (fun t ht hW => ⟨_, rfl, Option.some.inj h, ht⟩) (fun q hq => by cases hq) dX3_keptFor_44
      · have h := (if_neg c_2).symm.trans h
        refine lv_aload_n hx hb dX3_keptFor_16 rfl (lv_at hl 0 rfl) ?_
        refine lv_iload_n hx hb dX3_keptFor_17 rfl (lv_at hl 1 rfl) ?_
        refine lv_iload hx hb dX3_keptFor_18 (lv_at hl 4 rfl) ?_
        refine lv_iload_n hx hb dX3_keptFor_20 rfl (lv_at hl 2 rfl) ?_
        obtain ⟨r_3, hc_3, h⟩ := bd1_of h
        refine cl_rV (As := [.int v1, .int v4_h9, .int v2]) (rest := []) ⟨hx, hb, hml, hown, hts⟩ (m_X3_hoursTillLost l dC dI cI cZ q_s q_s_heights q_s_holders q_s_kinds q_s_purses q_s_homes s_told s_low s_high s_price s_hour s_bidders s_heights s_holders s_kinds s_purses s_homes v1 v4_h9 v2 (r_3) hc_3) (cwV 3 hts gX3_keptFor_X3_hoursTillLost rfl rfl rfl ⟨rfl, ddX3_hoursTillLost⟩ ⟨Nat.le_of_ble_eq_true rfl, Nat.le_of_ble_eq_true rfl⟩) hK hP [0, 1, 2, 3, 4, 5] rfl rfl rfl rfl rfl hl.1 (Nat.le_of_ble_eq_true rfl) ⟨Nat.zero_le _, Nat.zero_le _⟩ dX3_keptFor_21 ?_
        refine lv_iload_n hx hb dX3_keptFor_24 rfl (lv_at hl 2 rfl) ?_
        refine lv_icmp_gt (tgt := 37) hx hb dX3_keptFor_25 (by decide) (fun c_4 => ?_) (fun c_4 => ?_)
        · have h := (if_pos c_4).symm.trans h
          refine lv_iinc (v := (v4_h9 + 1)) (lv' := [(4, .int (v4_h9 + 1)), (0, .ref q_s), (1, .int v1), (2, .int v2), (3, .int v3_h9)]) hx hb dX3_keptFor_37 hl (k := 4) rfl rfl (by decide) rfl (fun ls hl => ?_)
          refine lv_goto (tgt := 9) hx hb dX3_keptFor_40 (by decide) ?_
          exact ih v3_h9 (v4_h9 + 1) _ (lv_sub hl [1, 2, 3, 4, 0] rfl) h
        · have h := (if_neg c_4).symm.trans h
          refine lv_iload_n hx hb dX3_keptFor_28 rfl (lv_at hl 3 rfl) ?_
          refine lv_iconst (v := 1) hx hb dX3_keptFor_29 (by decide) ?_
          refine lv_iload hx hb dX3_keptFor_30 (lv_at hl 4 rfl) ?_
          refine lv_ishl hx hb dX3_keptFor_32 ?_
          refine lv_iconst (v := (-1)) hx hb dX3_keptFor_33 (by decide) ?_
          refine lv_ixor hx hb dX3_keptFor_34 ?_
          refine lv_iand hx hb dX3_keptFor_35 ?_
          refine lv_istore_n (lv' := [(3, .int (v3_h9 &&& ((1 <<< (v4_h9 &&& 31)) ^^^ (-1)))), (0, .ref q_s), (1, .int v1), (2, .int v2), (4, .int v4_h9)]) hx hb dX3_keptFor_36 rfl hl (by decide) rfl (fun ls hl => ?_)
          refine lv_iinc (v := (v4_h9 + 1)) (lv' := [(4, .int (v4_h9 + 1)), (3, .int (v3_h9 &&& ((1 <<< (v4_h9 &&& 31)) ^^^ (-1)))), (0, .ref q_s), (1, .int v1), (2, .int v2)]) hx hb dX3_keptFor_37 hl (k := 4) rfl rfl (by decide) rfl (fun ls hl => ?_)
          refine lv_goto (tgt := 9) hx hb dX3_keptFor_40 (by decide) ?_
          exact ih (v3_h9 &&& ((1 <<< (v4_h9 &&& 31)) ^^^ (-1))) (v4_h9 + 1) _ (lv_sub hl [2, 3, 4, 1, 0] rfl) h
  exact KL9 FU r_1 0 _ (lv_sub hl [2, 3, 4, 1, 0] rfl) h
def fX3_cheapestOf_J25 (s_price : Int32) (s_heights : (Nat → Int32)) (s_kinds : (Nat → Int32)) (v1 : Int32) (v2 : Int32) (r5 : Int32 → Int32 → Option (Int32)) (v3_h5 : Int32) (v4_h5 : Int32) (w0_j25 : Int32) : Option (Int32) :=
  (if (v2 &&& (1 <<< (v4_h5 &&& 31))) = 0 then (r5 v3_h5 (v4_h5 + 1)) else (if w0_j25 = 0 then bd1 (fX3_costTo s_price s_heights s_kinds v1 v4_h5) (fun r_4 => bd1 (fX3_costTo s_price s_heights s_kinds v1 v3_h5) (fun r_5 => (if r_5 ≤ r_4 then (r5 v3_h5 (v4_h5 + 1)) else (r5 v4_h5 (v4_h5 + 1))))) else (r5 v4_h5 (v4_h5 + 1))))
def fX3_cheapestOf_L5 (s_price : Int32) (s_heights : (Nat → Int32)) (s_kinds : (Nat → Int32)) (v1 : Int32) (v2 : Int32) : Nat → Int32 → Int32 → Option (Int32)
  | 0, _, _ => none
  | n + 1, v3_h5, v4_h5 => (if 15 ≤ v4_h5 then some (v3_h5) else (if (v2 &&& (1 <<< (v3_h5 &&& 31))) = 0 then (fX3_cheapestOf_J25 s_price s_heights s_kinds v1 v2 (fX3_cheapestOf_L5 s_price s_heights s_kinds v1 v2 n) v3_h5 v4_h5 1) else (fX3_cheapestOf_J25 s_price s_heights s_kinds v1 v2 (fX3_cheapestOf_L5 s_price s_heights s_kinds v1 v2 n) v3_h5 v4_h5 0)))
def fX3_cheapestOf (s_price : Int32) (s_heights : (Nat → Int32)) (s_kinds : (Nat → Int32)) (v1 : Int32) (v2 : Int32) : Option (Int32) :=
  (fX3_cheapestOf_L5 s_price s_heights s_kinds v1 v2 FU 0 0)
abbrev rmX3_cheapestOf : Room := { frames := 3, cells := 0, slots := 0, locals := 66 }
theorem ddX3_cheapestOf : yX3_cheapestOf.cls ≠ "java/lang/invoke/MethodHandle" ∧ yX3_cheapestOf.cls ≠ "java/lang/invoke/VarHandle" ∧ (parseMethodDescriptor yX3_cheapestOf.desc).map (fun d => d.parameters.length) = some 2 := by decide +kernel
set_option maxHeartbeats 4000000 in
set_option maxRecDepth 100000 in
theorem m_X3_cheapestOf (l : Launch) (dC : Nat → ClassId) (dI : Nat → Nat → Nat) (cI cZ : ClassId) (q_s q_s_heights q_s_holders q_s_kinds q_s_purses q_s_homes : Nat) (s_told : Int32) (s_low : Int32) (s_high : Int32) (s_price : Int32) (s_hour : Int32) (s_bidders : Int32) (s_heights : (Nat → Int32)) (s_holders : (Nat → Int32)) (s_kinds : (Nat → Int32)) (s_purses : (Nat → Int32)) (s_homes : (Nat → Int32)) (v1 : Int32) (v2 : Int32) (res : Int32) (hf : fX3_cheapestOf s_price s_heights s_kinds v1 v2 = some res) : Met l yX3_cheapestOf wsX3_cheapestOf rmX3_cheapestOf (rdPc (dC, dI) (tyZ cI cZ) ((W_Isle cI cZ q_s q_s_heights q_s_holders q_s_kinds q_s_purses q_s_homes s_told s_low s_high s_price s_hour s_bidders s_heights s_holders s_kinds s_purses s_homes)) [.ref q_s, .int v1, .int v2]) (rdQ res) 0 0 (fun _ => False) := by
  refine Met.ofW (cc := cX3_cheapestOf) (maxL := 6) (ret := (some .int)) (by decide) rfl ?_
  intro p e s m args below meth c s₁ B hml hv
  obtain ⟨rfl, hP, hK⟩ := hv
  have hx := B.exec
  have hb := B.bytes
  have hr := B.returns
  have hts := atoms_spec (ws := wsX3_cheapestOf) B.pre
  have hown : s.vm.findClass RX3 = some m.cls := findClass_of_methodNamed B.named
  have hlocks := B.notSynchronized
  have hl := lv_entry ([.ref q_s, .int v1, .int v2]) (n := 6) (Nat.le_of_ble_eq_true rfl)
  rw [lg_entry_eq]
  generalize (lg_sl ([.ref q_s, .int v1, .int v2]) ++ List.replicate (6 - (lg_sl ([.ref q_s, .int v1, .int v2])).length) Slot.unset).toArray = ls at hl ⊢
  have hl : lv_has ls 6 [(0, .ref q_s), (1, .int v1), (2, .int v2)] := hl
  obtain ⟨QQ, hQQ⟩ : ∃ Q, Q = MQ below (rdQ res) ([.ref q_s, .int v1, .int v2] : List Value).toArray s 0 0 (fun _ => False) := ⟨_, rfl⟩
  rw [← hQQ]
  have h := hf
  unfold fX3_cheapestOf at h
  refine lv_iconst (v := 0) hx hb dX3_cheapestOf_0 (by decide) ?_
  refine lv_istore_n (lv' := [(3, .int 0), (0, .ref q_s), (1, .int v1), (2, .int v2)]) hx hb dX3_cheapestOf_1 rfl hl (by decide) rfl (fun ls hl => ?_)
  refine lv_iconst (v := 0) hx hb dX3_cheapestOf_2 (by decide) ?_
  refine lv_istore (lv' := [(4, .int 0), (3, .int 0), (0, .ref q_s), (1, .int v1), (2, .int v2)]) hx hb dX3_cheapestOf_3 hl (by decide) rfl (fun ls hl => ?_)
  have KL5 : ∀ (n : Nat) (v3_h5 : Int32) (v4_h5 : Int32) (ls : Array Slot), lv_has ls 6 [(0, .ref q_s), (1, .int v1), (2, .int v2), (3, .int v3_h5), (4, .int v4_h5)] → fX3_cheapestOf_L5 s_price s_heights s_kinds v1 v2 n v3_h5 v4_h5 = some res → W p l e (headSpec wsX3_cheapestOf rmX3_cheapestOf).room s m ([.ref q_s, .int v1, .int v2] : List Value).toArray below meth c s.heap [] 0 0 QQ (F0 m 5 ls []) := by
    intro  n
    induction n with
    | zero => intro v3_h5 v4_h5 ls hl h; rw [fX3_cheapestOf_L5.eq_1] at h; cases h
    | succ n ih =>
      intro v3_h5 v4_h5 ls hl h
      rw [fX3_cheapestOf_L5.eq_2] at h
      refine lv_iload hx hb dX3_cheapestOf_5 (lv_at hl 4 rfl) ?_
      refine lv_bipush (v := 15) hx hb dX3_cheapestOf_7 (by decide) ?_
      refine lv_icmp_ge (tgt := 66) hx hb dX3_cheapestOf_9 (by decide) (fun c_1 => ?_) (fun c_1 => ?_)
      · have h := (if_pos c_1).symm.trans h
        refine lv_iload_n hx hb dX3_cheapestOf_66 rfl (lv_at hl 3 rfl) ?_
        rw [hQQ]
        exact W.iret (v := v3_h5) hx hb hr (fun t ht hW => ⟨_, rfl, Option.some.inj h, ht⟩) (fun q hq => by cases hq) dX3_cheapestOf_67
      · have h := (if_neg c_1).symm.trans h
        refine lv_iload_n hx hb dX3_cheapestOf_12 rfl (lv_at hl 2 rfl) ?_
        refine lv_iconst (v := 1) hx hb dX3_cheapestOf_13 (by decide) ?_
        refine lv_iload_n hx hb dX3_cheapestOf_14 rfl (lv_at hl 3 rfl) ?_
        refine lv_ishl hx hb dX3_cheapestOf_15 ?_
        refine lv_iand hx hb dX3_cheapestOf_16 ?_
        have KJ25 : ∀ (w0_j25 : Int32) (ls : Array Slot), lv_has ls 6 [(0, .ref q_s), (1, .int v1), (2, .int v2), (3, .int v3_h5), (4, .int v4_h5)] → fX3_cheapestOf_J25 s_price s_heights s_kinds v1 v2 (fX3_cheapestOf_L5 s_price s_heights s_kinds v1 v2 n) v3_h5 v4_h5 w0_j25 = some res → W p l e (headSpec wsX3_cheapestOf rmX3_cheapestOf).room s m ([.ref q_s, .int v1, .int v2] : List Value).toArray below meth c s.heap [] 0 0 QQ (F0 m 25 ls [.int w0_j25]) := by
          intro w0_j25 ls hl h
          unfold fX3_cheapestOf_J25 at h
          refine lv_istore (lv' := [(5, .int w0_j25), (0, .ref q_s), (1, .int v1), (2, .int v2), (3, .int v3_h5), (4, .int v4_h5)]) hx hb dX3_cheapestOf_25 hl (by decide) rfl (fun ls hl => ?_)
          refine lv_iload_n hx hb dX3_cheapestOf_27 rfl (lv_at hl 3 rfl) ?_
          refine lv_iconst (v := 1) hx hb dX3_cheapestOf_28 (by decide) ?_
          refine lv_iload hx hb dX3_cheapestOf_29 (lv_at hl 5 rfl) ?_
          refine lv_ishl hx hb dX3_cheapestOf_31 ?_
          refine lv_iand hx hb dX3_cheapestOf_32 ?_
          refine lv_if_eq (tgt := 60) hx hb dX3_cheapestOf_33 (by decide) (fun c_2 => ?_) (fun c_2 => ?_)
          · have h := (if_pos c_2).symm.trans h
            refine lv_iinc (v := (v4_h5 + 1)) (lv' := [(4, .int (v4_h5 + 1)), (5, .int w0_j25), (0, .ref q_s), (1, .int v1), (2, .int v2), (3, .int v3_h5)]) hx hb dX3_cheapestOf_60 hl (k := 5) rfl rfl (by decide) rfl (fun ls hl => ?_)
            refine lv_goto (tgt := 5) hx hb dX3_cheapestOf_63 (by decide) ?_
            exact ih v3_h5 (v4_h5 + 1) _ (lv_sub hl [2, 3, 4, 5, 0] rfl) h
          · have h := (if_neg c_2).symm.trans h
            refine lv_iload hx hb dX3_cheapestOf_36 (lv_at hl 0 rfl) ?_
            refine lv_if_ne (tgt := 57) hx hb dX3_cheapestOf_38 (by decide) (fun c_3 => ?_) (fun c_3 => ?_)
            · have h := (if_neg c_3).symm.trans h
              refine lv_iload hx hb dX3_cheapestOf_57 (lv_at hl 5 rfl) ?_
              refine lv_istore_n (lv' := [(3, .int v4_h5), (5, .int w0_j25), (0, .ref q_s), (1, .int v1), (2, .int v2), (4, .int v4_h5)]) hx hb dX3_cheapestOf_59 rfl hl (by decide) rfl (fun ls hl => ?_)
              refine lv_iinc (v := (v4_h5 + 1)) (lv' := [(4, .int (v4_h5 + 1)), (3, .int v4_h5), (5, .int w0_j25), (0, .ref q_s), (1, .int v1), (2, .int v2)]) hx hb dX3_cheapestOf_60 hl (k := 5) rfl rfl (by decide) rfl (fun ls hl => ?_)
              refine lv_goto (tgt := 5) hx hb dX3_cheapestOf_63 (by decide) ?_
              exact ih v4_h5 (v4_h5 + 1) _ (lv_sub hl [3, 4, 5, 1, 0] rfl) h
            · have h := (if_pos c_3).symm.trans h
              refine lv_aload_n hx hb dX3_cheapestOf_41 rfl (lv_at hl 1 rfl) ?_
              refine lv_iload_n hx hb dX3_cheapestOf_42 rfl (lv_at hl 2 rfl) ?_
              refine lv_iload hx hb dX3_cheapestOf_43 (lv_at hl 5 rfl) ?_
              obtain ⟨r_4, hc_4, h⟩ := bd1_of h
              refine cl_rV (As := [.int v1, .int v4_h5]) (rest := []) ⟨hx, hb, hml, hown, hts⟩ (m_X3_costTo l dC dI cI cZ q_s q_s_heights q_s_holders q_s_kinds q_s_purses q_s_homes s_told s_low s_high s_price s_hour s_bidders s_heights s_holders s_kinds s_purses s_homes v1 v4_h5 (r_4) hc_4) (cwV 2 hts gX3_cheapestOf_X3_costTo rfl rfl rfl ⟨rfl, ddX3_costTo⟩ ⟨Nat.le_of_ble_eq_true rfl, Nat.le_of_ble_eq_true rfl⟩) hK hP [0, 1, 2, 3, 4, 5] rfl rfl rfl rfl rfl hl.1 (Nat.le_of_ble_eq_true rfl) ⟨Nat.zero_le _, Nat.zero_le _⟩ dX3_cheapestOf_45 ?_
              refine lv_aload_n hx hb dX3_cheapestOf_48 rfl (lv_at hl 1 rfl) ?_
              refine lv_iload_n hx hb dX3_cheapestOf_49 rfl (lv_at hl 2 rfl) ?_
              refine lv_iload_n hx hb dX3_cheapestOf_50 rfl (lv_at hl 4 rfl) ?_
              obtain ⟨r_5, hc_5, h⟩ := bd1_of h
              refine cl_rV (As := [.int v1, .int v3_h5]) (rest := [.int r_4]) ⟨hx, hb, hml, hown, hts⟩ (m_X3_costTo l dC dI cI cZ q_s q_s_heights q_s_holders q_s_kinds q_s_purses q_s_homes s_told s_low s_high s_price s_hour s_bidders s_heights s_holders s_kinds s_purses s_homes v1 v3_h5 (r_5) hc_5) (cwV 2 hts gX3_cheapestOf_X3_costTo rfl rfl rfl ⟨rfl, ddX3_costTo⟩ ⟨Nat.le_of_ble_eq_true rfl, Nat.le_of_ble_eq_true rfl⟩) hK hP [0, 1, 2, 3, 4, 5] rfl rfl rfl rfl rfl hl.1 (Nat.le_of_ble_eq_true rfl) ⟨Nat.zero_le _, Nat.zero_le _⟩ dX3_cheapestOf_51 ?_
              refine lv_icmp_ge (tgt := 60) hx hb dX3_cheapestOf_54 (by decide) (fun c_6 => ?_) (fun c_6 => ?_)
              · have h := (if_pos c_6).symm.trans h
                refine lv_iinc (v := (v4_h5 + 1)) (lv' := [(4, .int (v4_h5 + 1)), (5, .int w0_j25), (0, .ref q_s), (1, .int v1), (2, .int v2), (3, .int v3_h5)]) hx hb dX3_cheapestOf_60 hl (k := 5) rfl rfl (by decide) rfl (fun ls hl => ?_)
                refine lv_goto (tgt := 5) hx hb dX3_cheapestOf_63 (by decide) ?_
                exact ih v3_h5 (v4_h5 + 1) _ (lv_sub hl [2, 3, 4, 5, 0] rfl) h
              · have h := (if_neg c_6).symm.trans h
                refine lv_iload hx hb dX3_cheapestOf_57 (lv_at hl 5 rfl) ?_
                refine lv_istore_n (lv' := [(3, .int v4_h5), (5, .int w0_j25), (0, .ref q_s), (1, .int v1), (2, .int v2), (4, .int v4_h5)]) hx hb dX3_cheapestOf_59 rfl hl (by decide) rfl (fun ls hl => ?_)
                refine lv_iinc (v := (v4_h5 + 1)) (lv' := [(4, .int (v4_h5 + 1)), (3, .int v4_h5), (5, .int w0_j25), (0, .ref q_s), (1, .int v1), (2, .int v2)]) hx hb dX3_cheapestOf_60 hl (k := 5) rfl rfl (by decide) rfl (fun ls hl => ?_)
                refine lv_goto (tgt := 5) hx hb dX3_cheapestOf_63 (by decide) ?_
                exact ih v4_h5 (v4_h5 + 1) _ (lv_sub hl [3, 4, 5, 1, 0] rfl) h
        refine lv_if_ne (tgt := 24) hx hb dX3_cheapestOf_17 (by decide) (fun c_7 => ?_) (fun c_7 => ?_)
        · have h := (if_neg c_7).symm.trans h
          refine lv_iconst (v := 0) hx hb dX3_cheapestOf_24 (by decide) ?_
          exact KJ25 0 _ (lv_sub hl [0, 1, 2, 3, 4] rfl) h
        · have h := (if_pos c_7).symm.trans h
          refine lv_iconst (v := 1) hx hb dX3_cheapestOf_20 (by decide) ?_
          refine lv_goto (tgt := 25) hx hb dX3_cheapestOf_21 (by decide) ?_
          exact KJ25 1 _ (lv_sub hl [0, 1, 2, 3, 4] rfl) h
  exact KL5 FU 0 0 _ (lv_sub hl [2, 3, 4, 1, 0] rfl) h
def fX3_leastPrices_L9 (s_price : Int32) (s_heights : (Nat → Int32)) (s_kinds : (Nat → Int32)) (v1 : Int32) (v3 : Int32) : Nat → Int32 → Int32 → Int32 → Option (Int32)
  | 0, _, _, _ => none
  | n + 1, v4_h9, v5_h9, v6_h9 => (if v3 ≤ v6_h9 then some (v5_h9) else (if v4_h9 = 0 then some (v5_h9) else bd1 (fX3_cheapestOf s_price s_heights s_kinds v1 v4_h9) (fun r_3 => bd1 (fX3_costTo s_price s_heights s_kinds v1 r_3) (fun r_4 => ((fX3_leastPrices_L9 s_price s_heights s_kinds v1 v3 n) (v4_h9 &&& ((1 <<< (r_3 &&& 31)) ^^^ (-1))) (v5_h9 + r_4) (v6_h9 + 1))))))
def fX3_leastPrices (s_price : Int32) (s_heights : (Nat → Int32)) (s_kinds : (Nat → Int32)) (v1 : Int32) (v2 : Int32) (v3 : Int32) : Option (Int32) :=
  (fX3_leastPrices_L9 s_price s_heights s_kinds v1 v3 FU v2 0 0)
abbrev rmX3_leastPrices : Room := { frames := 4, cells := 0, slots := 0, locals := 91 }
theorem ddX3_leastPrices : yX3_leastPrices.cls ≠ "java/lang/invoke/MethodHandle" ∧ yX3_leastPrices.cls ≠ "java/lang/invoke/VarHandle" ∧ (parseMethodDescriptor yX3_leastPrices.desc).map (fun d => d.parameters.length) = some 3 := by decide +kernel
set_option maxHeartbeats 4000000 in
set_option maxRecDepth 100000 in
theorem m_X3_leastPrices (l : Launch) (dC : Nat → ClassId) (dI : Nat → Nat → Nat) (cI cZ : ClassId) (q_s q_s_heights q_s_holders q_s_kinds q_s_purses q_s_homes : Nat) (s_told : Int32) (s_low : Int32) (s_high : Int32) (s_price : Int32) (s_hour : Int32) (s_bidders : Int32) (s_heights : (Nat → Int32)) (s_holders : (Nat → Int32)) (s_kinds : (Nat → Int32)) (s_purses : (Nat → Int32)) (s_homes : (Nat → Int32)) (v1 : Int32) (v2 : Int32) (v3 : Int32) (res : Int32) (hf : fX3_leastPrices s_price s_heights s_kinds v1 v2 v3 = some res) : Met l yX3_leastPrices wsX3_leastPrices rmX3_leastPrices (rdPc (dC, dI) (tyZ cI cZ) ((W_Isle cI cZ q_s q_s_heights q_s_holders q_s_kinds q_s_purses q_s_homes s_told s_low s_high s_price s_hour s_bidders s_heights s_holders s_kinds s_purses s_homes)) [.ref q_s, .int v1, .int v2, .int v3]) (rdQ res) 0 0 (fun _ => False) := by
  refine Met.ofW (cc := cX3_leastPrices) (maxL := 8) (ret := (some .int)) (by decide) rfl ?_
  intro p e s m args below meth c s₁ B hml hv
  obtain ⟨rfl, hP, hK⟩ := hv
  have hx := B.exec
  have hb := B.bytes
  have hr := B.returns
  have hts := atoms_spec (ws := wsX3_leastPrices) B.pre
  have hown : s.vm.findClass RX3 = some m.cls := findClass_of_methodNamed B.named
  have hlocks := B.notSynchronized
  have hl := lv_entry ([.ref q_s, .int v1, .int v2, .int v3]) (n := 8) (Nat.le_of_ble_eq_true rfl)
  rw [lg_entry_eq]
  generalize (lg_sl ([.ref q_s, .int v1, .int v2, .int v3]) ++ List.replicate (8 - (lg_sl ([.ref q_s, .int v1, .int v2, .int v3])).length) Slot.unset).toArray = ls at hl ⊢
  have hl : lv_has ls 8 [(0, .ref q_s), (1, .int v1), (2, .int v2), (3, .int v3)] := hl
  obtain ⟨QQ, hQQ⟩ : ∃ Q, Q = MQ below (rdQ res) ([.ref q_s, .int v1, .int v2, .int v3] : List Value).toArray s 0 0 (fun _ => False) := ⟨_, rfl⟩
  rw [← hQQ]
  have h := hf
  unfold fX3_leastPrices at h
  refine lv_iload_n hx hb dX3_leastPrices_0 rfl (lv_at hl 2 rfl) ?_
  refine lv_istore (lv' := [(4, .int v2), (0, .ref q_s), (1, .int v1), (2, .int v2), (3, .int v3)]) hx hb dX3_leastPrices_1 hl (by decide) rfl (fun ls hl => ?_)
  refine lv_iconst (v := 0) hx hb dX3_leastPrices_3 (by decide) ?_
  refine lv_istore (lv' := [(5, .int 0), (4, .int v2), (0, .ref q_s), (1, .int v1), (2, .int v2), (3, .int v3)]) hx hb dX3_leastPrices_4 hl (by decide) rfl (fun ls hl => ?_)
  refine lv_iconst (v := 0) hx hb dX3_leastPrices_6 (by decide) ?_
  refine lv_istore (lv' := [(6, .int 0), (5, .int 0), (4, .int v2), (0, .ref q_s), (1, .int v1), (2, .int v2), (3, .int v3)]) hx hb dX3_leastPrices_7 hl (by decide) rfl (fun ls hl => ?_)
  have KL9 : ∀ (n : Nat) (v4_h9 : Int32) (v5_h9 : Int32) (v6_h9 : Int32) (ls : Array Slot), lv_has ls 8 [(0, .ref q_s), (1, .int v1), (3, .int v3), (4, .int v4_h9), (5, .int v5_h9), (6, .int v6_h9)] → fX3_leastPrices_L9 s_price s_heights s_kinds v1 v3 n v4_h9 v5_h9 v6_h9 = some res → W p l e (headSpec wsX3_leastPrices rmX3_leastPrices).room s m ([.ref q_s, .int v1, .int v2, .int v3] : List Value).toArray below meth c s.heap [] 0 0 QQ (F0 m 9 ls []) := by
    intro  n
    induction n with
    | zero => intro v4_h9 v5_h9 v6_h9 ls hl h; rw [fX3_leastPrices_L9.eq_1] at h; cases h
    | succ n ih =>
      intro v4_h9 v5_h9 v6_h9 ls hl h
      rw [fX3_leastPrices_L9.eq_2] at h
      refine lv_iload hx hb dX3_leastPrices_9 (lv_at hl 5 rfl) ?_
      refine lv_iload_n hx hb dX3_leastPrices_11 rfl (lv_at hl 2 rfl) ?_
      refine lv_icmp_ge (tgt := 58) hx hb dX3_leastPrices_12 (by decide) (fun c_1 => ?_) (fun c_1 => ?_)
      · have h := (if_pos c_1).symm.trans h
        refine lv_iload hx hb dX3_leastPrices_58 (lv_at hl 4 rfl) ?_
        rw [hQQ]
        exact W.iret (v := v5_h9) hx hb hr (fun t ht hW => ⟨_, rfl, Option.some.inj h, ht⟩) (fun q hq => by cases hq) dX3_leastPrices_60
      · have h := (if_neg c_1).symm.trans h
        refine lv_iload hx hb dX3_leastPrices_15 (lv_at hl 3 rfl) ?_
        refine lv_if_eq (tgt := 58) hx hb dX3_leastPrices_17 (by decide) (fun c_2 => ?_) (fun c_2 => ?_)
        · have h := (if_pos c_2).symm.trans h
          refine lv_iload hx hb dX3_leastPrices_58 (lv_at hl 4 rfl) ?_
          rw [hQQ]
          exact W.iret (v := v5_h9) hx hb hr (fun t ht hW => ⟨_, rfl, Option.some.inj h, ht⟩) (fun q hq => by cases hq) dX3_leastPrices_60
        · have h := (if_neg c_2).symm.trans h
          refine lv_aload_n hx hb dX3_leastPrices_20 rfl (lv_at hl 0 rfl) ?_
          refine lv_iload_n hx hb dX3_leastPrices_21 rfl (lv_at hl 1 rfl) ?_
          refine lv_iload hx hb dX3_leastPrices_22 (lv_at hl 3 rfl) ?_
          obtain ⟨r_3, hc_3, h⟩ := bd1_of h
          refine cl_rV (As := [.int v1, .int v4_h9]) (rest := []) ⟨hx, hb, hml, hown, hts⟩ (m_X3_cheapestOf l dC dI cI cZ q_s q_s_heights q_s_holders q_s_kinds q_s_purses q_s_homes s_told s_low s_high s_price s_hour s_bidders s_heights s_holders s_kinds s_purses s_homes v1 v4_h9 (r_3) hc_3) (cwV 2 hts gX3_leastPrices_X3_cheapestOf rfl rfl rfl ⟨rfl, ddX3_cheapestOf⟩ ⟨Nat.le_of_ble_eq_true rfl, Nat.le_of_ble_eq_true rfl⟩) hK hP [0, 1, 2, 3, 4, 5] rfl rfl rfl rfl rfl hl.1 (Nat.le_of_ble_eq_true rfl) ⟨Nat.zero_le _, Nat.zero_le _⟩ dX3_leastPrices_24 ?_
          refine lv_istore (lv' := [(7, .int r_3), (0, .ref q_s), (1, .int v1), (3, .int v3), (4, .int v4_h9), (5, .int v5_h9), (6, .int v6_h9)]) hx hb dX3_leastPrices_27 hl (by decide) rfl (fun ls hl => ?_)
          refine lv_iload hx hb dX3_leastPrices_29 (lv_at hl 5 rfl) ?_
          refine lv_aload_n hx hb dX3_leastPrices_31 rfl (lv_at hl 1 rfl) ?_
          refine lv_iload_n hx hb dX3_leastPrices_32 rfl (lv_at hl 2 rfl) ?_
          refine lv_iload hx hb dX3_leastPrices_33 (lv_at hl 0 rfl) ?_
          obtain ⟨r_4, hc_4, h⟩ := bd1_of h
          refine cl_rV (As := [.int v1, .int r_3]) (rest := [.int v5_h9]) ⟨hx, hb, hml, hown, hts⟩ (m_X3_costTo l dC dI cI cZ q_s q_s_heights q_s_holders q_s_kinds q_s_purses q_s_homes s_told s_low s_high s_price s_hour s_bidders s_heights s_holders s_kinds s_purses s_homes v1 r_3 (r_4) hc_4) (cwV 2 hts gX3_leastPrices_X3_costTo rfl rfl rfl ⟨rfl, ddX3_costTo⟩ ⟨Nat.le_of_ble_eq_true rfl, Nat.le_of_ble_eq_true rfl⟩) hK hP [0, 1, 2, 3, 4, 5] rfl rfl rfl rfl rfl hl.1 (Nat.le_of_ble_eq_true rfl) ⟨Nat.zero_le _, Nat.zero_le _⟩ dX3_leastPrices_35 ?_
          refine lv_iadd hx hb dX3_leastPrices_38 ?_
          refine lv_istore (lv' := [(5, .int (v5_h9 + r_4)), (7, .int r_3), (0, .ref q_s), (1, .int v1), (3, .int v3), (4, .int v4_h9), (6, .int v6_h9)]) hx hb dX3_leastPrices_39 hl (by decide) rfl (fun ls hl => ?_)
          refine lv_iload hx hb dX3_leastPrices_41 (lv_at hl 5 rfl) ?_
          refine lv_iconst (v := 1) hx hb dX3_leastPrices_43 (by decide) ?_
          refine lv_iload hx hb dX3_leastPrices_44 (lv_at hl 1 rfl) ?_
          refine lv_ishl hx hb dX3_leastPrices_46 ?_
          refine lv_iconst (v := (-1)) hx hb dX3_leastPrices_47 (by decide) ?_
          refine lv_ixor hx hb dX3_leastPrices_48 ?_
          refine lv_iand hx hb dX3_leastPrices_49 ?_
          refine lv_istore (lv' := [(4, .int (v4_h9 &&& ((1 <<< (r_3 &&& 31)) ^^^ (-1)))), (5, .int (v5_h9 + r_4)), (7, .int r_3), (0, .ref q_s), (1, .int v1), (3, .int v3), (6, .int v6_h9)]) hx hb dX3_leastPrices_50 hl (by decide) rfl (fun ls hl => ?_)
          refine lv_iinc (v := (v6_h9 + 1)) (lv' := [(6, .int (v6_h9 + 1)), (4, .int (v4_h9 &&& ((1 <<< (r_3 &&& 31)) ^^^ (-1)))), (5, .int (v5_h9 + r_4)), (7, .int r_3), (0, .ref q_s), (1, .int v1), (3, .int v3)]) hx hb dX3_leastPrices_52 hl (k := 6) rfl rfl (by decide) rfl (fun ls hl => ?_)
          refine lv_goto (tgt := 9) hx hb dX3_leastPrices_55 (by decide) ?_
          exact ih (v4_h9 &&& ((1 <<< (r_3 &&& 31)) ^^^ (-1))) (v5_h9 + r_4) (v6_h9 + 1) _ (lv_sub hl [4, 5, 6, 1, 2, 0] rfl) h
  exact KL9 FU v2 0 0 _ (lv_sub hl [3, 4, 6, 2, 1, 0] rfl) h

def fX3_hoursToHome_L35 (s_low : Int32) (s_high : Int32) (s_hour : Int32) (s_heights : (Nat → Int32)) (s_homes : (Nat → Int32)) (v1 : Int32) (r_2 : Int32) (r_3 : Int32) : Nat → Int32 → Int32 → Option (Int32)
  | 0, _, _ => none
  | n + 1, v5_h35, v6_h35 => (if 24 < v6_h35 then some ((-1)) else (if (v5_h35 &&& (1 <<< ((s_homes v1.toNatClampNeg) &&& 31))) = 0 then bd1 (fX6_beside v5_h35) (fun r_6 => bd1 (fX3_dryBehind s_low s_high s_hour s_heights (v6_h35 + 1)) (fun r_7 => ((fX3_hoursToHome_L35 s_low s_high s_hour s_heights s_homes v1 r_2 r_3 n) (((v5_h35 ||| r_6) &&& ((32767 &&& (r_2 ^^^ (-1))) ||| r_3)) &&& r_7) (v6_h35 + 1)))) else some (v6_h35)))
def fX3_hoursToHome (s_low : Int32) (s_high : Int32) (s_hour : Int32) (s_heights : (Nat → Int32)) (s_holders : (Nat → Int32)) (s_homes : (Nat → Int32)) (v1 : Int32) (v2 : Int32) : Option (Int32) :=
  chk (¬ (v1 < 0 ∨ 5 ≤ v1.toNatClampNeg)) (bd1 (fX3_heldCells s_holders) (fun r_2 => bd1 (fX3_cellsOf s_holders v1) (fun r_3 => (fX3_hoursToHome_L35 s_low s_high s_hour s_heights s_homes v1 r_2 r_3 FU (1 <<< (v2 &&& 31)) 0))))
abbrev rmX3_hoursToHome : Room := { frames := 2, cells := 0, slots := 0, locals := 44 }
theorem ddX3_hoursToHome : yX3_hoursToHome.cls ≠ "java/lang/invoke/MethodHandle" ∧ yX3_hoursToHome.cls ≠ "java/lang/invoke/VarHandle" ∧ (parseMethodDescriptor yX3_hoursToHome.desc).map (fun d => d.parameters.length) = some 2 := by decide +kernel
set_option maxHeartbeats 4000000 in
set_option maxRecDepth 100000 in
theorem m_X3_hoursToHome (l : Launch) (dC : Nat → ClassId) (dI : Nat → Nat → Nat) (cI cZ : ClassId) (q_s q_s_heights q_s_holders q_s_kinds q_s_purses q_s_homes : Nat) (s_told : Int32) (s_low : Int32) (s_high : Int32) (s_price : Int32) (s_hour : Int32) (s_bidders : Int32) (s_heights : (Nat → Int32)) (s_holders : (Nat → Int32)) (s_kinds : (Nat → Int32)) (s_purses : (Nat → Int32)) (s_homes : (Nat → Int32)) (v1 : Int32) (v2 : Int32) (res : Int32) (hf : fX3_hoursToHome s_low s_high s_hour s_heights s_holders s_homes v1 v2 = some res) : Met l yX3_hoursToHome wsX3_hoursToHome rmX3_hoursToHome (rdPc (dC, dI) (tyZ cI cZ) ((W_Isle cI cZ q_s q_s_heights q_s_holders q_s_kinds q_s_purses q_s_homes s_told s_low s_high s_price s_hour s_bidders s_heights s_holders s_kinds s_purses s_homes)) [.ref q_s, .int v1, .int v2]) (rdQ res) 0 0 (fun _ => False) := by
  refine Met.ofW (cc := cX3_hoursToHome) (maxL := 7) (ret := (some .int)) (by decide) rfl ?_
  intro p e s m args below meth c s₁ B hml hv
  obtain ⟨rfl, hP, hK⟩ := hv
  have hx := B.exec
  have hb := B.bytes
  have hr := B.returns
  have hts := atoms_spec (ws := wsX3_hoursToHome) B.pre
  have hown : s.vm.findClass RX3 = some m.cls := findClass_of_methodNamed B.named
  have hlocks := B.notSynchronized
  have hl := lv_entry ([.ref q_s, .int v1, .int v2]) (n := 7) (Nat.le_of_ble_eq_true rfl)
  rw [lg_entry_eq]
  generalize (lg_sl ([.ref q_s, .int v1, .int v2]) ++ List.replicate (7 - (lg_sl ([.ref q_s, .int v1, .int v2])).length) Slot.unset).toArray = ls at hl ⊢
  have hl : lv_has ls 7 [(0, .ref q_s), (1, .int v1), (2, .int v2)] := hl
  obtain ⟨QQ, hQQ⟩ : ∃ Q, Q = MQ below (rdQ res) ([.ref q_s, .int v1, .int v2] : List Value).toArray s 0 0 (fun _ => False) := ⟨_, rfl⟩
  rw [← hQQ]
  have w_0 := hts (Cond.fieldLink RX3 24 "TideInches$Isle" "homes" "[I") (List.mem_of_getElem? (i := 1) rfl)
  have w_1 := (fun w hw => List.mem_cons_of_mem _ (List.mem_append_right _ hw) : ∀ w ∈ wsX30, w ∈ wsX3_hoursToHome)
  have h := hf
  unfold fX3_hoursToHome at h
  refine lv_iconst (v := 1) hx hb dX3_hoursToHome_0 (by decide) ?_
  refine lv_aload_n hx hb dX3_hoursToHome_1 rfl (lv_at hl 0 rfl) ?_
  refine va_get (D := (dC, dI)) (ci := 3) (v := .ref q_s_homes) (C := RX3) (T := TX3) (N := 11) hx hb hts w_1 hown hK hP 0 rfl rfl 10 (by decide) w_0 (fun _ h9 => h9) rfl dX3_hoursToHome_2 ?_
  refine lv_iload_n hx hb dX3_hoursToHome_5 rfl (lv_at hl 1 rfl) ?_
  obtain ⟨b_1, h⟩ := chk_of h
  refine va_iald hx hb hK hP 5 0 rfl rfl (i := v1) b_1 dX3_hoursToHome_6 ?_
  refine lv_ishl hx hb dX3_hoursToHome_7 ?_
  refine lv_istore_n (lv' := [(3, .int (1 <<< ((s_homes v1.toNatClampNeg) &&& 31))), (0, .ref q_s), (1, .int v1), (2, .int v2)]) hx hb dX3_hoursToHome_8 rfl hl (by decide) rfl (fun ls hl => ?_)
  refine lv_sipush (v := 32767) hx hb dX3_hoursToHome_9 (by decide) ?_
  refine lv_aload_n hx hb dX3_hoursToHome_12 rfl (lv_at hl 1 rfl) ?_
  obtain ⟨r_2, hc_2, h⟩ := bd1_of h
  refine cl_rV (As := []) (rest := [.int 32767]) ⟨hx, hb, hml, hown, hts⟩ (m_X3_heldCells l dC dI cI cZ q_s q_s_heights q_s_holders q_s_kinds q_s_purses q_s_homes s_told s_low s_high s_price s_hour s_bidders s_heights s_holders s_kinds s_purses s_homes (r_2) hc_2) (cwV 0 hts gX3_hoursToHome_X3_heldCells rfl rfl rfl ⟨rfl, ddX3_heldCells⟩ ⟨Nat.le_of_ble_eq_true rfl, Nat.le_of_ble_eq_true rfl⟩) hK hP [0, 1, 2, 3, 4, 5] rfl rfl rfl rfl rfl hl.1 (Nat.le_of_ble_eq_true rfl) ⟨Nat.zero_le _, Nat.zero_le _⟩ dX3_hoursToHome_13 ?_
  refine lv_iconst (v := (-1)) hx hb dX3_hoursToHome_16 (by decide) ?_
  refine lv_ixor hx hb dX3_hoursToHome_17 ?_
  refine lv_iand hx hb dX3_hoursToHome_18 ?_
  refine lv_aload_n hx hb dX3_hoursToHome_19 rfl (lv_at hl 1 rfl) ?_
  refine lv_iload_n hx hb dX3_hoursToHome_20 rfl (lv_at hl 2 rfl) ?_
  obtain ⟨r_3, hc_3, h⟩ := bd1_of h
  refine cl_rV (As := [.int v1]) (rest := [.int (32767 &&& (r_2 ^^^ (-1)))]) ⟨hx, hb, hml, hown, hts⟩ (m_X3_cellsOf l dC dI cI cZ q_s q_s_heights q_s_holders q_s_kinds q_s_purses q_s_homes s_told s_low s_high s_price s_hour s_bidders s_heights s_holders s_kinds s_purses s_homes v1 (r_3) hc_3) (cwV 1 hts gX3_hoursToHome_X3_cellsOf rfl rfl rfl ⟨rfl, ddX3_cellsOf⟩ ⟨Nat.le_of_ble_eq_true rfl, Nat.le_of_ble_eq_true rfl⟩) hK hP [0, 1, 2, 3, 4, 5] rfl rfl rfl rfl rfl hl.1 (Nat.le_of_ble_eq_true rfl) ⟨Nat.zero_le _, Nat.zero_le _⟩ dX3_hoursToHome_21 ?_
  refine lv_ior hx hb dX3_hoursToHome_24 ?_
  refine lv_istore (lv' := [(4, .int ((32767 &&& (r_2 ^^^ (-1))) ||| r_3)), (3, .int (1 <<< ((s_homes v1.toNatClampNeg) &&& 31))), (0, .ref q_s), (1, .int v1), (2, .int v2)]) hx hb dX3_hoursToHome_25 hl (by decide) rfl (fun ls hl => ?_)
  refine lv_iconst (v := 1) hx hb dX3_hoursToHome_27 (by decide) ?_
  refine lv_iload_n hx hb dX3_hoursToHome_28 rfl (lv_at hl 4 rfl) ?_
  refine lv_ishl hx hb dX3_hoursToHome_29 ?_
  refine lv_istore (lv' := [(5, .int (1 <<< (v2 &&& 31))), (4, .int ((32767 &&& (r_2 ^^^ (-1))) ||| r_3)), (3, .int (1 <<< ((s_homes v1.toNatClampNeg) &&& 31))), (0, .ref q_s), (1, .int v1), (2, .int v2)]) hx hb dX3_hoursToHome_30 hl (by decide) rfl (fun ls hl => ?_)
  refine lv_iconst (v := 0) hx hb dX3_hoursToHome_32 (by decide) ?_
  refine lv_istore (lv' := [(6, .int 0), (5, .int (1 <<< (v2 &&& 31))), (4, .int ((32767 &&& (r_2 ^^^ (-1))) ||| r_3)), (3, .int (1 <<< ((s_homes v1.toNatClampNeg) &&& 31))), (0, .ref q_s), (1, .int v1), (2, .int v2)]) hx hb dX3_hoursToHome_33 hl (by decide) rfl (fun ls hl => ?_)
  have KL35 : ∀ (n : Nat) (v5_h35 : Int32) (v6_h35 : Int32) (ls : Array Slot), lv_has ls 7 [(0, .ref q_s), (3, .int (1 <<< ((s_homes v1.toNatClampNeg) &&& 31))), (4, .int ((32767 &&& (r_2 ^^^ (-1))) ||| r_3)), (5, .int v5_h35), (6, .int v6_h35)] → fX3_hoursToHome_L35 s_low s_high s_hour s_heights s_homes v1 r_2 r_3 n v5_h35 v6_h35 = some res → W p l e (headSpec wsX3_hoursToHome rmX3_hoursToHome).room s m ([.ref q_s, .int v1, .int v2] : List Value).toArray below meth c s.heap [] 0 0 QQ (F0 m 35 ls []) := by
    intro  n
    induction n with
    | zero => intro v5_h35 v6_h35 ls hl h; rw [fX3_hoursToHome_L35.eq_1] at h; cases h
    | succ n ih =>
      intro v5_h35 v6_h35 ls hl h
      rw [fX3_hoursToHome_L35.eq_2] at h
      refine lv_iload hx hb dX3_hoursToHome_35 (lv_at hl 4 rfl) ?_
      refine lv_bipush (v := 24) hx hb dX3_hoursToHome_37 (by decide) ?_
      refine lv_icmp_gt (tgt := 80) hx hb dX3_hoursToHome_39 (by decide) (fun c_4 => ?_) (fun c_4 => ?_)
      · have h := (if_pos c_4).symm.trans h
        refine lv_iconst (v := (-1)) hx hb dX3_hoursToHome_80 (by decide) ?_
        rw [hQQ]
        exact W.iret (v := (-1)) hx hb hr (fun t ht hW => ⟨_, rfl, Option.some.inj h, ht⟩) (fun q hq => by cases hq) dX3_hoursToHome_81
      · have h := (if_neg c_4).symm.trans h
        refine lv_iload hx hb dX3_hoursToHome_42 (lv_at hl 3 rfl) ?_
        refine lv_iload_n hx hb dX3_hoursToHome_44 rfl (lv_at hl 1 rfl) ?_
        refine lv_iand hx hb dX3_hoursToHome_45 ?_
        refine lv_if_eq (tgt := 52) hx hb dX3_hoursToHome_46 (by decide) (fun c_5 => ?_) (fun c_5 => ?_)
        · have h := (if_pos c_5).symm.trans h
          refine lv_iload hx hb dX3_hoursToHome_52 (lv_at hl 3 rfl) ?_
          refine lv_iload hx hb dX3_hoursToHome_54 (lv_at hl 3 rfl) ?_
          obtain ⟨r_6, hc_6, h⟩ := bd1_of h
          refine cl_pS (As := [.int v5_h35]) (rest := [.int v5_h35]) ⟨hx, hb, hml, hown, hts⟩ (m_X6_beside l v5_h35 (r_6) hc_6) (va_cwS 1 hts gX3_hoursToHome_X6_beside rfl rfl rfl ddX6_beside ⟨Nat.le_of_ble_eq_true rfl, Nat.le_of_ble_eq_true rfl⟩) rfl rfl hl.1 (Nat.le_of_ble_eq_true rfl) ⟨Nat.zero_le _, Nat.zero_le _⟩ dX3_hoursToHome_56 ?_
          refine lv_ior hx hb dX3_hoursToHome_59 ?_
          refine lv_iload hx hb dX3_hoursToHome_60 (lv_at hl 2 rfl) ?_
          refine lv_iand hx hb dX3_hoursToHome_62 ?_
          refine lv_aload_n hx hb dX3_hoursToHome_63 rfl (lv_at hl 0 rfl) ?_
          refine lv_iload hx hb dX3_hoursToHome_64 (lv_at hl 4 rfl) ?_
          refine lv_iconst (v := 1) hx hb dX3_hoursToHome_66 (by decide) ?_
          refine lv_iadd hx hb dX3_hoursToHome_67 ?_
          obtain ⟨r_7, hc_7, h⟩ := bd1_of h
          refine cl_rV (As := [.int (v6_h35 + 1)]) (rest := [.int ((v5_h35 ||| r_6) &&& ((32767 &&& (r_2 ^^^ (-1))) ||| r_3))]) ⟨hx, hb, hml, hown, hts⟩ (m_X3_dryBehind l dC dI cI cZ q_s q_s_heights q_s_holders q_s_kinds q_s_purses q_s_homes s_told s_low s_high s_price s_hour s_bidders s_heights s_holders s_kinds s_purses s_homes (v6_h35 + 1) (r_7) hc_7) (cwV 1 hts gX3_hoursToHome_X3_dryBehind rfl rfl rfl ⟨rfl, ddX3_dryBehind⟩ ⟨Nat.le_of_ble_eq_true rfl, Nat.le_of_ble_eq_true rfl⟩) hK hP [0, 1, 2, 3, 4, 5] rfl rfl rfl rfl rfl hl.1 (Nat.le_of_ble_eq_true rfl) ⟨Nat.zero_le _, Nat.zero_le _⟩ dX3_hoursToHome_68 ?_
          refine lv_iand hx hb dX3_hoursToHome_71 ?_
          refine lv_istore (lv' := [(5, .int (((v5_h35 ||| r_6) &&& ((32767 &&& (r_2 ^^^ (-1))) ||| r_3)) &&& r_7)), (0, .ref q_s), (3, .int (1 <<< ((s_homes v1.toNatClampNeg) &&& 31))), (4, .int ((32767 &&& (r_2 ^^^ (-1))) ||| r_3)), (6, .int v6_h35)]) hx hb dX3_hoursToHome_72 hl (by decide) rfl (fun ls hl => ?_)
          refine lv_iinc (v := (v6_h35 + 1)) (lv' := [(6, .int (v6_h35 + 1)), (5, .int (((v5_h35 ||| r_6) &&& ((32767 &&& (r_2 ^^^ (-1))) ||| r_3)) &&& r_7)), (0, .ref q_s), (3, .int (1 <<< ((s_homes v1.toNatClampNeg) &&& 31))), (4, .int ((32767 &&& (r_2 ^^^ (-1))) ||| r_3))]) hx hb dX3_hoursToHome_74 hl (k := 4) rfl rfl (by decide) rfl (fun ls hl => ?_)
          refine lv_goto (tgt := 35) hx hb dX3_hoursToHome_77 (by decide) ?_
          exact ih (((v5_h35 ||| r_6) &&& ((32767 &&& (r_2 ^^^ (-1))) ||| r_3)) &&& r_7) (v6_h35 + 1) _ (lv_sub hl [2, 3, 4, 1, 0] rfl) h
        · have h := (if_neg c_5).symm.trans h
          refine lv_iload hx hb dX3_hoursToHome_49 (lv_at hl 4 rfl) ?_
          rw [hQQ]
          exact W.iret (v := v6_h35) hx hb hr (fun t ht hW => ⟨_, rfl, Option.some.inj h, ht⟩) (fun q hq => by cases hq) dX3_hoursToHome_51
  exact KL35 FU (1 <<< (v2 &&& 31)) 0 _ (lv_sub hl [4, 3, 2, 1, 0] rfl) h
