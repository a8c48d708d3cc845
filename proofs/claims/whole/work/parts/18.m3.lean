def fX9_stays_L31 (s_isle : (Nat → Int32)) (v1 : Int32) : Nat → Int32 → (Nat → Int32) → Option (Int32 × Int32 × (Nat → Int32))
  | 0, _, _ => none
  | n + 1, v2_h31, s_then_h31 => (if 61 ≤ v2_h31 then some ((-1000000), 0, s_then_h31) else chk (¬ ((21 + v1) < 0 ∨ 51 ≤ (21 + v1).toNatClampNeg)) ((if (s_isle (21 + v1).toNatClampNeg) ≤ 0 then some ((-1000000), 0, s_then_h31) else bd1 (fX9_hour s_then_h31) (fun s_then_9 => chk (¬ ((21 + v1) < 0 ∨ 51 ≤ (21 + v1).toNatClampNeg)) ((if (s_then_9 (21 + v1).toNatClampNeg) = 0 then some (v2_h31, 0, s_then_9) else ((fX9_stays_L31 s_isle v1 n) (v2_h31 + 1) s_then_9)))))))
def fX9_stays (s_isle : (Nat → Int32)) (s_then : (Nat → Int32)) (v1 : Int32) : Option (Int32 × Int32 × (Nat → Int32)) :=
  bd1 (fX9_isThere s_isle) (fun r_1 => (if r_1 = 0 then some ((-1000002), 0, s_then) else bd1 (fX9_isCell v1) (fun r_3 => (if r_3 = 0 then some ((-1000001), 0, s_then) else bd1 (fX9_layThen s_isle s_then) (fun s_then_5 => (fX9_stays_L31 s_isle v1 FU 1 s_then_5))))))
abbrev rmX9_stays : Room := { frames := 5, cells := 0, slots := 0, locals := 109 }
theorem ddX9_stays : yX9_stays.cls ≠ "java/lang/invoke/MethodHandle" ∧ yX9_stays.cls ≠ "java/lang/invoke/VarHandle" ∧ (parseMethodDescriptor yX9_stays.desc).map (fun d => d.parameters.length) = some 1 := by decide +kernel
set_option maxHeartbeats 4000000 in
set_option maxRecDepth 100000 in
theorem m_X9_stays (l : Launch) (dC : Nat → ClassId) (dI : Nat → Nat → Nat) (cI cZ : ClassId) (q_s q_s_lane q_s_many q_s_item q_s_isle q_s_fresh q_s_then q_s_was q_s_tape q_s_isKept q_s_kept q_s_trace : Nat) (s_thrown : Int32) (s_status : Int32) (s_lane : (Nat → Int32)) (s_many : (Nat → Int32)) (s_item : (Nat → Int32)) (s_isle : (Nat → Int32)) (s_fresh : (Nat → Int32)) (s_then : (Nat → Int32)) (s_was : (Nat → Int32)) (s_acts : Int32) (s_tape : (Nat → Int32)) (s_taped : Int32) (s_cursor : Int32) (s_start : Int32) (s_token : Int32) (s_value : Int32) (s_fault : Int32) (s_faultAt : Int32) (s_latest : Int32) (s_isKept : (Nat → Int32)) (s_kept : (Nat → Int32)) (s_trace : (Nat → Int32)) (s_traced : Int32) (v1 : Int32) (sz : Nat) (res : Int32 × Int32 × (Nat → Int32)) (hf : fX9_stays s_isle s_then v1 = some res) : Met l yX9_stays wsX9_stays rmX9_stays (mtPc (dC, dI) (tyZ cI cZ) ((W_M cI cZ q_s q_s_lane q_s_many q_s_item q_s_isle q_s_fresh q_s_then q_s_was q_s_tape q_s_isKept q_s_kept q_s_trace s_thrown s_status s_lane s_many s_item s_isle s_fresh s_then s_was s_acts s_tape s_taped s_cursor s_start s_token s_value s_fault s_faultAt s_latest s_isKept s_kept s_trace s_traced)) [.ref q_s, .int v1] sz) (mtQi (dC, dI) (tyZ cI cZ) ((W_M cI cZ q_s q_s_lane q_s_many q_s_item q_s_isle q_s_fresh q_s_then q_s_was q_s_tape q_s_isKept q_s_kept q_s_trace s_thrown s_status s_lane s_many s_item s_isle s_fresh s_then s_was s_acts s_tape s_taped s_cursor s_start s_token s_value s_fault s_faultAt s_latest s_isKept s_kept s_trace s_traced)) ((W_M cI cZ q_s q_s_lane q_s_many q_s_item q_s_isle q_s_fresh q_s_then q_s_was q_s_tape q_s_isKept q_s_kept q_s_trace res.2.1 s_status s_lane s_many s_item s_isle s_fresh res.2.2 s_was s_acts s_tape s_taped s_cursor s_start s_token s_value s_fault s_faultAt s_latest s_isKept s_kept s_trace s_traced)) res.1 sz) 0 0 (va_A ((W_M cI cZ q_s q_s_lane q_s_many q_s_item q_s_isle q_s_fresh q_s_then q_s_was q_s_tape q_s_isKept q_s_kept q_s_trace s_thrown s_status s_lane s_many s_item s_isle s_fresh s_then s_was s_acts s_tape s_taped s_cursor s_start s_token s_value s_fault s_faultAt s_latest s_isKept s_kept s_trace s_traced)) sz) := by
  refine Met.ofW (cc := cX9_stays) (maxL := 3) (ret := (some .int)) (by decide) rfl ?_
  intro p e s m args below meth c s₁ B hml hv
  obtain ⟨rfl, hsz, hP, hK, hD0⟩ := hv
  have hx := B.exec
  have hb := B.bytes
  have hr := B.returns
  have hts := atoms_spec (ws := wsX9_stays) B.pre
  have hown : s.vm.findClass RX9 = some m.cls := findClass_of_methodNamed B.named
  have hlocks := B.notSynchronized
  subst hsz
  have hD := hD0.self (sz := s.heap.size)
  obtain ⟨A, hAe⟩ : ∃ A, A = va_A ((W_M cI cZ q_s q_s_lane q_s_many q_s_item q_s_isle q_s_fresh q_s_then q_s_was q_s_tape q_s_isKept q_s_kept q_s_trace s_thrown s_status s_lane s_many s_item s_isle s_fresh s_then s_was s_acts s_tape s_taped s_cursor s_start s_token s_value s_fault s_faultAt s_latest s_isKept s_kept s_trace s_traced)) s.heap.size := ⟨_, rfl⟩
  rw [← hAe] at hD
  have hA : ∀ q : Nat, s.heap.size ≤ q → A q := fun q h => by rw [hAe]; exact Or.inr h
  have hS : va_S A s.heap s.heap [] := va_S.rf
  have hl := lv_entry ([.ref q_s, .int v1]) (n := 3) (Nat.le_of_ble_eq_true rfl)
  rw [lg_entry_eq]
  generalize (lg_sl ([.ref q_s, .int v1]) ++ List.replicate (3 - (lg_sl ([.ref q_s, .int v1])).length) Slot.unset).toArray = ls at hl ⊢
  have hl : lv_has ls 3 [(0, .ref q_s), (1, .int v1)] := hl
  obtain ⟨QQ, hQQ⟩ : ∃ Q, Q = MQ below (mtQi (dC, dI) (tyZ cI cZ) ((W_M cI cZ q_s q_s_lane q_s_many q_s_item q_s_isle q_s_fresh q_s_then q_s_was q_s_tape q_s_isKept q_s_kept q_s_trace s_thrown s_status s_lane s_many s_item s_isle s_fresh s_then s_was s_acts s_tape s_taped s_cursor s_start s_token s_value s_fault s_faultAt s_latest s_isKept s_kept s_trace s_traced)) ((W_M cI cZ q_s q_s_lane q_s_many q_s_item q_s_isle q_s_fresh q_s_then q_s_was q_s_tape q_s_isKept q_s_kept q_s_trace res.2.1 s_status s_lane s_many s_item s_isle s_fresh res.2.2 s_was s_acts s_tape s_taped s_cursor s_start s_token s_value s_fault s_faultAt s_latest s_isKept s_kept s_trace s_traced)) res.1 s.heap.size) ([.ref q_s, .int v1] : List Value).toArray s 0 0 (va_A ((W_M cI cZ q_s q_s_lane q_s_many q_s_item q_s_isle q_s_fresh q_s_then q_s_was q_s_tape q_s_isKept q_s_kept q_s_trace s_thrown s_status s_lane s_many s_item s_isle s_fresh s_then s_was s_acts s_tape s_taped s_cursor s_start s_token s_value s_fault s_faultAt s_latest s_isKept s_kept s_trace s_traced)) s.heap.size) := ⟨_, rfl⟩
  rw [← hQQ]
  have w_0 := hts (Cond.fieldLink RX9 44 "TideInchesModel" "thrown" "I") (List.mem_of_getElem? (i := 1) rfl)
  have w_1 := (fun w hw => List.mem_cons_of_mem _ (List.mem_append_right _ hw) : ∀ w ∈ wsX90, w ∈ wsX9_stays)
  have w_2 := hts (Cond.constant RX9 87 (-1000000)) (List.mem_of_getElem? (i := 6) rfl)
  have w_3 := hts (Cond.fieldLink RX9 19 "TideInchesModel" "isle" "[I") (List.mem_of_getElem? (i := 4) rfl)
  have w_4 := hts (Cond.fieldLink RX9 25 "TideInchesModel" "then" "[I") (List.mem_of_getElem? (i := 5) rfl)
  have w_5 := hts (Cond.constant RX9 64 (-1000001)) (List.mem_of_getElem? (i := 3) rfl)
  have w_6 := hts (Cond.constant RX9 181 (-1000002)) (List.mem_of_getElem? (i := 2) rfl)
  have h := hf
  unfold fX9_stays at h
  refine lv_aload_n hx hb dX9_stays_0 rfl (lv_at hl 0 rfl) ?_
  refine lv_iconst (v := 0) hx hb dX9_stays_1 (by decide) ?_
  refine va_put (D := (dC, dI)) (ci := 7) (v := .int 0) (ty := .int) (C := RX9) (T := TX9) (N := 23) hx hb hts w_1 tyX9 tyX9_ok nmX9 hown hK hP hD hS 0 rfl rfl 0 (by decide) w_0 (fun _ h9 => h9) rfl (by decide +kernel) rfl rfl (Nat.le_of_ble_eq_true rfl) dX9_stays_2 (fun H locs hP hD hS => ?_)
  have hP : va_P (dC, dI) vwCl ((W_M cI cZ q_s q_s_lane q_s_many q_s_item q_s_isle q_s_fresh q_s_then q_s_was q_s_tape q_s_isKept q_s_kept q_s_trace 0 s_status s_lane s_many s_item s_isle s_fresh s_then s_was s_acts s_tape s_taped s_cursor s_start s_token s_value s_fault s_faultAt s_latest s_isKept s_kept s_trace s_traced)) H := hP
  have hD : va_D A ((W_M cI cZ q_s q_s_lane q_s_many q_s_item q_s_isle q_s_fresh q_s_then q_s_was q_s_tape q_s_isKept q_s_kept q_s_trace 0 s_status s_lane s_many s_item s_isle s_fresh s_then s_was s_acts s_tape s_taped s_cursor s_start s_token s_value s_fault s_faultAt s_latest s_isKept s_kept s_trace s_traced)) := hD
  refine lv_aload_n hx hb dX9_stays_5 rfl (lv_at hl 0 rfl) ?_
  obtain ⟨r_1, hc_1, h⟩ := bd1_of h
  refine cl_rV (As := []) (rest := []) ⟨hx, hb, hml, hown, hts⟩ (m_X9_isThere l dC dI cI cZ q_s q_s_lane q_s_many q_s_item q_s_isle q_s_fresh q_s_then q_s_was q_s_tape q_s_isKept q_s_kept q_s_trace 0 s_status s_lane s_many s_item s_isle s_fresh s_then s_was s_acts s_tape s_taped s_cursor s_start s_token s_value s_fault s_faultAt s_latest s_isKept s_kept s_trace s_traced (r_1) hc_1) (cwV 0 hts gX9_stays_X9_isThere rfl rfl rfl ⟨rfl, ddX9_isThere⟩ ⟨Nat.le_of_ble_eq_true rfl, Nat.le_of_ble_eq_true rfl⟩) hK hP [0, 1, 2, 3, 4, 5, 6, 7, 8, 9, 10, 11] rfl rfl rfl rfl rfl hl.1 (Nat.le_of_ble_eq_true rfl) ⟨Nat.zero_le _, Nat.zero_le _⟩ dX9_stays_6 ?_
  refine lv_if_ne (tgt := 15) hx hb dX9_stays_9 (by decide) (fun c_2 => ?_) (fun c_2 => ?_)
  · have h := (if_neg c_2).symm.trans h
    refine lv_iload_n hx hb dX9_stays_15 rfl (lv_at hl 1 rfl) ?_
    obtain ⟨r_3, hc_3, h⟩ := bd1_of h
    refine cl_pS (As := [.int v1]) (rest := []) ⟨hx, hb, hml, hown, hts⟩ (m_X9_isCell l v1 (r_3) hc_3) (va_cwS 1 hts gX9_stays_X9_isCell rfl rfl rfl ddX9_isCell ⟨Nat.le_of_ble_eq_true rfl, Nat.le_of_ble_eq_true rfl⟩) rfl rfl hl.1 (Nat.le_of_ble_eq_true rfl) ⟨Nat.zero_le _, Nat.zero_le _⟩ dX9_stays_16 ?_
    refine lv_if_ne (tgt := 25) hx hb dX9_stays_19 (by decide) (fun c_4 => ?_) (fun c_4 => ?_)
    · have h := (if_neg c_4).symm.trans h
      refine lv_aload_n hx hb dX9_stays_25 rfl (lv_at hl 0 rfl) ?_
      obtain ⟨s_then_5, hc_5, h⟩ := bd1_of h
      refine cl_mVv (As := []) (rest := []) (ws' := (W_M cI cZ q_s q_s_lane q_s_many q_s_item q_s_isle q_s_fresh q_s_then q_s_was q_s_tape q_s_isKept q_s_kept q_s_trace 0 s_status s_lane s_many s_item s_isle s_fresh s_then_5 s_was s_acts s_tape s_taped s_cursor s_start s_token s_value s_fault s_faultAt s_latest s_isKept s_kept s_trace s_traced)) (wr := []) ⟨hx, hb, hml, hown, hts⟩ (m_X9_layThen l dC dI cI cZ q_s q_s_lane q_s_many q_s_item q_s_isle q_s_fresh q_s_then q_s_was q_s_tape q_s_isKept q_s_kept q_s_trace 0 s_status s_lane s_many s_item s_isle s_fresh s_then s_was s_acts s_tape s_taped s_cursor s_start s_token s_value s_fault s_faultAt s_latest s_isKept s_kept s_trace s_traced _ (s_then_5) hc_5) (cwV 0 hts gX9_stays_X9_layThen rfl rfl rfl ⟨rfl, ddX9_layThen⟩ ⟨Nat.le_of_ble_eq_true rfl, Nat.le_of_ble_eq_true rfl⟩) hK hP hD hS hA [0, 1, 2, 3, 4, 5, 6, 7, 8, 9, 10, 11] [] rfl rfl rfl rfl (by decide) [0, 1, 2, 3, 4, 5, 6, 7, 8, 9, 10, 11] rfl rfl rfl rfl rfl rfl rfl hl.1 (Nat.le_of_ble_eq_true rfl) ⟨Nat.zero_le _, Nat.zero_le _⟩ dX9_stays_26 (fun H locs hP hD hS => ?_)
      refine lv_iconst (v := 1) hx hb dX9_stays_29 (by decide) ?_
      refine lv_istore_n (lv' := [(2, .int 1), (0, .ref q_s), (1, .int v1)]) hx hb dX9_stays_30 rfl hl (by decide) rfl (fun ls hl => ?_)
      have KL31 : ∀ (n : Nat) (v2_h31 : Int32) (s_then_h31 : (Nat → Int32)) (H : Heap) (locs : List Loc) (ls : Array Slot), va_P (dC, dI) vwCl ((W_M cI cZ q_s q_s_lane q_s_many q_s_item q_s_isle q_s_fresh q_s_then q_s_was q_s_tape q_s_isKept q_s_kept q_s_trace 0 s_status s_lane s_many s_item s_isle s_fresh s_then_h31 s_was s_acts s_tape s_taped s_cursor s_start s_token s_value s_fault s_faultAt s_latest s_isKept s_kept s_trace s_traced)) H → va_D A ((W_M cI cZ q_s q_s_lane q_s_many q_s_item q_s_isle q_s_fresh q_s_then q_s_was q_s_tape q_s_isKept q_s_kept q_s_trace 0 s_status s_lane s_many s_item s_isle s_fresh s_then_h31 s_was s_acts s_tape s_taped s_cursor s_start s_token s_value s_fault s_faultAt s_latest s_isKept s_kept s_trace s_traced)) → va_S A s.heap H locs → lv_has ls 3 [(0, .ref q_s), (1, .int v1), (2, .int v2_h31)] → fX9_stays_L31 s_isle v1 n v2_h31 s_then_h31 = some res → W p l e (headSpec wsX9_stays rmX9_stays).room s m ([.ref q_s, .int v1] : List Value).toArray below meth c H locs 0 0 QQ (F0 m 31 ls []) := by
        intro  n
        induction n with
        | zero => intro v2_h31 s_then_h31 H locs ls hP hD hS hl h; rw [fX9_stays_L31.eq_1] at h; cases h
        | succ n ih =>
          intro v2_h31 s_then_h31 H locs ls hP hD hS hl h
          rw [fX9_stays_L31.eq_2] at h
          refine lv_iload_n hx hb dX9_stays_31 rfl (lv_at hl 2 rfl) ?_
          refine lv_bipush (v := 61) hx hb dX9_stays_32 (by decide) ?_
          refine lv_icmp_ge (tgt := 76) hx hb dX9_stays_34 (by decide) (fun c_6 => ?_) (fun c_6 => ?_)
          · have h := (if_pos c_6).symm.trans h
            refine lv_ldc hx hb hown w_2 dX9_stays_76 ?_
            have h := Option.some.inj h
            subst h
            rw [hQQ]
            subst hAe
            exact W.iret (v := (-1000000)) hx hb hr (fun t ht hW => ⟨⟨_, (), rfl, rfl, by rw [ht]; exact hP, va_K.moved hW.alike hK, hD⟩, hS.F ht⟩) hS.2.2 dX9_stays_78
          · have h := (if_neg c_6).symm.trans h
            refine lv_aload_n hx hb dX9_stays_37 rfl (lv_at hl 0 rfl) ?_
            refine va_get (D := (dC, dI)) (ci := 7) (v := .ref q_s_isle) (C := RX9) (T := TX9) (N := 23) hx hb hts w_1 hown hK hP 0 rfl rfl 5 (by decide) w_3 (fun _ h9 => h9) rfl dX9_stays_38 ?_
            refine lv_bipush (v := 21) hx hb dX9_stays_41 (by decide) ?_
            refine lv_iload_n hx hb dX9_stays_43 rfl (lv_at hl 1 rfl) ?_
            refine lv_iadd hx hb dX9_stays_44 ?_
            obtain ⟨b_7, h⟩ := chk_of h
            refine va_iald hx hb hK hP 4 0 rfl rfl (i := (21 + v1)) b_7 dX9_stays_45 ?_
            refine lv_if_le (tgt := 76) hx hb dX9_stays_46 (by decide) (fun c_8 => ?_) (fun c_8 => ?_)
            · have h := (if_pos c_8).symm.trans h
              refine lv_ldc hx hb hown w_2 dX9_stays_76 ?_
              have h := Option.some.inj h
              subst h
              rw [hQQ]
              subst hAe
              exact W.iret (v := (-1000000)) hx hb hr (fun t ht hW => ⟨⟨_, (), rfl, rfl, by rw [ht]; exact hP, va_K.moved hW.alike hK, hD⟩, hS.F ht⟩) hS.2.2 dX9_stays_78
            · have h := (if_neg c_8).symm.trans h
              refine lv_aload_n hx hb dX9_stays_49 rfl (lv_at hl 0 rfl) ?_
              refine va_get (D := (dC, dI)) (ci := 7) (v := .ref q_s_then) (C := RX9) (T := TX9) (N := 23) hx hb hts w_1 hown hK hP 0 rfl rfl 7 (by decide) w_4 (fun _ h9 => h9) rfl dX9_stays_50 ?_
              obtain ⟨s_then_9, hc_9, h⟩ := bd1_of h
              refine cl_mSv (As := [.ref q_s_then]) (rest := []) (ws' := (W_M cI cZ q_s q_s_lane q_s_many q_s_item q_s_isle q_s_fresh q_s_then q_s_was q_s_tape q_s_isKept q_s_kept q_s_trace 0 s_status s_lane s_many s_item s_isle s_fresh s_then_9 s_was s_acts s_tape s_taped s_cursor s_start s_token s_value s_fault s_faultAt s_latest s_isKept s_kept s_trace s_traced)) (wr := [(q_s, .inr (7, [.int 0, .int s_status, .ref q_s_lane, .ref q_s_many, .ref q_s_item, .ref q_s_isle, .ref q_s_fresh, .ref q_s_then, .ref q_s_was, .int s_acts, .ref q_s_tape, .int s_taped, .int s_cursor, .int s_start, .int s_token, .int s_value, .int s_fault, .int s_faultAt, .int s_latest, .ref q_s_isKept, .ref q_s_kept, .ref q_s_trace, .int s_traced]))] ++ ([(q_s_lane, .inl (cI, 8, .inl s_lane))] ++ ([(q_s_many, .inl (cI, 8, .inl s_many))] ++ ([(q_s_item, .inl (cI, 320, .inl s_item))] ++ ([(q_s_isle, .inl (cI, 51, .inl s_isle))] ++ ([(q_s_fresh, .inl (cI, 51, .inl s_fresh))] ++ ([(q_s_was, .inl (cI, 1224, .inl s_was))] ++ ([(q_s_tape, .inl (cI, 100, .inl s_tape))] ++ ([(q_s_isKept, .inl (cZ, 2, .inl s_isKept))] ++ ([(q_s_kept, .inl (cI, 102, .inl s_kept))] ++ ([(q_s_trace, .inl (cI, 16, .inl s_trace))]))))))))))) ⟨hx, hb, hml, hown, hts⟩ (m_X9_hour l dC dI cI cZ q_s_then s_then_h31 _ (s_then_9) hc_9) (va_cwS 1 hts gX9_stays_X9_hour rfl rfl rfl ddX9_hour ⟨Nat.le_of_ble_eq_true rfl, Nat.le_of_ble_eq_true rfl⟩) hK hP hD hS hA [6] [0, 1, 2, 3, 4, 5, 7, 8, 9, 10, 11] rfl rfl rfl rfl (by decide) [0, 1, 2, 3, 4, 5, 11, 6, 7, 8, 9, 10] rfl rfl rfl rfl rfl hl.1 (Nat.le_of_ble_eq_true rfl) ⟨Nat.zero_le _, Nat.zero_le _⟩ dX9_stays_53 (fun H locs hP hD hS => ?_)
              refine lv_aload_n hx hb dX9_stays_56 rfl (lv_at hl 0 rfl) ?_
              refine va_get (D := (dC, dI)) (ci := 7) (v := .ref q_s_then) (C := RX9) (T := TX9) (N := 23) hx hb hts w_1 hown hK hP 0 rfl rfl 7 (by decide) w_4 (fun _ h9 => h9) rfl dX9_stays_57 ?_
              refine lv_bipush (v := 21) hx hb dX9_stays_60 (by decide) ?_
              refine lv_iload_n hx hb dX9_stays_62 rfl (lv_at hl 1 rfl) ?_
              refine lv_iadd hx hb dX9_stays_63 ?_
              obtain ⟨b_10, h⟩ := chk_of h
              refine va_iald hx hb hK hP 6 0 rfl rfl (i := (21 + v1)) b_10 dX9_stays_64 ?_
              refine lv_if_ne (tgt := 70) hx hb dX9_stays_65 (by decide) (fun c_11 => ?_) (fun c_11 => ?_)
              · have h := (if_neg c_11).symm.trans h
                refine lv_iinc (v := (v2_h31 + 1)) (lv' := [(2, .int (v2_h31 + 1)), (0, .ref q_s), (1, .int v1)]) hx hb dX9_stays_70 hl (k := 2) rfl rfl (by decide) rfl (fun ls hl => ?_)
                refine lv_goto (tgt := 31) hx hb dX9_stays_73 (by decide) ?_
                exact ih (v2_h31 + 1) s_then_9 _ _ _ hP hD hS (lv_sub hl [1, 2, 0] rfl) h
              · have h := (if_pos c_11).symm.trans h
                refine lv_iload_n hx hb dX9_stays_68 rfl (lv_at hl 2 rfl) ?_
                have h := Option.some.inj h
                subst h
                rw [hQQ]
                subst hAe
                exact W.iret (v := v2_h31) hx hb hr (fun t ht hW => ⟨⟨_, (), rfl, rfl, by rw [ht]; exact hP, va_K.moved hW.alike hK, hD⟩, hS.F ht⟩) hS.2.2 dX9_stays_69
      exact KL31 FU 1 s_then_5 _ _ _ hP hD hS (lv_sub hl [1, 2, 0] rfl) h
    · have h := (if_pos c_4).symm.trans h
      refine lv_ldc hx hb hown w_5 dX9_stays_22 ?_
      have h := Option.some.inj h
      subst h
      rw [hQQ]
      subst hAe
      exact W.iret (v := (-1000001)) hx hb hr (fun t ht hW => ⟨⟨_, (), rfl, rfl, by rw [ht]; exact hP, va_K.moved hW.alike hK, hD⟩, hS.F ht⟩) hS.2.2 dX9_stays_24
  · have h := (if_pos c_2).symm.trans h
    refine lv_ldc hx hb hown w_6 dX9_stays_12 ?_
    have h := Option.some.inj h
    subst h
    rw [hQQ]
    subst hAe
    exact W.iret (v := (-1000002)) hx hb hr (fun t ht hW => ⟨⟨_, (), rfl, rfl, by rw [ht]; exact hP, va_K.moved hW.alike hK, hD⟩, hS.F ht⟩) hS.2.2 dX9_stays_14
def fX9_when_L37 (s_isle : (Nat → Int32)) (v1 : Int32) (v2 : Int32) : Nat → Int32 → (Nat → Int32) → Option (Int32 × Int32 × (Nat → Int32))
  | 0, _, _ => none
  | n + 1, v3_h37, s_then_h37 => (if 61 ≤ v3_h37 then some ((-1000000), 0, s_then_h37) else bd1 (fX9_layHour s_isle s_then_h37 v3_h37) (fun s_then_8 => bd1 (fX9_isDry s_then_8 v1) (fun r_9 => (if v2 = 1 then (if r_9 = 1 then some (v3_h37, 0, s_then_8) else ((fX9_when_L37 s_isle v1 v2 n) (v3_h37 + 1) s_then_8)) else (if r_9 = 0 then some (v3_h37, 0, s_then_8) else ((fX9_when_L37 s_isle v1 v2 n) (v3_h37 + 1) s_then_8))))))
def fX9_when (s_isle : (Nat → Int32)) (s_then : (Nat → Int32)) (v1 : Int32) (v2 : Int32) : Option (Int32 × Int32 × (Nat → Int32)) :=
  bd1 (fX9_isThere s_isle) (fun r_1 => (if r_1 = 0 then some ((-1000002), 0, s_then) else bd1 (fX9_isCell v1) (fun r_3 => (if r_3 = 0 then some ((-1000001), 0, s_then) else bd1 (fX9_in v2.toInt64 0 1) (fun r_5 => (if r_5 = 0 then some ((-1000001), 0, s_then) else (fX9_when_L37 s_isle v1 v2 FU 0 s_then)))))))
abbrev rmX9_when : Room := { frames := 2, cells := 0, slots := 0, locals := 45 }
theorem ddX9_when : yX9_when.cls ≠ "java/lang/invoke/MethodHandle" ∧ yX9_when.cls ≠ "java/lang/invoke/VarHandle" ∧ (parseMethodDescriptor yX9_when.desc).map (fun d => d.parameters.length) = some 2 := by decide +kernel
set_option maxHeartbeats 4000000 in
set_option maxRecDepth 100000 in
theorem m_X9_when (l : Launch) (dC : Nat → ClassId) (dI : Nat → Nat → Nat) (cI cZ : ClassId) (q_s q_s_lane q_s_many q_s_item q_s_isle q_s_fresh q_s_then q_s_was q_s_tape q_s_isKept q_s_kept q_s_trace : Nat) (s_thrown : Int32) (s_status : Int32) (s_lane : (Nat → Int32)) (s_many : (Nat → Int32)) (s_item : (Nat → Int32)) (s_isle : (Nat → Int32)) (s_fresh : (Nat → Int32)) (s_then : (Nat → Int32)) (s_was : (Nat → Int32)) (s_acts : Int32) (s_tape : (Nat → Int32)) (s_taped : Int32) (s_cursor : Int32) (s_start : Int32) (s_token : Int32) (s_value : Int32) (s_fault : Int32) (s_faultAt : Int32) (s_latest : Int32) (s_isKept : (Nat → Int32)) (s_kept : (Nat → Int32)) (s_trace : (Nat → Int32)) (s_traced : Int32) (v1 : Int32) (v2 : Int32) (sz : Nat) (res : Int32 × Int32 × (Nat → Int32)) (hf : fX9_when s_isle s_then v1 v2 = some res) : Met l yX9_when wsX9_when rmX9_when (mtPc (dC, dI) (tyZ cI cZ) ((W_M cI cZ q_s q_s_lane q_s_many q_s_item q_s_isle q_s_fresh q_s_then q_s_was q_s_tape q_s_isKept q_s_kept q_s_trace s_thrown s_status s_lane s_many s_item s_isle s_fresh s_then s_was s_acts s_tape s_taped s_cursor s_start s_token s_value s_fault s_faultAt s_latest s_isKept s_kept s_trace s_traced)) [.ref q_s, .int v1, .int v2] sz) (mtQi (dC, dI) (tyZ cI cZ) ((W_M cI cZ q_s q_s_lane q_s_many q_s_item q_s_isle q_s_fresh q_s_then q_s_was q_s_tape q_s_isKept q_s_kept q_s_trace s_thrown s_status s_lane s_many s_item s_isle s_fresh s_then s_was s_acts s_tape s_taped s_cursor s_start s_token s_value s_fault s_faultAt s_latest s_isKept s_kept s_trace s_traced)) ((W_M cI cZ q_s q_s_lane q_s_many q_s_item q_s_isle q_s_fresh q_s_then q_s_was q_s_tape q_s_isKept q_s_kept q_s_trace res.2.1 s_status s_lane s_many s_item s_isle s_fresh res.2.2 s_was s_acts s_tape s_taped s_cursor s_start s_token s_value s_fault s_faultAt s_latest s_isKept s_kept s_trace s_traced)) res.1 sz) 0 0 (va_A ((W_M cI cZ q_s q_s_lane q_s_many q_s_item q_s_isle q_s_fresh q_s_then q_s_was q_s_tape q_s_isKept q_s_kept q_s_trace s_thrown s_status s_lane s_many s_item s_isle s_fresh s_then s_was s_acts s_tape s_taped s_cursor s_start s_token s_value s_fault s_faultAt s_latest s_isKept s_kept s_trace s_traced)) sz) := by
  refine Met.ofW (cc := cX9_when) (maxL := 4) (ret := (some .int)) (by decide) rfl ?_
  intro p e s m args below meth c s₁ B hml hv
  obtain ⟨rfl, hsz, hP, hK, hD0⟩ := hv
  have hx := B.exec
  have hb := B.bytes
  have hr := B.returns
  have hts := atoms_spec (ws := wsX9_when) B.pre
  have hown : s.vm.findClass RX9 = some m.cls := findClass_of_methodNamed B.named
  have hlocks := B.notSynchronized
  subst hsz
  have hD := hD0.self (sz := s.heap.size)
  obtain ⟨A, hAe⟩ : ∃ A, A = va_A ((W_M cI cZ q_s q_s_lane q_s_many q_s_item q_s_isle q_s_fresh q_s_then q_s_was q_s_tape q_s_isKept q_s_kept q_s_trace s_thrown s_status s_lane s_many s_item s_isle s_fresh s_then s_was s_acts s_tape s_taped s_cursor s_start s_token s_value s_fault s_faultAt s_latest s_isKept s_kept s_trace s_traced)) s.heap.size := ⟨_, rfl⟩
  rw [← hAe] at hD
  have hA : ∀ q : Nat, s.heap.size ≤ q → A q := fun q h => by rw [hAe]; exact Or.inr h
  have hS : va_S A s.heap s.heap [] := va_S.rf
  have hl := lv_entry ([.ref q_s, .int v1, .int v2]) (n := 4) (Nat.le_of_ble_eq_true rfl)
  rw [lg_entry_eq]
  generalize (lg_sl ([.ref q_s, .int v1, .int v2]) ++ List.replicate (4 - (lg_sl ([.ref q_s, .int v1, .int v2])).length) Slot.unset).toArray = ls at hl ⊢
  have hl : lv_has ls 4 [(0, .ref q_s), (1, .int v1), (2, .int v2)] := hl
  obtain ⟨QQ, hQQ⟩ : ∃ Q, Q = MQ below (mtQi (dC, dI) (tyZ cI cZ) ((W_M cI cZ q_s q_s_lane q_s_many q_s_item q_s_isle q_s_fresh q_s_then q_s_was q_s_tape q_s_isKept q_s_kept q_s_trace s_thrown s_status s_lane s_many s_item s_isle s_fresh s_then s_was s_acts s_tape s_taped s_cursor s_start s_token s_value s_fault s_faultAt s_latest s_isKept s_kept s_trace s_traced)) ((W_M cI cZ q_s q_s_lane q_s_many q_s_item q_s_isle q_s_fresh q_s_then q_s_was q_s_tape q_s_isKept q_s_kept q_s_trace res.2.1 s_status s_lane s_many s_item s_isle s_fresh res.2.2 s_was s_acts s_tape s_taped s_cursor s_start s_token s_value s_fault s_faultAt s_latest s_isKept s_kept s_trace s_traced)) res.1 s.heap.size) ([.ref q_s, .int v1, .int v2] : List Value).toArray s 0 0 (va_A ((W_M cI cZ q_s q_s_lane q_s_many q_s_item q_s_isle q_s_fresh q_s_then q_s_was q_s_tape q_s_isKept q_s_kept q_s_trace s_thrown s_status s_lane s_many s_item s_isle s_fresh s_then s_was s_acts s_tape s_taped s_cursor s_start s_token s_value s_fault s_faultAt s_latest s_isKept s_kept s_trace s_traced)) s.heap.size) := ⟨_, rfl⟩
  rw [← hQQ]
  have w_0 := hts (Cond.fieldLink RX9 44 "TideInchesModel" "thrown" "I") (List.mem_of_getElem? (i := 1) rfl)
  have w_1 := (fun w hw => List.mem_cons_of_mem _ (List.mem_append_right _ hw) : ∀ w ∈ wsX90, w ∈ wsX9_when)
  have w_2 := hts (Cond.constant RX9 64 (-1000001)) (List.mem_of_getElem? (i := 3) rfl)
  have w_3 := hts (Cond.constant RX9 87 (-1000000)) (List.mem_of_getElem? (i := 5) rfl)
  have w_4 := hts (Cond.fieldLink RX9 25 "TideInchesModel" "then" "[I") (List.mem_of_getElem? (i := 4) rfl)
  have w_5 := hts (Cond.constant RX9 181 (-1000002)) (List.mem_of_getElem? (i := 2) rfl)
  have h := hf
  unfold fX9_when at h
  refine lv_aload_n hx hb dX9_when_0 rfl (lv_at hl 0 rfl) ?_
  refine lv_iconst (v := 0) hx hb dX9_when_1 (by decide) ?_
  refine va_put (D := (dC, dI)) (ci := 7) (v := .int 0) (ty := .int) (C := RX9) (T := TX9) (N := 23) hx hb hts w_1 tyX9 tyX9_ok nmX9 hown hK hP hD hS 0 rfl rfl 0 (by decide) w_0 (fun _ h9 => h9) rfl (by decide +kernel) rfl rfl (Nat.le_of_ble_eq_true rfl) dX9_when_2 (fun H locs hP hD hS => ?_)
  have hP : va_P (dC, dI) vwCl ((W_M cI cZ q_s q_s_lane q_s_many q_s_item q_s_isle q_s_fresh q_s_then q_s_was q_s_tape q_s_isKept q_s_kept q_s_trace 0 s_status s_lane s_many s_item s_isle s_fresh s_then s_was s_acts s_tape s_taped s_cursor s_start s_token s_value s_fault s_faultAt s_latest s_isKept s_kept s_trace s_traced)) H := hP
  have hD : va_D A ((W_M cI cZ q_s q_s_lane q_s_many q_s_item q_s_isle q_s_fresh q_s_then q_s_was q_s_tape q_s_isKept q_s_kept q_s_trace 0 s_status s_lane s_many s_item s_isle s_fresh s_then s_was s_acts s_tape s_taped s_cursor s_start s_token s_value s_fault s_faultAt s_latest s_isKept s_kept s_trace s_traced)) := hD
  refine lv_aload_n hx hb dX9_when_5 rfl (lv_at hl 0 rfl) ?_
  obtain ⟨r_1, hc_1, h⟩ := bd1_of h
  refine cl_rV (As := []) (rest := []) ⟨hx, hb, hml, hown, hts⟩ (m_X9_isThere l dC dI cI cZ q_s q_s_lane q_s_many q_s_item q_s_isle q_s_fresh q_s_then q_s_was q_s_tape q_s_isKept q_s_kept q_s_trace 0 s_status s_lane s_many s_item s_isle s_fresh s_then s_was s_acts s_tape s_taped s_cursor s_start s_token s_value s_fault s_faultAt s_latest s_isKept s_kept s_trace s_traced (r_1) hc_1) (cwV 0 hts gX9_when_X9_isThere rfl rfl rfl ⟨rfl, ddX9_isThere⟩ ⟨Nat.le_of_ble_eq_true rfl, Nat.le_of_ble_eq_true rfl⟩) hK hP [0, 1, 2, 3, 4, 5, 6, 7, 8, 9, 10, 11] rfl rfl rfl rfl rfl hl.1 (Nat.le_of_ble_eq_true rfl) ⟨Nat.zero_le _, Nat.zero_le _⟩ dX9_when_6 ?_
  refine lv_if_ne (tgt := 15) hx hb dX9_when_9 (by decide) (fun c_2 => ?_) (fun c_2 => ?_)
  · have h := (if_neg c_2).symm.trans h
    refine lv_iload_n hx hb dX9_when_15 rfl (lv_at hl 1 rfl) ?_
    obtain ⟨r_3, hc_3, h⟩ := bd1_of h
    refine cl_pS (As := [.int v1]) (rest := []) ⟨hx, hb, hml, hown, hts⟩ (m_X9_isCell l v1 (r_3) hc_3) (va_cwS 1 hts gX9_when_X9_isCell rfl rfl rfl ddX9_isCell ⟨Nat.le_of_ble_eq_true rfl, Nat.le_of_ble_eq_true rfl⟩) rfl rfl hl.1 (Nat.le_of_ble_eq_true rfl) ⟨Nat.zero_le _, Nat.zero_le _⟩ dX9_when_16 ?_
    refine lv_if_eq (tgt := 32) hx hb dX9_when_19 (by decide) (fun c_4 => ?_) (fun c_4 => ?_)
    · have h := (if_pos c_4).symm.trans h
      refine lv_ldc hx hb hown w_2 dX9_when_32 ?_
      have h := Option.some.inj h
      subst h
      rw [hQQ]
      subst hAe
      exact W.iret (v := (-1000001)) hx hb hr (fun t ht hW => ⟨⟨_, (), rfl, rfl, by rw [ht]; exact hP, va_K.moved hW.alike hK, hD⟩, hS.F ht⟩) hS.2.2 dX9_when_34
    · have h := (if_neg c_4).symm.trans h
      refine lv_iload_n hx hb dX9_when_22 rfl (lv_at hl 2 rfl) ?_
      refine lv_i2l hx hb dX9_when_23 rfl ?_
      refine lv_lconst (v := 0) hx hb dX9_when_24 (by decide) ?_
      refine lv_lconst (v := 1) hx hb dX9_when_25 (by decide) ?_
      obtain ⟨r_5, hc_5, h⟩ := bd1_of h
      refine cl_pS (As := [.long v2.toInt64, .long 0, .long 1]) (rest := []) ⟨hx, hb, hml, hown, hts⟩ (m_X9_in l v2.toInt64 0 1 (r_5) hc_5) (va_cwS 3 hts gX9_when_X9_in rfl rfl rfl ddX9_in ⟨Nat.le_of_ble_eq_true rfl, Nat.le_of_ble_eq_true rfl⟩) rfl rfl hl.1 (Nat.le_of_ble_eq_true rfl) ⟨Nat.zero_le _, Nat.zero_le _⟩ dX9_when_26 ?_
      refine lv_if_ne (tgt := 35) hx hb dX9_when_29 (by decide) (fun c_6 => ?_) (fun c_6 => ?_)
      · have h := (if_neg c_6).symm.trans h
        refine lv_iconst (v := 0) hx hb dX9_when_35 (by decide) ?_
        refine lv_istore_n (lv' := [(3, .int 0), (0, .ref q_s), (1, .int v1), (2, .int v2)]) hx hb dX9_when_36 rfl hl (by decide) rfl (fun ls hl => ?_)
        have KL37 : ∀ (n : Nat) (v3_h37 : Int32) (s_then_h37 : (Nat → Int32)) (H : Heap) (locs : List Loc) (ls : Array Slot), va_P (dC, dI) vwCl ((W_M cI cZ q_s q_s_lane q_s_many q_s_item q_s_isle q_s_fresh q_s_then q_s_was q_s_tape q_s_isKept q_s_kept q_s_trace 0 s_status s_lane s_many s_item s_isle s_fresh s_then_h37 s_was s_acts s_tape s_taped s_cursor s_start s_token s_value s_fault s_faultAt s_latest s_isKept s_kept s_trace s_traced)) H → va_D A ((W_M cI cZ q_s q_s_lane q_s_many q_s_item q_s_isle q_s_fresh q_s_then q_s_was q_s_tape q_s_isKept q_s_kept q_s_trace 0 s_status s_lane s_many s_item s_isle s_fresh s_then_h37 s_was s_acts s_tape s_taped s_cursor s_start s_token s_value s_fault s_faultAt s_latest s_isKept s_kept s_trace s_traced)) → va_S A s.heap H locs → lv_has ls 4 [(0, .ref q_s), (1, .int v1), (2, .int v2), (3, .int v3_h37)] → fX9_when_L37 s_isle v1 v2 n v3_h37 s_then_h37 = some res → W p l e (headSpec wsX9_when rmX9_when).room s m ([.ref q_s, .int v1, .int v2] : List Value).toArray below meth c H locs 0 0 QQ (F0 m 37 ls []) := by
          intro  n
          induction n with
          | zero => intro v3_h37 s_then_h37 H locs ls hP hD hS hl h; rw [fX9_when_L37.eq_1] at h; cases h
          | succ n ih =>
            intro v3_h37 s_then_h37 H locs ls hP hD hS hl h
            rw [fX9_when_L37.eq_2] at h
            refine lv_iload_n hx hb dX9_when_37 rfl (lv_at hl 3 rfl) ?_
            refine lv_bipush (v := 61) hx hb dX9_when_38 (by decide) ?_
            refine lv_icmp_ge (tgt := 77) hx hb dX9_when_40 (by decide) (fun c_7 => ?_) (fun c_7 => ?_)
            · have h := (if_pos c_7).symm.trans h
              refine lv_ldc hx hb hown w_3 dX9_when_77 ?_
              have h := Option.some.inj h
              subst h
              rw [hQQ]
              subst hAe
              exact W.iret (v := (-1000000)) hx hb hr (fun t ht hW => ⟨⟨_, (), rfl, rfl, by rw [ht]; exact hP, va_K.moved hW.alike hK, hD⟩, hS.F ht⟩) hS.2.2 dX9_when_79
            · have h := (if_neg c_7).symm.trans h
              refine lv_aload_n hx hb dX9_when_43 rfl (lv_at hl 0 rfl) ?_
              refine lv_iload_n hx hb dX9_when_44 rfl (lv_at hl 3 rfl) ?_
              obtain ⟨s_then_8, hc_8, h⟩ := bd1_of h
              refine cl_mVv (As := [.int v3_h37]) (rest := []) (ws' := (W_M cI cZ q_s q_s_lane q_s_many q_s_item q_s_isle q_s_fresh q_s_then q_s_was q_s_tape q_s_isKept q_s_kept q_s_trace 0 s_status s_lane s_many s_item s_isle s_fresh s_then_8 s_was s_acts s_tape s_taped s_cursor s_start s_token s_value s_fault s_faultAt s_latest s_isKept s_kept s_trace s_traced)) (wr := []) ⟨hx, hb, hml, hown, hts⟩ (m_X9_layHour l dC dI cI cZ q_s q_s_lane q_s_many q_s_item q_s_isle q_s_fresh q_s_then q_s_was q_s_tape q_s_isKept q_s_kept q_s_trace 0 s_status s_lane s_many s_item s_isle s_fresh s_then_h37 s_was s_acts s_tape s_taped s_cursor s_start s_token s_value s_fault s_faultAt s_latest s_isKept s_kept s_trace s_traced v3_h37 _ (s_then_8) hc_8) (cwV 1 hts gX9_when_X9_layHour rfl rfl rfl ⟨rfl, ddX9_layHour⟩ ⟨Nat.le_of_ble_eq_true rfl, Nat.le_of_ble_eq_true rfl⟩) hK hP hD hS hA [0, 1, 2, 3, 4, 5, 6, 7, 8, 9, 10, 11] [] rfl rfl rfl rfl (by decide) [0, 1, 2, 3, 4, 5, 6, 7, 8, 9, 10, 11] rfl rfl rfl rfl rfl rfl rfl hl.1 (Nat.le_of_ble_eq_true rfl) ⟨Nat.zero_le _, Nat.zero_le _⟩ dX9_when_45 (fun H locs hP hD hS => ?_)
              refine lv_aload_n hx hb dX9_when_48 rfl (lv_at hl 0 rfl) ?_
              refine va_get (D := (dC, dI)) (ci := 7) (v := .ref q_s_then) (C := RX9) (T := TX9) (N := 23) hx hb hts w_1 hown hK hP 0 rfl rfl 7 (by decide) w_4 (fun _ h9 => h9) rfl dX9_when_49 ?_
              refine lv_iload_n hx hb dX9_when_52 rfl (lv_at hl 1 rfl) ?_
              obtain ⟨r_9, hc_9, h⟩ := bd1_of h
              refine cl_rS (As := [.ref q_s_then, .int v1]) (rest := []) ⟨hx, hb, hml, hown, hts⟩ (m_X9_isDry l dC dI cI cZ q_s_then s_then_8 v1 (r_9) hc_9) (va_cwS 2 hts gX9_when_X9_isDry rfl rfl rfl ddX9_isDry ⟨Nat.le_of_ble_eq_true rfl, Nat.le_of_ble_eq_true rfl⟩) hK hP [6] rfl rfl rfl hl.1 (Nat.le_of_ble_eq_true rfl) ⟨Nat.zero_le _, Nat.zero_le _⟩ dX9_when_53 ?_
              refine lv_iload_n hx hb dX9_when_56 rfl (lv_at hl 2 rfl) ?_
              refine lv_iconst (v := 1) hx hb dX9_when_57 (by decide) ?_
              refine lv_icmp_ne (tgt := 65) hx hb dX9_when_58 (by decide) (fun c_10 => ?_) (fun c_10 => ?_)
              · have h := (if_neg c_10).symm.trans h
                refine lv_iconst (v := 0) hx hb dX9_when_65 (by decide) ?_
                refine lv_icmp_ne (tgt := 71) hx hb dX9_when_66 (by decide) (fun c_11 => ?_) (fun c_11 => ?_)
                · have h := (if_neg c_11).symm.trans h
                  refine lv_iinc (v := (v3_h37 + 1)) (lv' := [(3, .int (v3_h37 + 1)), (0, .ref q_s), (1, .int v1), (2, .int v2)]) hx hb dX9_when_71 hl (k := 3) rfl rfl (by decide) rfl (fun ls hl => ?_)
                  refine lv_goto (tgt := 37) hx hb dX9_when_74 (by decide) ?_
                  exact ih (v3_h37 + 1) s_then_8 _ _ _ hP hD hS (lv_sub hl [1, 2, 3, 0] rfl) h
                · have h := (if_pos c_11).symm.trans h
                  refine lv_iload_n hx hb dX9_when_69 rfl (lv_at hl 3 rfl) ?_
                  have h := Option.some.inj h
                  subst h
                  rw [hQQ]
                  subst hAe
                  exact W.iret (v := v3_h37) hx hb hr (fun t ht hW => ⟨⟨_, (), rfl, rfl, by rw [ht]; exact hP, va_K.moved hW.alike hK, hD⟩, hS.F ht⟩) hS.2.2 dX9_when_70
              · have h := (if_pos c_10).symm.trans h
                refine lv_iconst (v := 1) hx hb dX9_when_61 (by decide) ?_
                refine lv_goto (tgt := 66) hx hb dX9_when_62 (by decide) ?_
                refine lv_icmp_ne (tgt := 71) hx hb dX9_when_66 (by decide) (fun c_12 => ?_) (fun c_12 => ?_)
                · have h := (if_neg c_12).symm.trans h
                  refine lv_iinc (v := (v3_h37 + 1)) (lv' := [(3, .int (v3_h37 + 1)), (0, .ref q_s), (1, .int v1), (2, .int v2)]) hx hb dX9_when_71 hl (k := 3) rfl rfl (by decide) rfl (fun ls hl => ?_)
                  refine lv_goto (tgt := 37) hx hb dX9_when_74 (by decide) ?_
                  exact ih (v3_h37 + 1) s_then_8 _ _ _ hP hD hS (lv_sub hl [1, 2, 3, 0] rfl) h
                · have h := (if_pos c_12).symm.trans h
                  refine lv_iload_n hx hb dX9_when_69 rfl (lv_at hl 3 rfl) ?_
                  have h := Option.some.inj h
                  subst h
                  rw [hQQ]
                  subst hAe
                  exact W.iret (v := v3_h37) hx hb hr (fun t ht hW => ⟨⟨_, (), rfl, rfl, by rw [ht]; exact hP, va_K.moved hW.alike hK, hD⟩, hS.F ht⟩) hS.2.2 dX9_when_70
        exact KL37 FU 0 s_then _ _ _ hP hD hS (lv_sub hl [1, 2, 3, 0] rfl) h
      · have h := (if_pos c_6).symm.trans h
        refine lv_ldc hx hb hown w_2 dX9_when_32 ?_
        have h := Option.some.inj h
        subst h
        rw [hQQ]
        subst hAe
        exact W.iret (v := (-1000001)) hx hb hr (fun t ht hW => ⟨⟨_, (), rfl, rfl, by rw [ht]; exact hP, va_K.moved hW.alike hK, hD⟩, hS.F ht⟩) hS.2.2 dX9_when_34
  · have h := (if_pos c_2).symm.trans h
    refine lv_ldc hx hb hown w_5 dX9_when_12 ?_
    have h := Option.some.inj h
    subst h
    rw [hQQ]
    subst hAe
    exact W.iret (v := (-1000002)) hx hb hr (fun t ht hW => ⟨⟨_, (), rfl, rfl, by rw [ht]; exact hP, va_K.moved hW.alike hK, hD⟩, hS.F ht⟩) hS.2.2 dX9_when_14
def fX9_cuts_J64 (r27 : Int32 → Int32 → Option (Int32 × Int32)) (v2_h27 : Int32) (v3_h27 : Int32) (w0_j64 : Int32) : Option (Int32 × Int32) :=
  (if w0_j64 = 0 then (r27 (v2_h27 ||| 0) (v3_h27 + 1)) else (r27 (v2_h27 ||| (1 <<< (v3_h27 &&& 31))) (v3_h27 + 1)))
def fX9_cuts_L27 (r_3 : Int32) : Nat → Int32 → Int32 → Option (Int32 × Int32)
  | 0, _, _ => none
  | n + 1, v2_h27, v3_h27 => (if 15 ≤ v3_h27 then some (v2_h27, 0) else (if ((r_3 >>> (v3_h27 &&& 31)) &&& 1) = 1 then bd1 (fX9_partsOf (r_3 &&& ((1 <<< (v3_h27 &&& 31)) ^^^ (-1)))) (fun r_7 => bd1 (fX9_partsOf r_3) (fun r_8 => (if r_7 ≤ r_8 then (fX9_cuts_J64 (fX9_cuts_L27 r_3 n) v2_h27 v3_h27 0) else (fX9_cuts_J64 (fX9_cuts_L27 r_3 n) v2_h27 v3_h27 1)))) else (fX9_cuts_J64 (fX9_cuts_L27 r_3 n) v2_h27 v3_h27 0)))
def fX9_cuts (s_isle : (Nat → Int32)) : Option (Int32 × Int32) :=
  bd1 (fX9_isThere s_isle) (fun r_1 => (if r_1 = 0 then some ((-1000002), 0) else bd1 (fX9_dryOf s_isle) (fun r_3 => (fX9_cuts_L27 r_3 FU 0 0))))
abbrev rmX9_cuts : Room := { frames := 3, cells := 0, slots := 0, locals := 65 }
theorem ddX9_cuts : yX9_cuts.cls ≠ "java/lang/invoke/MethodHandle" ∧ yX9_cuts.cls ≠ "java/lang/invoke/VarHandle" ∧ (parseMethodDescriptor yX9_cuts.desc).map (fun d => d.parameters.length) = some 0 := by decide +kernel
set_option maxHeartbeats 4000000 in
set_option maxRecDepth 100000 in
theorem m_X9_cuts (l : Launch) (dC : Nat → ClassId) (dI : Nat → Nat → Nat) (cI cZ : ClassId) (q_s q_s_lane q_s_many q_s_item q_s_isle q_s_fresh q_s_then q_s_was q_s_tape q_s_isKept q_s_kept q_s_trace : Nat) (s_thrown : Int32) (s_status : Int32) (s_lane : (Nat → Int32)) (s_many : (Nat → Int32)) (s_item : (Nat → Int32)) (s_isle : (Nat → Int32)) (s_fresh : (Nat → Int32)) (s_then : (Nat → Int32)) (s_was : (Nat → Int32)) (s_acts : Int32) (s_tape : (Nat → Int32)) (s_taped : Int32) (s_cursor : Int32) (s_start : Int32) (s_token : Int32) (s_value : Int32) (s_fault : Int32) (s_faultAt : Int32) (s_latest : Int32) (s_isKept : (Nat → Int32)) (s_kept : (Nat → Int32)) (s_trace : (Nat → Int32)) (s_traced : Int32) (sz : Nat) (res : Int32 × Int32) (hf : fX9_cuts s_isle = some res) : Met l yX9_cuts wsX9_cuts rmX9_cuts (mtPc (dC, dI) (tyZ cI cZ) ((W_M cI cZ q_s q_s_lane q_s_many q_s_item q_s_isle q_s_fresh q_s_then q_s_was q_s_tape q_s_isKept q_s_kept q_s_trace s_thrown s_status s_lane s_many s_item s_isle s_fresh s_then s_was s_acts s_tape s_taped s_cursor s_start s_token s_value s_fault s_faultAt s_latest s_isKept s_kept s_trace s_traced)) [.ref q_s] sz) (mtQi (dC, dI) (tyZ cI cZ) ((W_M cI cZ q_s q_s_lane q_s_many q_s_item q_s_isle q_s_fresh q_s_then q_s_was q_s_tape q_s_isKept q_s_kept q_s_trace s_thrown s_status s_lane s_many s_item s_isle s_fresh s_then s_was s_acts s_tape s_taped s_cursor s_start s_token s_value s_fault s_faultAt s_latest s_isKept s_kept s_trace s_traced)) ((W_M cI cZ q_s q_s_lane q_s_many q_s_item q_s_isle q_s_fresh q_s_then q_s_was q_s_tape q_s_isKept q_s_kept q_s_trace res.2 s_status s_lane s_many s_item s_isle s_fresh s_then s_was s_acts s_tape s_taped s_cursor s_start s_token s_value s_fault s_faultAt s_latest s_isKept s_kept s_trace s_traced)) res.1 sz) 0 0 (va_A ((W_M cI cZ q_s q_s_lane q_s_many q_s_item q_s_isle q_s_fresh q_s_then q_s_was q_s_tape q_s_isKept q_s_kept q_s_trace s_thrown s_status s_lane s_many s_item s_isle s_fresh s_then s_was s_acts s_tape s_taped s_cursor s_start s_token s_value s_fault s_faultAt s_latest s_isKept s_kept s_trace s_traced)) sz) := by
  refine Met.ofW (cc := cX9_cuts) (maxL := 5) (ret := (some .int)) (by decide) rfl ?_
  intro p e s m args below meth c s₁ B hml hv
  obtain ⟨rfl, hsz, hP, hK, hD0⟩ := hv
  have hx := B.exec
  have hb := B.bytes
  have hr := B.returns
  have hts := atoms_spec (ws := wsX9_cuts) B.pre
  have hown : s.vm.findClass RX9 = some m.cls := findClass_of_methodNamed B.named
  have hlocks := B.notSynchronized
  subst hsz
  have hD := hD0.self (sz := s.heap.size)
  obtain ⟨A, hAe⟩ : ∃ A, A = va_A ((W_M cI cZ q_s q_s_lane q_s_many q_s_item q_s_isle q_s_fresh q_s_then q_s_was q_s_tape q_s_isKept q_s_kept q_s_trace s_thrown s_status s_lane s_many s_item s_isle s_fresh s_then s_was s_acts s_tape s_taped s_cursor s_start s_token s_value s_fault s_faultAt s_latest s_isKept s_kept s_trace s_traced)) s.heap.size := ⟨_, rfl⟩
  rw [← hAe] at hD
  have hA : ∀ q : Nat, s.heap.size ≤ q → A q := fun q h => by rw [hAe]; exact Or.inr h
  have hS : va_S A s.heap s.heap [] := va_S.rf
  have hl := lv_entry ([.ref q_s]) (n := 5) (Nat.le_of_ble_eq_true rfl)
  rw [lg_entry_eq]
  generalize (lg_sl ([.ref q_s]) ++ List.replicate (5 - (lg_sl ([.ref q_s])).length) Slot.unset).toArray = ls at hl ⊢
  have hl : lv_has ls 5 [(0, .ref q_s)] := hl
  obtain ⟨QQ, hQQ⟩ : ∃ Q, Q = MQ below (mtQi (dC, dI) (tyZ cI cZ) ((W_M cI cZ q_s q_s_lane q_s_many q_s_item q_s_isle q_s_fresh q_s_then q_s_was q_s_tape q_s_isKept q_s_kept q_s_trace s_thrown s_status s_lane s_many s_item s_isle s_fresh s_then s_was s_acts s_tape s_taped s_cursor s_start s_token s_value s_fault s_faultAt s_latest s_isKept s_kept s_trace s_traced)) ((W_M cI cZ q_s q_s_lane q_s_many q_s_item q_s_isle q_s_fresh q_s_then q_s_was q_s_tape q_s_isKept q_s_kept q_s_trace res.2 s_status s_lane s_many s_item s_isle s_fresh s_then s_was s_acts s_tape s_taped s_cursor s_start s_token s_value s_fault s_faultAt s_latest s_isKept s_kept s_trace s_traced)) res.1 s.heap.size) ([.ref q_s] : List Value).toArray s 0 0 (va_A ((W_M cI cZ q_s q_s_lane q_s_many q_s_item q_s_isle q_s_fresh q_s_then q_s_was q_s_tape q_s_isKept q_s_kept q_s_trace s_thrown s_status s_lane s_many s_item s_isle s_fresh s_then s_was s_acts s_tape s_taped s_cursor s_start s_token s_value s_fault s_faultAt s_latest s_isKept s_kept s_trace s_traced)) s.heap.size) := ⟨_, rfl⟩
  rw [← hQQ]
  have w_0 := hts (Cond.fieldLink RX9 44 "TideInchesModel" "thrown" "I") (List.mem_of_getElem? (i := 1) rfl)
  have w_1 := (fun w hw => List.mem_cons_of_mem _ (List.mem_append_right _ hw) : ∀ w ∈ wsX90, w ∈ wsX9_cuts)
  have w_2 := hts (Cond.fieldLink RX9 19 "TideInchesModel" "isle" "[I") (List.mem_of_getElem? (i := 3) rfl)
  have w_3 := hts (Cond.constant RX9 181 (-1000002)) (List.mem_of_getElem? (i := 2) rfl)
  have h := hf
  unfold fX9_cuts at h
  refine lv_aload_n hx hb dX9_cuts_0 rfl (lv_at hl 0 rfl) ?_
  refine lv_iconst (v := 0) hx hb dX9_cuts_1 (by decide) ?_
  refine va_put (D := (dC, dI)) (ci := 7) (v := .int 0) (ty := .int) (C := RX9) (T := TX9) (N := 23) hx hb hts w_1 tyX9 tyX9_ok nmX9 hown hK hP hD hS 0 rfl rfl 0 (by decide) w_0 (fun _ h9 => h9) rfl (by decide +kernel) rfl rfl (Nat.le_of_ble_eq_true rfl) dX9_cuts_2 (fun H locs hP hD hS => ?_)
  have hP : va_P (dC, dI) vwCl ((W_M cI cZ q_s q_s_lane q_s_many q_s_item q_s_isle q_s_fresh q_s_then q_s_was q_s_tape q_s_isKept q_s_kept q_s_trace 0 s_status s_lane s_many s_item s_isle s_fresh s_then s_was s_acts s_tape s_taped s_cursor s_start s_token s_value s_fault s_faultAt s_latest s_isKept s_kept s_trace s_traced)) H := hP
  have hD : va_D A ((W_M cI cZ q_s q_s_lane q_s_many q_s_item q_s_isle q_s_fresh q_s_then q_s_was q_s_tape q_s_isKept q_s_kept q_s_trace 0 s_status s_lane s_many s_item s_isle s_fresh s_then s_was s_acts s_tape s_taped s_cursor s_start s_token s_value s_fault s_faultAt s_latest s_isKept s_kept s_trace s_traced)) := hD
  refine lv_aload_n hx hb dX9_cuts_5 rfl (lv_at hl 0 rfl) ?_
  obtain ⟨r_1, hc_1, h⟩ := bd1_of h
  refine cl_rV (As := []) (rest := []) ⟨hx, hb, hml, hown, hts⟩ (m_X9_isThere l dC dI cI cZ q_s q_s_lane q_s_many q_s_item q_s_isle q_s_fresh q_s_then q_s_was q_s_tape q_s_isKept q_s_kept q_s_trace 0 s_status s_lane s_many s_item s_isle s_fresh s_then s_was s_acts s_tape s_taped s_cursor s_start s_token s_value s_fault s_faultAt s_latest s_isKept s_kept s_trace s_traced (r_1) hc_1) (cwV 0 hts gX9_cuts_X9_isThere rfl rfl rfl ⟨rfl, ddX9_isThere⟩ ⟨Nat.le_of_ble_eq_true rfl, Nat.le_of_ble_eq_true rfl⟩) hK hP [0, 1, 2, 3, 4, 5, 6, 7, 8, 9, 10, 11] rfl rfl rfl rfl rfl hl.1 (Nat.le_of_ble_eq_true rfl) ⟨Nat.zero_le _, Nat.zero_le _⟩ dX9_cuts_6 ?_
  refine lv_if_ne (tgt := 15) hx hb dX9_cuts_9 (by decide) (fun c_2 => ?_) (fun c_2 => ?_)
  · have h := (if_neg c_2).symm.trans h
    refine lv_aload_n hx hb dX9_cuts_15 rfl (lv_at hl 0 rfl) ?_
    refine va_get (D := (dC, dI)) (ci := 7) (v := .ref q_s_isle) (C := RX9) (T := TX9) (N := 23) hx hb hts w_1 hown hK hP 0 rfl rfl 5 (by decide) w_2 (fun _ h9 => h9) rfl dX9_cuts_16 ?_
    obtain ⟨r_3, hc_3, h⟩ := bd1_of h
    refine cl_rS (As := [.ref q_s_isle]) (rest := []) ⟨hx, hb, hml, hown, hts⟩ (m_X9_dryOf l dC dI cI cZ q_s_isle s_isle (r_3) hc_3) (va_cwS 1 hts gX9_cuts_X9_dryOf rfl rfl rfl ddX9_dryOf ⟨Nat.le_of_ble_eq_true rfl, Nat.le_of_ble_eq_true rfl⟩) hK hP [4] rfl rfl rfl hl.1 (Nat.le_of_ble_eq_true rfl) ⟨Nat.zero_le _, Nat.zero_le _⟩ dX9_cuts_19 ?_
    refine lv_istore_n (lv' := [(1, .int r_3), (0, .ref q_s)]) hx hb dX9_cuts_22 rfl hl (by decide) rfl (fun ls hl => ?_)
    refine lv_iconst (v := 0) hx hb dX9_cuts_23 (by decide) ?_
    refine lv_istore_n (lv' := [(2, .int 0), (1, .int r_3), (0, .ref q_s)]) hx hb dX9_cuts_24 rfl hl (by decide) rfl (fun ls hl => ?_)
    refine lv_iconst (v := 0) hx hb dX9_cuts_25 (by decide) ?_
    refine lv_istore_n (lv' := [(3, .int 0), (2, .int 0), (1, .int r_3), (0, .ref q_s)]) hx hb dX9_cuts_26 rfl hl (by decide) rfl (fun ls hl => ?_)
    have KL27 : ∀ (n : Nat) (v2_h27 : Int32) (v3_h27 : Int32) (H : Heap) (locs : List Loc) (ls : Array Slot), va_P (dC, dI) vwCl ((W_M cI cZ q_s q_s_lane q_s_many q_s_item q_s_isle q_s_fresh q_s_then q_s_was q_s_tape q_s_isKept q_s_kept q_s_trace 0 s_status s_lane s_many s_item s_isle s_fresh s_then s_was s_acts s_tape s_taped s_cursor s_start s_token s_value s_fault s_faultAt s_latest s_isKept s_kept s_trace s_traced)) H → va_D A ((W_M cI cZ q_s q_s_lane q_s_many q_s_item q_s_isle q_s_fresh q_s_then q_s_was q_s_tape q_s_isKept q_s_kept q_s_trace 0 s_status s_lane s_many s_item s_isle s_fresh s_then s_was s_acts s_tape s_taped s_cursor s_start s_token s_value s_fault s_faultAt s_latest s_isKept s_kept s_trace s_traced)) → va_S A s.heap H locs → lv_has ls 5 [(1, .int r_3), (2, .int v2_h27), (3, .int v3_h27)] → fX9_cuts_L27 r_3 n v2_h27 v3_h27 = some res → W p l e (headSpec wsX9_cuts rmX9_cuts).room s m ([.ref q_s] : List Value).toArray below meth c H locs 0 0 QQ (F0 m 27 ls []) := by
      intro  n
      induction n with
      | zero => intro v2_h27 v3_h27 H locs ls hP hD hS hl h; rw [fX9_cuts_L27.eq_1] at h; cases h
      | succ n ih =>
        intro v2_h27 v3_h27 H locs ls hP hD hS hl h
        rw [fX9_cuts_L27.eq_2] at h
        refine lv_iload_n hx hb dX9_cuts_27 rfl (lv_at hl 2 rfl) ?_
        refine lv_bipush (v := 15) hx hb dX9_cuts_28 (by decide) ?_
        refine lv_icmp_ge (tgt := 87) hx hb dX9_cuts_30 (by decide) (fun c_4 => ?_) (fun c_4 => ?_)
        · have h := (if_pos c_4).symm.trans h
          refine lv_iload_n hx hb dX9_cuts_87 rfl (lv_at hl 1 rfl) ?_
          have h := Option.some.inj h
          subst h
          rw [hQQ]
          subst hAe
          exact W.iret (v := v2_h27) hx hb hr (fun t ht hW => ⟨⟨_, (), rfl, rfl, by rw [ht]; exact hP, va_K.moved hW.alike hK, hD⟩, hS.F ht⟩) hS.2.2 dX9_cuts_88
        · have h := (if_neg c_4).symm.trans h
          refine lv_iload_n hx hb dX9_cuts_33 rfl (lv_at hl 0 rfl) ?_
          refine lv_iload_n hx hb dX9_cuts_34 rfl (lv_at hl 2 rfl) ?_
          refine lv_ishr hx hb dX9_cuts_35 ?_
          refine lv_iconst (v := 1) hx hb dX9_cuts_36 (by decide) ?_
          refine lv_iand hx hb dX9_cuts_37 ?_
          refine lv_iconst (v := 1) hx hb dX9_cuts_38 (by decide) ?_
          have KJ64 : ∀ (w0_j64 : Int32) (H : Heap) (locs : List Loc) (ls : Array Slot), va_P (dC, dI) vwCl ((W_M cI cZ q_s q_s_lane q_s_many q_s_item q_s_isle q_s_fresh q_s_then q_s_was q_s_tape q_s_isKept q_s_kept q_s_trace 0 s_status s_lane s_many s_item s_isle s_fresh s_then s_was s_acts s_tape s_taped s_cursor s_start s_token s_value s_fault s_faultAt s_latest s_isKept s_kept s_trace s_traced)) H → va_D A ((W_M cI cZ q_s q_s_lane q_s_many q_s_item q_s_isle q_s_fresh q_s_then q_s_was q_s_tape q_s_isKept q_s_kept q_s_trace 0 s_status s_lane s_many s_item s_isle s_fresh s_then s_was s_acts s_tape s_taped s_cursor s_start s_token s_value s_fault s_faultAt s_latest s_isKept s_kept s_trace s_traced)) → va_S A s.heap H locs → lv_has ls 5 [(1, .int r_3), (2, .int v2_h27), (3, .int v3_h27)] → fX9_cuts_J64 (fX9_cuts_L27 r_3 n) v2_h27 v3_h27 w0_j64 = some res → W p l e (headSpec wsX9_cuts rmX9_cuts).room s m ([.ref q_s] : List Value).toArray below meth c H locs 0 0 QQ (F0 m 64 ls [.int w0_j64]) := by
            intro w0_j64 H locs ls hP hD hS hl h
            unfold fX9_cuts_J64 at h
            refine lv_istore (lv' := [(4, .int w0_j64), (1, .int r_3), (2, .int v2_h27), (3, .int v3_h27)]) hx hb dX9_cuts_64 hl (by decide) rfl (fun ls hl => ?_)
            refine lv_iload_n hx hb dX9_cuts_66 rfl (lv_at hl 2 rfl) ?_
            refine lv_iload hx hb dX9_cuts_67 (lv_at hl 0 rfl) ?_
            refine lv_if_eq (tgt := 78) hx hb dX9_cuts_69 (by decide) (fun c_5 => ?_) (fun c_5 => ?_)
            · have h := (if_pos c_5).symm.trans h
              refine lv_iconst (v := 0) hx hb dX9_cuts_78 (by decide) ?_
              refine lv_ior hx hb dX9_cuts_79 ?_
              refine lv_istore_n (lv' := [(2, .int (v2_h27 ||| 0)), (4, .int w0_j64), (1, .int r_3), (3, .int v3_h27)]) hx hb dX9_cuts_80 rfl hl (by decide) rfl (fun ls hl => ?_)
              refine lv_iinc (v := (v3_h27 + 1)) (lv' := [(3, .int (v3_h27 + 1)), (2, .int (v2_h27 ||| 0)), (4, .int w0_j64), (1, .int r_3)]) hx hb dX9_cuts_81 hl (k := 3) rfl rfl (by decide) rfl (fun ls hl => ?_)
              refine lv_goto (tgt := 27) hx hb dX9_cuts_84 (by decide) ?_
              exact ih (v2_h27 ||| 0) (v3_h27 + 1) _ _ _ hP hD hS (lv_sub hl [3, 1, 0] rfl) h
            · have h := (if_neg c_5).symm.trans h
              refine lv_iconst (v := 1) hx hb dX9_cuts_72 (by decide) ?_
              refine lv_iload_n hx hb dX9_cuts_73 rfl (lv_at hl 3 rfl) ?_
              refine lv_ishl hx hb dX9_cuts_74 ?_
              refine lv_goto (tgt := 79) hx hb dX9_cuts_75 (by decide) ?_
              refine lv_ior hx hb dX9_cuts_79 ?_
              refine lv_istore_n (lv' := [(2, .int (v2_h27 ||| (1 <<< (v3_h27 &&& 31)))), (4, .int w0_j64), (1, .int r_3), (3, .int v3_h27)]) hx hb dX9_cuts_80 rfl hl (by decide) rfl (fun ls hl => ?_)
              refine lv_iinc (v := (v3_h27 + 1)) (lv' := [(3, .int (v3_h27 + 1)), (2, .int (v2_h27 ||| (1 <<< (v3_h27 &&& 31)))), (4, .int w0_j64), (1, .int r_3)]) hx hb dX9_cuts_81 hl (k := 3) rfl rfl (by decide) rfl (fun ls hl => ?_)
              refine lv_goto (tgt := 27) hx hb dX9_cuts_84 (by decide) ?_
              exact ih (v2_h27 ||| (1 <<< (v3_h27 &&& 31))) (v3_h27 + 1) _ _ _ hP hD hS (lv_sub hl [3, 1, 0] rfl) h
          refine lv_icmp_ne (tgt := 63) hx hb dX9_cuts_39 (by decide) (fun c_6 => ?_) (fun c_6 => ?_)
          · have h := (if_neg c_6).symm.trans h
            refine lv_iconst (v := 0) hx hb dX9_cuts_63 (by decide) ?_
            exact KJ64 0 _ _ _ hP hD hS (lv_sub hl [0, 1, 2] rfl) h
          · have h := (if_pos c_6).symm.trans h
            refine lv_iload_n hx hb dX9_cuts_42 rfl (lv_at hl 0 rfl) ?_
            refine lv_iconst (v := 1) hx hb dX9_cuts_43 (by decide) ?_
            refine lv_iload_n hx hb dX9_cuts_44 rfl (lv_at hl 2 rfl) ?_
            refine lv_ishl hx hb dX9_cuts_45 ?_
            refine lv_iconst (v := (-1)) hx hb dX9_cuts_46 (by decide) ?_
            refine lv_ixor hx hb dX9_cuts_47 ?_
            refine lv_iand hx hb dX9_cuts_48 ?_
            obtain ⟨r_7, hc_7, h⟩ := bd1_of h
            refine cl_pS (As := [.int (r_3 &&& ((1 <<< (v3_h27 &&& 31)) ^^^ (-1)))]) (rest := []) ⟨hx, hb, hml, hown, hts⟩ (m_X9_partsOf l (r_3 &&& ((1 <<< (v3_h27 &&& 31)) ^^^ (-1))) (r_7) hc_7) (va_cwS 1 hts gX9_cuts_X9_partsOf rfl rfl rfl ddX9_partsOf ⟨Nat.le_of_ble_eq_true rfl, Nat.le_of_ble_eq_true rfl⟩) rfl rfl hl.1 (Nat.le_of_ble_eq_true rfl) ⟨Nat.zero_le _, Nat.zero_le _⟩ dX9_cuts_49 ?_
            refine lv_iload_n hx hb dX9_cuts_52 rfl (lv_at hl 0 rfl) ?_
            obtain ⟨r_8, hc_8, h⟩ := bd1_of h
            refine cl_pS (As := [.int r_3]) (rest := [.int r_7]) ⟨hx, hb, hml, hown, hts⟩ (m_X9_partsOf l r_3 (r_8) hc_8) (va_cwS 1 hts gX9_cuts_X9_partsOf rfl rfl rfl ddX9_partsOf ⟨Nat.le_of_ble_eq_true rfl, Nat.le_of_ble_eq_true rfl⟩) rfl rfl hl.1 (Nat.le_of_ble_eq_true rfl) ⟨Nat.zero_le _, Nat.zero_le _⟩ dX9_cuts_53 ?_
            refine lv_icmp_le (tgt := 63) hx hb dX9_cuts_56 (by decide) (fun c_9 => ?_) (fun c_9 => ?_)
            · have h := (if_pos c_9).symm.trans h
              refine lv_iconst (v := 0) hx hb dX9_cuts_63 (by decide) ?_
              exact KJ64 0 _ _ _ hP hD hS (lv_sub hl [0, 1, 2] rfl) h
            · have h := (if_neg c_9).symm.trans h
              refine lv_iconst (v := 1) hx hb dX9_cuts_59 (by decide) ?_
              refine lv_goto (tgt := 64) hx hb dX9_cuts_60 (by decide) ?_
              exact KJ64 1 _ _ _ hP hD hS (lv_sub hl [0, 1, 2] rfl) h
    exact KL27 FU 0 0 _ _ _ hP hD hS (lv_sub hl [2, 1, 0] rfl) h
  · have h := (if_pos c_2).symm.trans h
    refine lv_ldc hx hb hown w_3 dX9_cuts_12 ?_
    have h := Option.some.inj h
    subst h
    rw [hQQ]
    subst hAe
    exact W.iret (v := (-1000002)) hx hb hr (fun t ht hW => ⟨⟨_, (), rfl, rfl, by rw [ht]; exact hP, va_K.moved hW.alike hK, hD⟩, hS.F ht⟩) hS.2.2 dX9_cuts_14
def fX9_home_L50 (s_isle : (Nat → Int32)) (v1 : Int32) (r_5 : Int32) (r_6 : Int32) : Nat → Int32 → Int32 → (Nat → Int32) → Option (Int32 × Int32 × (Nat → Int32))
  | 0, _, _, _ => none
  | n + 1, v4_h50, v5_h50, s_then_h50 => (if 25 ≤ v5_h50 then some ((-1000000), 0, s_then_h50) else bd1 (fX9_of s_isle v1 2) (fun r_8 => (if ((v4_h50 >>> (r_8 &&& 31)) &&& 1) = 1 then some (v5_h50, 0, s_then_h50) else bd1 (fX9_layHour s_isle s_then_h50 (v5_h50 + 1)) (fun s_then_10 => bd1 (fX9_beside v4_h50) (fun r_11 => bd1 (fX9_dryOf s_then_10) (fun r_12 => ((fX9_home_L50 s_isle v1 r_5 r_6 n) (((v4_h50 ||| r_11) &&& r_12) &&& ((r_5 &&& (r_6 ^^^ (-1))) ^^^ (-1))) (v5_h50 + 1) s_then_10)))))))
def fX9_home (s_isle : (Nat → Int32)) (s_then : (Nat → Int32)) (v1 : Int32) (v2 : Int32) : Option (Int32 × Int32 × (Nat → Int32)) :=
  bd1 (fX9_isBidder s_isle v1) (fun r_1 => (if r_1 = 0 then some ((-1000001), 0, s_then) else bd1 (fX9_isCell v2) (fun r_3 => (if r_3 = 0 then some ((-1000001), 0, s_then) else bd1 (fX9_heldOf s_isle) (fun r_5 => bd1 (fX9_heldBy s_isle v1) (fun r_6 => (fX9_home_L50 s_isle v1 r_5 r_6 FU (1 <<< (v2 &&& 31)) 0 s_then)))))))
abbrev rmX9_home : Room := { frames := 3, cells := 0, slots := 0, locals := 65 }
theorem ddX9_home : yX9_home.cls ≠ "java/lang/invoke/MethodHandle" ∧ yX9_home.cls ≠ "java/lang/invoke/VarHandle" ∧ (parseMethodDescriptor yX9_home.desc).map (fun d => d.parameters.length) = some 2 := by decide +kernel
set_option maxHeartbeats 4000000 in
set_option maxRecDepth 100000 in
theorem m_X9_home (l : Launch) (dC : Nat → ClassId) (dI : Nat → Nat → Nat) (cI cZ : ClassId) (q_s q_s_lane q_s_many q_s_item q_s_isle q_s_fresh q_s_then q_s_was q_s_tape q_s_isKept q_s_kept q_s_trace : Nat) (s_thrown : Int32) (s_status : Int32) (s_lane : (Nat → Int32)) (s_many : (Nat → Int32)) (s_item : (Nat → Int32)) (s_isle : (Nat → Int32)) (s_fresh : (Nat → Int32)) (s_then : (Nat → Int32)) (s_was : (Nat → Int32)) (s_acts : Int32) (s_tape : (Nat → Int32)) (s_taped : Int32) (s_cursor : Int32) (s_start : Int32) (s_token : Int32) (s_value : Int32) (s_fault : Int32) (s_faultAt : Int32) (s_latest : Int32) (s_isKept : (Nat → Int32)) (s_kept : (Nat → Int32)) (s_trace : (Nat → Int32)) (s_traced : Int32) (v1 : Int32) (v2 : Int32) (sz : Nat) (res : Int32 × Int32 × (Nat → Int32)) (hf : fX9_home s_isle s_then v1 v2 = some res) : Met l yX9_home wsX9_home rmX9_home (mtPc (dC, dI) (tyZ cI cZ) ((W_M cI cZ q_s q_s_lane q_s_many q_s_item q_s_isle q_s_fresh q_s_then q_s_was q_s_tape q_s_isKept q_s_kept q_s_trace s_thrown s_status s_lane s_many s_item s_isle s_fresh s_then s_was s_acts s_tape s_taped s_cursor s_start s_token s_value s_fault s_faultAt s_latest s_isKept s_kept s_trace s_traced)) [.ref q_s, .int v1, .int v2] sz) (mtQi (dC, dI) (tyZ cI cZ) ((W_M cI cZ q_s q_s_lane q_s_many q_s_item q_s_isle q_s_fresh q_s_then q_s_was q_s_tape q_s_isKept q_s_kept q_s_trace s_thrown s_status s_lane s_many s_item s_isle s_fresh s_then s_was s_acts s_tape s_taped s_cursor s_start s_token s_value s_fault s_faultAt s_latest s_isKept s_kept s_trace s_traced)) ((W_M cI cZ q_s q_s_lane q_s_many q_s_item q_s_isle q_s_fresh q_s_then q_s_was q_s_tape q_s_isKept q_s_kept q_s_trace res.2.1 s_status s_lane s_many s_item s_isle s_fresh res.2.2 s_was s_acts s_tape s_taped s_cursor s_start s_token s_value s_fault s_faultAt s_latest s_isKept s_kept s_trace s_traced)) res.1 sz) 0 0 (va_A ((W_M cI cZ q_s q_s_lane q_s_many q_s_item q_s_isle q_s_fresh q_s_then q_s_was q_s_tape q_s_isKept q_s_kept q_s_trace s_thrown s_status s_lane s_many s_item s_isle s_fresh s_then s_was s_acts s_tape s_taped s_cursor s_start s_token s_value s_fault s_faultAt s_latest s_isKept s_kept s_trace s_traced)) sz) := by
  refine Met.ofW (cc := cX9_home) (maxL := 6) (ret := (some .int)) (by decide) rfl ?_
  intro p e s m args below meth c s₁ B hml hv
  obtain ⟨rfl, hsz, hP, hK, hD0⟩ := hv
  have hx := B.exec
  have hb := B.bytes
  have hr := B.returns
  have hts := atoms_spec (ws := wsX9_home) B.pre
  have hown : s.vm.findClass RX9 = some m.cls := findClass_of_methodNamed B.named
  have hlocks := B.notSynchronized
  subst hsz
  have hD := hD0.self (sz := s.heap.size)
  obtain ⟨A, hAe⟩ : ∃ A, A = va_A ((W_M cI cZ q_s q_s_lane q_s_many q_s_item q_s_isle q_s_fresh q_s_then q_s_was q_s_tape q_s_isKept q_s_kept q_s_trace s_thrown s_status s_lane s_many s_item s_isle s_fresh s_then s_was s_acts s_tape s_taped s_cursor s_start s_token s_value s_fault s_faultAt s_latest s_isKept s_kept s_trace s_traced)) s.heap.size := ⟨_, rfl⟩
  rw [← hAe] at hD
  have hA : ∀ q : Nat, s.heap.size ≤ q → A q := fun q h => by rw [hAe]; exact Or.inr h
  have hS : va_S A s.heap s.heap [] := va_S.rf
  have hl := lv_entry ([.ref q_s, .int v1, .int v2]) (n := 6) (Nat.le_of_ble_eq_true rfl)
  rw [lg_entry_eq]
  generalize (lg_sl ([.ref q_s, .int v1, .int v2]) ++ List.replicate (6 - (lg_sl ([.ref q_s, .int v1, .int v2])).length) Slot.unset).toArray = ls at hl ⊢
  have hl : lv_has ls 6 [(0, .ref q_s), (1, .int v1), (2, .int v2)] := hl
  obtain ⟨QQ, hQQ⟩ : ∃ Q, Q = MQ below (mtQi (dC, dI) (tyZ cI cZ) ((W_M cI cZ q_s q_s_lane q_s_many q_s_item q_s_isle q_s_fresh q_s_then q_s_was q_s_tape q_s_isKept q_s_kept q_s_trace s_thrown s_status s_lane s_many s_item s_isle s_fresh s_then s_was s_acts s_tape s_taped s_cursor s_start s_token s_value s_fault s_faultAt s_latest s_isKept s_kept s_trace s_traced)) ((W_M cI cZ q_s q_s_lane q_s_many q_s_item q_s_isle q_s_fresh q_s_then q_s_was q_s_tape q_s_isKept q_s_kept q_s_trace res.2.1 s_status s_lane s_many s_item s_isle s_fresh res.2.2 s_was s_acts s_tape s_taped s_cursor s_start s_token s_value s_fault s_faultAt s_latest s_isKept s_kept s_trace s_traced)) res.1 s.heap.size) ([.ref q_s, .int v1, .int v2] : List Value).toArray s 0 0 (va_A ((W_M cI cZ q_s q_s_lane q_s_many q_s_item q_s_isle q_s_fresh q_s_then q_s_was q_s_tape q_s_isKept q_s_kept q_s_trace s_thrown s_status s_lane s_many s_item s_isle s_fresh s_then s_was s_acts s_tape s_taped s_cursor s_start s_token s_value s_fault s_faultAt s_latest s_isKept s_kept s_trace s_traced)) s.heap.size) := ⟨_, rfl⟩
  rw [← hQQ]
  have w_0 := hts (Cond.fieldLink RX9 44 "TideInchesModel" "thrown" "I") (List.mem_of_getElem? (i := 1) rfl)
  have w_1 := (fun w hw => List.mem_cons_of_mem _ (List.mem_append_right _ hw) : ∀ w ∈ wsX90, w ∈ wsX9_home)
  have w_2 := hts (Cond.constant RX9 64 (-1000001)) (List.mem_of_getElem? (i := 2) rfl)
  have w_3 := hts (Cond.fieldLink RX9 19 "TideInchesModel" "isle" "[I") (List.mem_of_getElem? (i := 3) rfl)
  have w_4 := hts (Cond.constant RX9 87 (-1000000)) (List.mem_of_getElem? (i := 5) rfl)
  have w_5 := hts (Cond.fieldLink RX9 25 "TideInchesModel" "then" "[I") (List.mem_of_getElem? (i := 4) rfl)
  have h := hf
  unfold fX9_home at h
  refine lv_aload_n hx hb dX9_home_0 rfl (lv_at hl 0 rfl) ?_
  refine lv_iconst (v := 0) hx hb dX9_home_1 (by decide) ?_
  refine va_put (D := (dC, dI)) (ci := 7) (v := .int 0) (ty := .int) (C := RX9) (T := TX9) (N := 23) hx hb hts w_1 tyX9 tyX9_ok nmX9 hown hK hP hD hS 0 rfl rfl 0 (by decide) w_0 (fun _ h9 => h9) rfl (by decide +kernel) rfl rfl (Nat.le_of_ble_eq_true rfl) dX9_home_2 (fun H locs hP hD hS => ?_)
  have hP : va_P (dC, dI) vwCl ((W_M cI cZ q_s q_s_lane q_s_many q_s_item q_s_isle q_s_fresh q_s_then q_s_was q_s_tape q_s_isKept q_s_kept q_s_trace 0 s_status s_lane s_many s_item s_isle s_fresh s_then s_was s_acts s_tape s_taped s_cursor s_start s_token s_value s_fault s_faultAt s_latest s_isKept s_kept s_trace s_traced)) H := hP
  have hD : va_D A ((W_M cI cZ q_s q_s_lane q_s_many q_s_item q_s_isle q_s_fresh q_s_then q_s_was q_s_tape q_s_isKept q_s_kept q_s_trace 0 s_status s_lane s_many s_item s_isle s_fresh s_then s_was s_acts s_tape s_taped s_cursor s_start s_token s_value s_fault s_faultAt s_latest s_isKept s_kept s_trace s_traced)) := hD
  refine lv_aload_n hx hb dX9_home_5 rfl (lv_at hl 0 rfl) ?_
  refine lv_iload_n hx hb dX9_home_6 rfl (lv_at hl 1 rfl) ?_
  obtain ⟨r_1, hc_1, h⟩ := bd1_of h
  refine cl_rV (As := [.int v1]) (rest := []) ⟨hx, hb, hml, hown, hts⟩ (m_X9_isBidder l dC dI cI cZ q_s q_s_lane q_s_many q_s_item q_s_isle q_s_fresh q_s_then q_s_was q_s_tape q_s_isKept q_s_kept q_s_trace 0 s_status s_lane s_many s_item s_isle s_fresh s_then s_was s_acts s_tape s_taped s_cursor s_start s_token s_value s_fault s_faultAt s_latest s_isKept s_kept s_trace s_traced v1 (r_1) hc_1) (cwV 1 hts gX9_home_X9_isBidder rfl rfl rfl ⟨rfl, ddX9_isBidder⟩ ⟨Nat.le_of_ble_eq_true rfl, Nat.le_of_ble_eq_true rfl⟩) hK hP [0, 1, 2, 3, 4, 5, 6, 7, 8, 9, 10, 11] rfl rfl rfl rfl rfl hl.1 (Nat.le_of_ble_eq_true rfl) ⟨Nat.zero_le _, Nat.zero_le _⟩ dX9_home_7 ?_
  refine lv_if_eq (tgt := 20) hx hb dX9_home_10 (by decide) (fun c_2 => ?_) (fun c_2 => ?_)
  · have h := (if_pos c_2).symm.trans h
    refine lv_ldc hx hb hown w_2 dX9_home_20 ?_
    have h := Option.some.inj h
    subst h
    rw [hQQ]
    subst hAe
    exact W.iret (v := (-1000001)) hx hb hr (fun t ht hW => ⟨⟨_, (), rfl, rfl, by rw [ht]; exact hP, va_K.moved hW.alike hK, hD⟩, hS.F ht⟩) hS.2.2 dX9_home_22
  · have h := (if_neg c_2).symm.trans h
    refine lv_iload_n hx hb dX9_home_13 rfl (lv_at hl 2 rfl) ?_
    obtain ⟨r_3, hc_3, h⟩ := bd1_of h
    refine cl_pS (As := [.int v2]) (rest := []) ⟨hx, hb, hml, hown, hts⟩ (m_X9_isCell l v2 (r_3) hc_3) (va_cwS 1 hts gX9_home_X9_isCell rfl rfl rfl ddX9_isCell ⟨Nat.le_of_ble_eq_true rfl, Nat.le_of_ble_eq_true rfl⟩) rfl rfl hl.1 (Nat.le_of_ble_eq_true rfl) ⟨Nat.zero_le _, Nat.zero_le _⟩ dX9_home_14 ?_
    refine lv_if_ne (tgt := 23) hx hb dX9_home_17 (by decide) (fun c_4 => ?_) (fun c_4 => ?_)
    · have h := (if_neg c_4).symm.trans h
      refine lv_aload_n hx hb dX9_home_23 rfl (lv_at hl 0 rfl) ?_
      refine va_get (D := (dC, dI)) (ci := 7) (v := .ref q_s_isle) (C := RX9) (T := TX9) (N := 23) hx hb hts w_1 hown hK hP 0 rfl rfl 5 (by decide) w_3 (fun _ h9 => h9) rfl dX9_home_24 ?_
      obtain ⟨r_5, hc_5, h⟩ := bd1_of h
      refine cl_rS (As := [.ref q_s_isle]) (rest := []) ⟨hx, hb, hml, hown, hts⟩ (m_X9_heldOf l dC dI cI cZ q_s_isle s_isle (r_5) hc_5) (va_cwS 1 hts gX9_home_X9_heldOf rfl rfl rfl ddX9_heldOf ⟨Nat.le_of_ble_eq_true rfl, Nat.le_of_ble_eq_true rfl⟩) hK hP [4] rfl rfl rfl hl.1 (Nat.le_of_ble_eq_true rfl) ⟨Nat.zero_le _, Nat.zero_le _⟩ dX9_home_27 ?_
      refine lv_aload_n hx hb dX9_home_30 rfl (lv_at hl 0 rfl) ?_
      refine va_get (D := (dC, dI)) (ci := 7) (v := .ref q_s_isle) (C := RX9) (T := TX9) (N := 23) hx hb hts w_1 hown hK hP 0 rfl rfl 5 (by decide) w_3 (fun _ h9 => h9) rfl dX9_home_31 ?_
      refine lv_iload_n hx hb dX9_home_34 rfl (lv_at hl 1 rfl) ?_
      obtain ⟨r_6, hc_6, h⟩ := bd1_of h
      refine cl_rS (As := [.ref q_s_isle, .int v1]) (rest := [.int r_5]) ⟨hx, hb, hml, hown, hts⟩ (m_X9_heldBy l dC dI cI cZ q_s_isle s_isle v1 (r_6) hc_6) (va_cwS 2 hts gX9_home_X9_heldBy rfl rfl rfl ddX9_heldBy ⟨Nat.le_of_ble_eq_true rfl, Nat.le_of_ble_eq_true rfl⟩) hK hP [4] rfl rfl rfl hl.1 (Nat.le_of_ble_eq_true rfl) ⟨Nat.zero_le _, Nat.zero_le _⟩ dX9_home_35 ?_
      refine lv_iconst (v := (-1)) hx hb dX9_home_38 (by decide) ?_
      refine lv_ixor hx hb dX9_home_39 ?_
      refine lv_iand hx hb dX9_home_40 ?_
      refine lv_istore_n (lv' := [(3, .int (r_5 &&& (r_6 ^^^ (-1)))), (0, .ref q_s), (1, .int v1), (2, .int v2)]) hx hb dX9_home_41 rfl hl (by decide) rfl (fun ls hl => ?_)
      refine lv_iconst (v := 1) hx hb dX9_home_42 (by decide) ?_
      refine lv_iload_n hx hb dX9_home_43 rfl (lv_at hl 3 rfl) ?_
      refine lv_ishl hx hb dX9_home_44 ?_
      refine lv_istore (lv' := [(4, .int (1 <<< (v2 &&& 31))), (3, .int (r_5 &&& (r_6 ^^^ (-1)))), (0, .ref q_s), (1, .int v1), (2, .int v2)]) hx hb dX9_home_45 hl (by decide) rfl (fun ls hl => ?_)
      refine lv_iconst (v := 0) hx hb dX9_home_47 (by decide) ?_
      refine lv_istore (lv' := [(5, .int 0), (4, .int (1 <<< (v2 &&& 31))), (3, .int (r_5 &&& (r_6 ^^^ (-1)))), (0, .ref q_s), (1, .int v1), (2, .int v2)]) hx hb dX9_home_48 hl (by decide) rfl (fun ls hl => ?_)
      have KL50 : ∀ (n : Nat) (v4_h50 : Int32) (v5_h50 : Int32) (s_then_h50 : (Nat → Int32)) (H : Heap) (locs : List Loc) (ls : Array Slot), va_P (dC, dI) vwCl ((W_M cI cZ q_s q_s_lane q_s_many q_s_item q_s_isle q_s_fresh q_s_then q_s_was q_s_tape q_s_isKept q_s_kept q_s_trace 0 s_status s_lane s_many s_item s_isle s_fresh s_then_h50 s_was s_acts s_tape s_taped s_cursor s_start s_token s_value s_fault s_faultAt s_latest s_isKept s_kept s_trace s_traced)) H → va_D A ((W_M cI cZ q_s q_s_lane q_s_many q_s_item q_s_isle q_s_fresh q_s_then q_s_was q_s_tape q_s_isKept q_s_kept q_s_trace 0 s_status s_lane s_many s_item s_isle s_fresh s_then_h50 s_was s_acts s_tape s_taped s_cursor s_start s_token s_value s_fault s_faultAt s_latest s_isKept s_kept s_trace s_traced)) → va_S A s.heap H locs → lv_has ls 6 [(0, .ref q_s), (1, .int v1), (3, .int (r_5 &&& (r_6 ^^^ (-1)))), (4, .int v4_h50), (5, .int v5_h50)] → fX9_home_L50 s_isle v1 r_5 r_6 n v4_h50 v5_h50 s_then_h50 = some res → W p l e (headSpec wsX9_home rmX9_home).room s m ([.ref q_s, .int v1, .int v2] : List Value).toArray below meth c H locs 0 0 QQ (F0 m 50 ls []) := by
        intro  n
        induction n with
        | zero => intro v4_h50 v5_h50 s_then_h50 H locs ls hP hD hS hl h; rw [fX9_home_L50.eq_1] at h; cases h
        | succ n ih =>
          intro v4_h50 v5_h50 s_then_h50 H locs ls hP hD hS hl h
          rw [fX9_home_L50.eq_2] at h
          refine lv_iload hx hb dX9_home_50 (lv_at hl 4 rfl) ?_
          refine lv_bipush (v := 25) hx hb dX9_home_52 (by decide) ?_
          refine lv_icmp_ge (tgt := 114) hx hb dX9_home_54 (by decide) (fun c_7 => ?_) (fun c_7 => ?_)
          · have h := (if_pos c_7).symm.trans h
            refine lv_ldc hx hb hown w_4 dX9_home_114 ?_
            have h := Option.some.inj h
            subst h
            rw [hQQ]
            subst hAe
            exact W.iret (v := (-1000000)) hx hb hr (fun t ht hW => ⟨⟨_, (), rfl, rfl, by rw [ht]; exact hP, va_K.moved hW.alike hK, hD⟩, hS.F ht⟩) hS.2.2 dX9_home_116
          · have h := (if_neg c_7).symm.trans h
            refine lv_iload hx hb dX9_home_57 (lv_at hl 3 rfl) ?_
            refine lv_aload_n hx hb dX9_home_59 rfl (lv_at hl 0 rfl) ?_
            refine va_get (D := (dC, dI)) (ci := 7) (v := .ref q_s_isle) (C := RX9) (T := TX9) (N := 23) hx hb hts w_1 hown hK hP 0 rfl rfl 5 (by decide) w_3 (fun _ h9 => h9) rfl dX9_home_60 ?_
            refine lv_iload_n hx hb dX9_home_63 rfl (lv_at hl 1 rfl) ?_
            refine lv_iconst (v := 2) hx hb dX9_home_64 (by decide) ?_
            obtain ⟨r_8, hc_8, h⟩ := bd1_of h
            refine cl_rS (As := [.ref q_s_isle, .int v1, .int 2]) (rest := [.int v4_h50]) ⟨hx, hb, hml, hown, hts⟩ (m_X9_of l dC dI cI cZ q_s_isle s_isle v1 2 (r_8) hc_8) (va_cwS 3 hts gX9_home_X9_of rfl rfl rfl ddX9_of ⟨Nat.le_of_ble_eq_true rfl, Nat.le_of_ble_eq_true rfl⟩) hK hP [4] rfl rfl rfl hl.1 (Nat.le_of_ble_eq_true rfl) ⟨Nat.zero_le _, Nat.zero_le _⟩ dX9_home_65 ?_
            refine lv_ishr hx hb dX9_home_68 ?_
            refine lv_iconst (v := 1) hx hb dX9_home_69 (by decide) ?_
            refine lv_iand hx hb dX9_home_70 ?_
            refine lv_iconst (v := 1) hx hb dX9_home_71 (by decide) ?_
            refine lv_icmp_ne (tgt := 78) hx hb dX9_home_72 (by decide) (fun c_9 => ?_) (fun c_9 => ?_)
            · have h := (if_neg c_9).symm.trans h
              refine lv_aload_n hx hb dX9_home_78 rfl (lv_at hl 0 rfl) ?_
              refine lv_iload hx hb dX9_home_79 (lv_at hl 4 rfl) ?_
              refine lv_iconst (v := 1) hx hb dX9_home_81 (by decide) ?_
              refine lv_iadd hx hb dX9_home_82 ?_
              obtain ⟨s_then_10, hc_10, h⟩ := bd1_of h
              refine cl_mVv (As := [.int (v5_h50 + 1)]) (rest := []) (ws' := (W_M cI cZ q_s q_s_lane q_s_many q_s_item q_s_isle q_s_fresh q_s_then q_s_was q_s_tape q_s_isKept q_s_kept q_s_trace 0 s_status s_lane s_many s_item s_isle s_fresh s_then_10 s_was s_acts s_tape s_taped s_cursor s_start s_token s_value s_fault s_faultAt s_latest s_isKept s_kept s_trace s_traced)) (wr := []) ⟨hx, hb, hml, hown, hts⟩ (m_X9_layHour l dC dI cI cZ q_s q_s_lane q_s_many q_s_item q_s_isle q_s_fresh q_s_then q_s_was q_s_tape q_s_isKept q_s_kept q_s_trace 0 s_status s_lane s_many s_item s_isle s_fresh s_then_h50 s_was s_acts s_tape s_taped s_cursor s_start s_token s_value s_fault s_faultAt s_latest s_isKept s_kept s_trace s_traced (v5_h50 + 1) _ (s_then_10) hc_10) (cwV 1 hts gX9_home_X9_layHour rfl rfl rfl ⟨rfl, ddX9_layHour⟩ ⟨Nat.le_of_ble_eq_true rfl, Nat.le_of_ble_eq_true rfl⟩) hK hP hD hS hA [0, 1, 2, 3, 4, 5, 6, 7, 8, 9, 10, 11] [] rfl rfl rfl rfl (by decide) [0, 1, 2, 3, 4, 5, 6, 7, 8, 9, 10, 11] rfl rfl rfl rfl rfl rfl rfl hl.1 (Nat.le_of_ble_eq_true rfl) ⟨Nat.zero_le _, Nat.zero_le _⟩ dX9_home_83 (fun H locs hP hD hS => ?_)
              refine lv_iload hx hb dX9_home_86 (lv_at hl 3 rfl) ?_
              refine lv_iload hx hb dX9_home_88 (lv_at hl 3 rfl) ?_
              obtain ⟨r_11, hc_11, h⟩ := bd1_of h
              refine cl_pS (As := [.int v4_h50]) (rest := [.int v4_h50]) ⟨hx, hb, hml, hown, hts⟩ (m_X9_beside l v4_h50 (r_11) hc_11) (va_cwS 1 hts gX9_home_X9_beside rfl rfl rfl ddX9_beside ⟨Nat.le_of_ble_eq_true rfl, Nat.le_of_ble_eq_true rfl⟩) rfl rfl hl.1 (Nat.le_of_ble_eq_true rfl) ⟨Nat.zero_le _, Nat.zero_le _⟩ dX9_home_90 ?_
              refine lv_ior hx hb dX9_home_93 ?_
              refine lv_aload_n hx hb dX9_home_94 rfl (lv_at hl 0 rfl) ?_
              refine va_get (D := (dC, dI)) (ci := 7) (v := .ref q_s_then) (C := RX9) (T := TX9) (N := 23) hx hb hts w_1 hown hK hP 0 rfl rfl 7 (by decide) w_5 (fun _ h9 => h9) rfl dX9_home_95 ?_
              obtain ⟨r_12, hc_12, h⟩ := bd1_of h
              refine cl_rS (As := [.ref q_s_then]) (rest := [.int (v4_h50 ||| r_11)]) ⟨hx, hb, hml, hown, hts⟩ (m_X9_dryOf l dC dI cI cZ q_s_then s_then_10 (r_12) hc_12) (va_cwS 1 hts gX9_home_X9_dryOf rfl rfl rfl ddX9_dryOf ⟨Nat.le_of_ble_eq_true rfl, Nat.le_of_ble_eq_true rfl⟩) hK hP [6] rfl rfl rfl hl.1 (Nat.le_of_ble_eq_true rfl) ⟨Nat.zero_le _, Nat.zero_le _⟩ dX9_home_98 ?_
              refine lv_iand hx hb dX9_home_101 ?_
              refine lv_iload_n hx hb dX9_home_102 rfl (lv_at hl 2 rfl) ?_
              refine lv_iconst (v := (-1)) hx hb dX9_home_103 (by decide) ?_
              refine lv_ixor hx hb dX9_home_104 ?_
              refine lv_iand hx hb dX9_home_105 ?_
              refine lv_istore (lv' := [(4, .int (((v4_h50 ||| r_11) &&& r_12) &&& ((r_5 &&& (r_6 ^^^ (-1))) ^^^ (-1)))), (0, .ref q_s), (1, .int v1), (3, .int (r_5 &&& (r_6 ^^^ (-1)))), (5, .int v5_h50)]) hx hb dX9_home_106 hl (by decide) rfl (fun ls hl => ?_)
              refine lv_iinc (v := (v5_h50 + 1)) (lv' := [(5, .int (v5_h50 + 1)), (4, .int (((v4_h50 ||| r_11) &&& r_12) &&& ((r_5 &&& (r_6 ^^^ (-1))) ^^^ (-1)))), (0, .ref q_s), (1, .int v1), (3, .int (r_5 &&& (r_6 ^^^ (-1))))]) hx hb dX9_home_108 hl (k := 4) rfl rfl (by decide) rfl (fun ls hl => ?_)
              refine lv_goto (tgt := 50) hx hb dX9_home_111 (by decide) ?_
              exact ih (((v4_h50 ||| r_11) &&& r_12) &&& ((r_5 &&& (r_6 ^^^ (-1))) ^^^ (-1))) (v5_h50 + 1) s_then_10 _ _ _ hP hD hS (lv_sub hl [2, 3, 4, 1, 0] rfl) h
            · have h := (if_pos c_9).symm.trans h
              refine lv_iload hx hb dX9_home_75 (lv_at hl 4 rfl) ?_
              have h := Option.some.inj h
              subst h
              rw [hQQ]
              subst hAe
              exact W.iret (v := v5_h50) hx hb hr (fun t ht hW => ⟨⟨_, (), rfl, rfl, by rw [ht]; exact hP, va_K.moved hW.alike hK, hD⟩, hS.F ht⟩) hS.2.2 dX9_home_77
      exact KL50 FU (1 <<< (v2 &&& 31)) 0 s_then _ _ _ hP hD hS (lv_sub hl [3, 4, 2, 1, 0] rfl) h
    · have h := (if_pos c_4).symm.trans h
      refine lv_ldc hx hb hown w_2 dX9_home_20 ?_
      have h := Option.some.inj h
      subst h
      rw [hQQ]
      subst hAe
      exact W.iret (v := (-1000001)) hx hb hr (fun t ht hW => ⟨⟨_, (), rfl, rfl, by rw [ht]; exact hP, va_K.moved hW.alike hK, hD⟩, hS.F ht⟩) hS.2.2 dX9_home_22
def fX9_open_L4 (s_isle : (Nat → Int32)) (v1 : Int32) : Nat → Int32 → Int32 → Option (Int32)
  | 0, _, _ => none
  | n + 1, v2_h4, v3_h4 => (if 15 ≤ v3_h4 then some (v2_h4) else bd1 (fX9_mayBid s_isle v1 v3_h4) (fun r_2 => (if r_2 = 0 then ((fX9_open_L4 s_isle v1 n) (v2_h4 ||| 0) (v3_h4 + 1)) else ((fX9_open_L4 s_isle v1 n) (v2_h4 ||| (1 <<< (v3_h4 &&& 31))) (v3_h4 + 1)))))
def fX9_open (s_isle : (Nat → Int32)) (v1 : Int32) : Option (Int32) :=
  (fX9_open_L4 s_isle v1 FU 0 0)
abbrev rmX9_open : Room := { frames := 4, cells := 0, slots := 0, locals := 87 }
theorem ddX9_open : yX9_open.cls ≠ "java/lang/invoke/MethodHandle" ∧ yX9_open.cls ≠ "java/lang/invoke/VarHandle" ∧ (parseMethodDescriptor yX9_open.desc).map (fun d => d.parameters.length) = some 1 := by decide +kernel
set_option maxHeartbeats 4000000 in
set_option maxRecDepth 100000 in
theorem m_X9_open (l : Launch) (dC : Nat → ClassId) (dI : Nat → Nat → Nat) (cI cZ : ClassId) (q_s q_s_lane q_s_many q_s_item q_s_isle q_s_fresh q_s_then q_s_was q_s_tape q_s_isKept q_s_kept q_s_trace : Nat) (s_thrown : Int32) (s_status : Int32) (s_lane : (Nat → Int32)) (s_many : (Nat → Int32)) (s_item : (Nat → Int32)) (s_isle : (Nat → Int32)) (s_fresh : (Nat → Int32)) (s_then : (Nat → Int32)) (s_was : (Nat → Int32)) (s_acts : Int32) (s_tape : (Nat → Int32)) (s_taped : Int32) (s_cursor : Int32) (s_start : Int32) (s_token : Int32) (s_value : Int32) (s_fault : Int32) (s_faultAt : Int32) (s_latest : Int32) (s_isKept : (Nat → Int32)) (s_kept : (Nat → Int32)) (s_trace : (Nat → Int32)) (s_traced : Int32) (v1 : Int32) (res : Int32) (hf : fX9_open s_isle v1 = some res) : Met l yX9_open wsX9_open rmX9_open (rdPc (dC, dI) (tyZ cI cZ) ((W_M cI cZ q_s q_s_lane q_s_many q_s_item q_s_isle q_s_fresh q_s_then q_s_was q_s_tape q_s_isKept q_s_kept q_s_trace s_thrown s_status s_lane s_many s_item s_isle s_fresh s_then s_was s_acts s_tape s_taped s_cursor s_start s_token s_value s_fault s_faultAt s_latest s_isKept s_kept s_trace s_traced)) [.ref q_s, .int v1]) (rdQ res) 0 0 (fun _ => False) := by
  refine Met.ofW (cc := cX9_open) (maxL := 4) (ret := (some .int)) (by decide) rfl ?_
  intro p e s m args below meth c s₁ B hml hv
  obtain ⟨rfl, hP, hK⟩ := hv
  have hx := B.exec
  have hb := B.bytes
  have hr := B.returns
  have hts := atoms_spec (ws := wsX9_open) B.pre
  have hown : s.vm.findClass RX9 = some m.cls := findClass_of_methodNamed B.named
  have hlocks := B.notSynchronized
  have hl := lv_entry ([.ref q_s, .int v1]) (n := 4) (Nat.le_of_ble_eq_true rfl)
  rw [lg_entry_eq]
  generalize (lg_sl ([.ref q_s, .int v1]) ++ List.replicate (4 - (lg_sl ([.ref q_s, .int v1])).length) Slot.unset).toArray = ls at hl ⊢
  have hl : lv_has ls 4 [(0, .ref q_s), (1, .int v1)] := hl
  obtain ⟨QQ, hQQ⟩ : ∃ Q, Q = MQ below (rdQ res) ([.ref q_s, .int v1] : List Value).toArray s 0 0 (fun _ => False) := ⟨_, rfl⟩
  rw [← hQQ]
  have w_0 := hts (Cond.fieldLink RX9 19 "TideInchesModel" "isle" "[I") (List.mem_of_getElem? (i := 1) rfl)
  have w_1 := (fun w hw => List.mem_cons_of_mem _ (List.mem_append_right _ hw) : ∀ w ∈ wsX90, w ∈ wsX9_open)
  have h := hf
  unfold fX9_open at h
  refine lv_iconst (v := 0) hx hb dX9_open_0 (by decide) ?_
  refine lv_istore_n (lv' := [(2, .int 0), (0, .ref q_s), (1, .int v1)]) hx hb dX9_open_1 rfl hl (by decide) rfl (fun ls hl => ?_)
  refine lv_iconst (v := 0) hx hb dX9_open_2 (by decide) ?_
  refine lv_istore_n (lv' := [(3, .int 0), (2, .int 0), (0, .ref q_s), (1, .int v1)]) hx hb dX9_open_3 rfl hl (by decide) rfl (fun ls hl => ?_)
  have KL4 : ∀ (n : Nat) (v2_h4 : Int32) (v3_h4 : Int32) (ls : Array Slot), lv_has ls 4 [(0, .ref q_s), (1, .int v1), (2, .int v2_h4), (3, .int v3_h4)] → fX9_open_L4 s_isle v1 n v2_h4 v3_h4 = some res → W p l e (headSpec wsX9_open rmX9_open).room s m ([.ref q_s, .int v1] : List Value).toArray below meth c s.heap [] 0 0 QQ (F0 m 4 ls []) := by
    intro  n
    induction n with
    | zero => intro v2_h4 v3_h4 ls hl h; rw [fX9_open_L4.eq_1] at h; cases h
    | succ n ih =>
      intro v2_h4 v3_h4 ls hl h
      rw [fX9_open_L4.eq_2] at h
      refine lv_iload_n hx hb dX9_open_4 rfl (lv_at hl 3 rfl) ?_
      refine lv_bipush (v := 15) hx hb dX9_open_5 (by decide) ?_
      refine lv_icmp_ge (tgt := 38) hx hb dX9_open_7 (by decide) (fun c_1 => ?_) (fun c_1 => ?_)
      · have h := (if_pos c_1).symm.trans h
        refine lv_iload_n hx hb dX9_open_38 rfl (lv_at hl 2 rfl) ?_
        rw [hQQ]
        exact W.iret (v := v2_h4) hx hb hr (fun t ht hW => ⟨_, rfl, Option.some.inj h, ht⟩) (fun q hq => by cases hq) dX9_open_39
      · have h := (if_neg c_1).symm.trans h
        refine lv_iload_n hx hb dX9_open_10 rfl (lv_at hl 2 rfl) ?_
        refine lv_aload_n hx hb dX9_open_11 rfl (lv_at hl 0 rfl) ?_
        refine va_get (D := (dC, dI)) (ci := 7) (v := .ref q_s_isle) (C := RX9) (T := TX9) (N := 23) hx hb hts w_1 hown hK hP 0 rfl rfl 5 (by decide) w_0 (fun _ h9 => h9) rfl dX9_open_12 ?_
        refine lv_iload_n hx hb dX9_open_15 rfl (lv_at hl 1 rfl) ?_
        refine lv_iload_n hx hb dX9_open_16 rfl (lv_at hl 3 rfl) ?_
        obtain ⟨r_2, hc_2, h⟩ := bd1_of h
        refine cl_rS (As := [.ref q_s_isle, .int v1, .int v3_h4]) (rest := [.int v2_h4]) ⟨hx, hb, hml, hown, hts⟩ (m_X9_mayBid l dC dI cI cZ q_s_isle s_isle v1 v3_h4 (r_2) hc_2) (va_cwS 3 hts gX9_open_X9_mayBid rfl rfl rfl ddX9_mayBid ⟨Nat.le_of_ble_eq_true rfl, Nat.le_of_ble_eq_true rfl⟩) hK hP [4] rfl rfl rfl hl.1 (Nat.le_of_ble_eq_true rfl) ⟨Nat.zero_le _, Nat.zero_le _⟩ dX9_open_17 ?_
        refine lv_if_eq (tgt := 29) hx hb dX9_open_20 (by decide) (fun c_3 => ?_) (fun c_3 => ?_)
        · have h := (if_pos c_3).symm.trans h
          refine lv_iconst (v := 0) hx hb dX9_open_29 (by decide) ?_
          refine lv_ior hx hb dX9_open_30 ?_
          refine lv_istore_n (lv' := [(2, .int (v2_h4 ||| 0)), (0, .ref q_s), (1, .int v1), (3, .int v3_h4)]) hx hb dX9_open_31 rfl hl (by decide) rfl (fun ls hl => ?_)
          refine lv_iinc (v := (v3_h4 + 1)) (lv' := [(3, .int (v3_h4 + 1)), (2, .int (v2_h4 ||| 0)), (0, .ref q_s), (1, .int v1)]) hx hb dX9_open_32 hl (k := 3) rfl rfl (by decide) rfl (fun ls hl => ?_)
          refine lv_goto (tgt := 4) hx hb dX9_open_35 (by decide) ?_
          exact ih (v2_h4 ||| 0) (v3_h4 + 1) _ (lv_sub hl [2, 3, 1, 0] rfl) h
        · have h := (if_neg c_3).symm.trans h
          refine lv_iconst (v := 1) hx hb dX9_open_23 (by decide) ?_
          refine lv_iload_n hx hb dX9_open_24 rfl (lv_at hl 3 rfl) ?_
          refine lv_ishl hx hb dX9_open_25 ?_
          refine lv_goto (tgt := 30) hx hb dX9_open_26 (by decide) ?_
          refine lv_ior hx hb dX9_open_30 ?_
          refine lv_istore_n (lv' := [(2, .int (v2_h4 ||| (1 <<< (v3_h4 &&& 31)))), (0, .ref q_s), (1, .int v1), (3, .int v3_h4)]) hx hb dX9_open_31 rfl hl (by decide) rfl (fun ls hl => ?_)
          refine lv_iinc (v := (v3_h4 + 1)) (lv' := [(3, .int (v3_h4 + 1)), (2, .int (v2_h4 ||| (1 <<< (v3_h4 &&& 31)))), (0, .ref q_s), (1, .int v1)]) hx hb dX9_open_32 hl (k := 3) rfl rfl (by decide) rfl (fun ls hl => ?_)
          refine lv_goto (tgt := 4) hx hb dX9_open_35 (by decide) ?_
          exact ih (v2_h4 ||| (1 <<< (v3_h4 &&& 31))) (v3_h4 + 1) _ (lv_sub hl [2, 3, 1, 0] rfl) h
  exact KL4 FU 0 0 _ (lv_sub hl [2, 3, 1, 0] rfl) h
def fX9_buy_J114 (s_isle : (Nat → Int32)) (r_6 : Int32) (v8_h55 : Int32) (r80 : Int32 → Int32 → Int32 → Option (Int32 × Int32)) (v9_h80 : Int32) (v10_h80 : Int32) (v11_h80 : Int32) (w0_j114 : Int32) : Option (Int32 × Int32) :=
  (if ((v8_h55 >>> (v11_h80 &&& 31)) &&& 1) = 1 then bd1 (fX9_priceBy s_isle r_6 v11_h80) (fun r_11 => (r80 (v9_h80 + w0_j114) (v10_h80 + r_11) (v11_h80 + 1))) else (r80 (v9_h80 + w0_j114) (v10_h80 + 0) (v11_h80 + 1)))
def fX9_buy_L80 (s_isle : (Nat → Int32)) (r_6 : Int32) (v8_h55 : Int32) (k80_154 : Int32 → Int32 → Option (Int32 × Int32)) : Nat → Int32 → Int32 → Int32 → Option (Int32 × Int32)
  | 0, _, _, _ => none
  | n + 1, v9_h80, v10_h80, v11_h80 => (if 15 ≤ v11_h80 then (k80_154 v9_h80 v10_h80) else (if ((v8_h55 >>> (v11_h80 &&& 31)) &&& 1) = 1 then chk (¬ ((6 + v11_h80) < 0 ∨ 51 ≤ (6 + v11_h80).toNatClampNeg)) ((fX9_buy_J114 s_isle r_6 v8_h55 (fX9_buy_L80 s_isle r_6 v8_h55 k80_154 n) v9_h80 v10_h80 v11_h80 (s_isle (6 + v11_h80).toNatClampNeg))) else (fX9_buy_J114 s_isle r_6 v8_h55 (fX9_buy_L80 s_isle r_6 v8_h55 k80_154 n) v9_h80 v10_h80 v11_h80 0)))
def fX9_buy_J222 (r55 : Int32 → Int32 → Int32 → Int32 → Option (Int32 × Int32)) (v7_h55 : Int32) (v8_h55 : Int32) (v10_e154 : Int32) (w0_j194 : Int32) (w0_j208 : Int32) (w0_j222 : Int32) : Option (Int32 × Int32) :=
  (if w0_j194 = 0 then (r55 w0_j208 w0_j222 v7_h55 (v8_h55 + 1)) else (r55 w0_j208 w0_j222 v10_e154 (v8_h55 + 1)))
def fX9_buy_J208 (r55 : Int32 → Int32 → Int32 → Int32 → Option (Int32 × Int32)) (v6_h55 : Int32) (v7_h55 : Int32) (v8_h55 : Int32) (v9_e154 : Int32) (v10_e154 : Int32) (w0_j194 : Int32) (w0_j208 : Int32) : Option (Int32 × Int32) :=
  (if w0_j194 = 0 then (fX9_buy_J222 r55 v7_h55 v8_h55 v10_e154 w0_j194 w0_j208 v6_h55) else (fX9_buy_J222 r55 v7_h55 v8_h55 v10_e154 w0_j194 w0_j208 v9_e154))
def fX9_buy_J194 (r55 : Int32 → Int32 → Int32 → Int32 → Option (Int32 × Int32)) (v5_h55 : Int32) (v6_h55 : Int32) (v7_h55 : Int32) (v8_h55 : Int32) (v9_e154 : Int32) (v10_e154 : Int32) (w0_j194 : Int32) : Option (Int32 × Int32) :=
  (if w0_j194 = 0 then (fX9_buy_J208 r55 v6_h55 v7_h55 v8_h55 v9_e154 v10_e154 w0_j194 v5_h55) else (fX9_buy_J208 r55 v6_h55 v7_h55 v8_h55 v9_e154 v10_e154 w0_j194 v8_h55))
def fX9_buy_L55 (s_isle : (Nat → Int32)) (v1 : Int32) (r_5 : Int32) (r_6 : Int32) (k55_244 : Int32 → Int32 → Option (Int32 × Int32)) : Nat → Int32 → Int32 → Int32 → Int32 → Option (Int32 × Int32)
  | 0, _, _, _, _ => none
  | n + 1, v5_h55, v6_h55, v7_h55, v8_h55 => (if 32768 ≤ v8_h55 then (k55_244 v5_h55 v6_h55) else (if (v8_h55 &&& (r_5 ^^^ (-1))) = 0 then (fX9_buy_L80 s_isle r_6 v8_h55 (fun v9_e154 v10_e154 => bd1 (fX9_of s_isle v1 1) (fun r_14 => (if r_14 < v10_e154 then (fX9_buy_J194 (fX9_buy_L55 s_isle v1 r_5 r_6 k55_244 n) v5_h55 v6_h55 v7_h55 v8_h55 v9_e154 v10_e154 0) else (if v6_h55 < v9_e154 then (fX9_buy_J194 (fX9_buy_L55 s_isle v1 r_5 r_6 k55_244 n) v5_h55 v6_h55 v7_h55 v8_h55 v9_e154 v10_e154 1) else (if v9_e154 = v6_h55 then (if v7_h55 ≤ v10_e154 then (fX9_buy_J194 (fX9_buy_L55 s_isle v1 r_5 r_6 k55_244 n) v5_h55 v6_h55 v7_h55 v8_h55 v9_e154 v10_e154 0) else (fX9_buy_J194 (fX9_buy_L55 s_isle v1 r_5 r_6 k55_244 n) v5_h55 v6_h55 v7_h55 v8_h55 v9_e154 v10_e154 1)) else (fX9_buy_J194 (fX9_buy_L55 s_isle v1 r_5 r_6 k55_244 n) v5_h55 v6_h55 v7_h55 v8_h55 v9_e154 v10_e154 0)))))) FU 0 0 0) else ((fX9_buy_L55 s_isle v1 r_5 r_6 k55_244 n) v5_h55 v6_h55 v7_h55 (v8_h55 + 1))))
def fX9_buy (s_isle : (Nat → Int32)) (v1 : Int32) (v2 : Int32) : Option (Int32 × Int32) :=
  bd1 (fX9_isBidder s_isle v1) (fun r_1 => (if r_1 = 0 then some ((-1000001), 0) else bd1 (fX9_in v2.toInt64 0 1) (fun r_3 => (if r_3 = 0 then some ((-1000001), 0) else bd1 (fX9_open s_isle v1) (fun r_5 => bd1 (fX9_of s_isle v1 0) (fun r_6 => (fX9_buy_L55 s_isle v1 r_5 r_6 (fun v5_e244 v6_e244 => (if v2 = 0 then some (v6_e244, 0) else some (v5_e244, 0))) FU 0 0 0 0)))))))
abbrev rmX9_buy : Room := { frames := 5, cells := 0, slots := 0, locals := 110 }
theorem ddX9_buy : yX9_buy.cls ≠ "java/lang/invoke/MethodHandle" ∧ yX9_buy.cls ≠ "java/lang/invoke/VarHandle" ∧ (parseMethodDescriptor yX9_buy.desc).map (fun d => d.parameters.length) = some 2 := by decide +kernel
set_option maxHeartbeats 4000000 in
set_option maxRecDepth 100000 in
theorem m_X9_buy (l : Launch) (dC : Nat → ClassId) (dI : Nat → Nat → Nat) (cI cZ : ClassId) (q_s q_s_lane q_s_many q_s_item q_s_isle q_s_fresh q_s_then q_s_was q_s_tape q_s_isKept q_s_kept q_s_trace : Nat) (s_thrown : Int32) (s_status : Int32) (s_lane : (Nat → Int32)) (s_many : (Nat → Int32)) (s_item : (Nat → Int32)) (s_isle : (Nat → Int32)) (s_fresh : (Nat → Int32)) (s_then : (Nat → Int32)) (s_was : (Nat → Int32)) (s_acts : Int32) (s_tape : (Nat → Int32)) (s_taped : Int32) (s_cursor : Int32) (s_start : Int32) (s_token : Int32) (s_value : Int32) (s_fault : Int32) (s_faultAt : Int32) (s_latest : Int32) (s_isKept : (Nat → Int32)) (s_kept : (Nat → Int32)) (s_trace : (Nat → Int32)) (s_traced : Int32) (v1 : Int32) (v2 : Int32) (sz : Nat) (res : Int32 × Int32) (hf : fX9_buy s_isle v1 v2 = some res) : Met l yX9_buy wsX9_buy rmX9_buy (mtPc (dC, dI) (tyZ cI cZ) ((W_M cI cZ q_s q_s_lane q_s_many q_s_item q_s_isle q_s_fresh q_s_then q_s_was q_s_tape q_s_isKept q_s_kept q_s_trace s_thrown s_status s_lane s_many s_item s_isle s_fresh s_then s_was s_acts s_tape s_taped s_cursor s_start s_token s_value s_fault s_faultAt s_latest s_isKept s_kept s_trace s_traced)) [.ref q_s, .int v1, .int v2] sz) (mtQi (dC, dI) (tyZ cI cZ) ((W_M cI cZ q_s q_s_lane q_s_many q_s_item q_s_isle q_s_fresh q_s_then q_s_was q_s_tape q_s_isKept q_s_kept q_s_trace s_thrown s_status s_lane s_many s_item s_isle s_fresh s_then s_was s_acts s_tape s_taped s_cursor s_start s_token s_value s_fault s_faultAt s_latest s_isKept s_kept s_trace s_traced)) ((W_M cI cZ q_s q_s_lane q_s_many q_s_item q_s_isle q_s_fresh q_s_then q_s_was q_s_tape q_s_isKept q_s_kept q_s_trace res.2 s_status s_lane s_many s_item s_isle s_fresh s_then s_was s_acts s_tape s_taped s_cursor s_start s_token s_value s_fault s_faultAt s_latest s_isKept s_kept s_trace s_traced)) res.1 sz) 0 0 (va_A ((W_M cI cZ q_s q_s_lane q_s_many q_s_item q_s_isle q_s_fresh q_s_then q_s_was q_s_tape q_s_isKept q_s_kept q_s_trace s_thrown s_status s_lane s_many s_item s_isle s_fresh s_then s_was s_acts s_tape s_taped s_cursor s_start s_token s_value s_fault s_faultAt s_latest s_isKept s_kept s_trace s_traced)) sz) := by
  refine Met.ofW (cc := cX9_buy) (maxL := 12) (ret := (some .int)) (by decide) rfl ?_
  intro p e s m args below meth c s₁ B hml hv
  obtain ⟨rfl, hsz, hP, hK, hD0⟩ := hv
  have hx := B.exec
  have hb := B.bytes
  have hr := B.returns
  have hts := atoms_spec (ws := wsX9_buy) B.pre
  have hown : s.vm.findClass RX9 = some m.cls := findClass_of_methodNamed B.named
  have hlocks := B.notSynchronized
  subst hsz
  have hD := hD0.self (sz := s.heap.size)
  obtain ⟨A, hAe⟩ : ∃ A, A = va_A ((W_M cI cZ q_s q_s_lane q_s_many q_s_item q_s_isle q_s_fresh q_s_then q_s_was q_s_tape q_s_isKept q_s_kept q_s_trace s_thrown s_status s_lane s_many s_item s_isle s_fresh s_then s_was s_acts s_tape s_taped s_cursor s_start s_token s_value s_fault s_faultAt s_latest s_isKept s_kept s_trace s_traced)) s.heap.size := ⟨_, rfl⟩
  rw [← hAe] at hD
  have hA : ∀ q : Nat, s.heap.size ≤ q → A q := fun q h => by rw [hAe]; exact Or.inr h
  have hS : va_S A s.heap s.heap [] := va_S.rf
  have hl := lv_entry ([.ref q_s, .int v1, .int v2]) (n := 12) (Nat.le_of_ble_eq_true rfl)
  rw [lg_entry_eq]
  generalize (lg_sl ([.ref q_s, .int v1, .int v2]) ++ List.replicate (12 - (lg_sl ([.ref q_s, .int v1, .int v2])).length) Slot.unset).toArray = ls at hl ⊢
  have hl : lv_has ls 12 [(0, .ref q_s), (1, .int v1), (2, .int v2)] := hl
  obtain ⟨QQ, hQQ⟩ : ∃ Q, Q = MQ below (mtQi (dC, dI) (tyZ cI cZ) ((W_M cI cZ q_s q_s_lane q_s_many q_s_item q_s_isle q_s_fresh q_s_then q_s_was q_s_tape q_s_isKept q_s_kept q_s_trace s_thrown s_status s_lane s_many s_item s_isle s_fresh s_then s_was s_acts s_tape s_taped s_cursor s_start s_token s_value s_fault s_faultAt s_latest s_isKept s_kept s_trace s_traced)) ((W_M cI cZ q_s q_s_lane q_s_many q_s_item q_s_isle q_s_fresh q_s_then q_s_was q_s_tape q_s_isKept q_s_kept q_s_trace res.2 s_status s_lane s_many s_item s_isle s_fresh s_then s_was s_acts s_tape s_taped s_cursor s_start s_token s_value s_fault s_faultAt s_latest s_isKept s_kept s_trace s_traced)) res.1 s.heap.size) ([.ref q_s, .int v1, .int v2] : List Value).toArray s 0 0 (va_A ((W_M cI cZ q_s q_s_lane q_s_many q_s_item q_s_isle q_s_fresh q_s_then q_s_was q_s_tape q_s_isKept q_s_kept q_s_trace s_thrown s_status s_lane s_many s_item s_isle s_fresh s_then s_was s_acts s_tape s_taped s_cursor s_start s_token s_value s_fault s_faultAt s_latest s_isKept s_kept s_trace s_traced)) s.heap.size) := ⟨_, rfl⟩
  rw [← hQQ]
  have w_0 := hts (Cond.fieldLink RX9 44 "TideInchesModel" "thrown" "I") (List.mem_of_getElem? (i := 1) rfl)
  have w_1 := (fun w hw => List.mem_cons_of_mem _ (List.mem_append_right _ hw) : ∀ w ∈ wsX90, w ∈ wsX9_buy)
  have w_2 := hts (Cond.constant RX9 64 (-1000001)) (List.mem_of_getElem? (i := 2) rfl)
  have w_3 := hts (Cond.fieldLink RX9 19 "TideInchesModel" "isle" "[I") (List.mem_of_getElem? (i := 3) rfl)
  have w_4 := hts (Cond.constant RX9 228 (32768)) (List.mem_of_getElem? (i := 4) rfl)
  have h := hf
  unfold fX9_buy at h
  refine lv_aload_n hx hb dX9_buy_0 rfl (lv_at hl 0 rfl) ?_
  refine lv_iconst (v := 0) hx hb dX9_buy_1 (by decide) ?_
  refine va_put (D := (dC, dI)) (ci := 7) (v := .int 0) (ty := .int) (C := RX9) (T := TX9) (N := 23) hx hb hts w_1 tyX9 tyX9_ok nmX9 hown hK hP hD hS 0 rfl rfl 0 (by decide) w_0 (fun _ h9 => h9) rfl (by decide +kernel) rfl rfl (Nat.le_of_ble_eq_true rfl) dX9_buy_2 (fun H locs hP hD hS => ?_)
  have hP : va_P (dC, dI) vwCl ((W_M cI cZ q_s q_s_lane q_s_many q_s_item q_s_isle q_s_fresh q_s_then q_s_was q_s_tape q_s_isKept q_s_kept q_s_trace 0 s_status s_lane s_many s_item s_isle s_fresh s_then s_was s_acts s_tape s_taped s_cursor s_start s_token s_value s_fault s_faultAt s_latest s_isKept s_kept s_trace s_traced)) H := hP
  have hD : va_D A ((W_M cI cZ q_s q_s_lane q_s_many q_s_item q_s_isle q_s_fresh q_s_then q_s_was q_s_tape q_s_isKept q_s_kept q_s_trace 0 s_status s_lane s_many s_item s_isle s_fresh s_then s_was s_acts s_tape s_taped s_cursor s_start s_token s_value s_fault s_faultAt s_latest s_isKept s_kept s_trace s_traced)) := hD
  refine lv_aload_n hx hb dX9_buy_5 rfl (lv_at hl 0 rfl) ?_
  refine lv_iload_n hx hb dX9_buy_6 rfl (lv_at hl 1 rfl) ?_
  obtain ⟨r_1, hc_1, h⟩ := bd1_of h
  refine cl_rV (As := [.int v1]) (rest := []) ⟨hx, hb, hml, hown, hts⟩ (m_X9_isBidder l dC dI cI cZ q_s q_s_lane q_s_many q_s_item q_s_isle q_s_fresh q_s_then q_s_was q_s_tape q_s_isKept q_s_kept q_s_trace 0 s_status s_lane s_many s_item s_isle s_fresh s_then s_was s_acts s_tape s_taped s_cursor s_start s_token s_value s_fault s_faultAt s_latest s_isKept s_kept s_trace s_traced v1 (r_1) hc_1) (cwV 1 hts gX9_buy_X9_isBidder rfl rfl rfl ⟨rfl, ddX9_isBidder⟩ ⟨Nat.le_of_ble_eq_true rfl, Nat.le_of_ble_eq_true rfl⟩) hK hP [0, 1, 2, 3, 4, 5, 6, 7, 8, 9, 10, 11] rfl rfl rfl rfl rfl hl.1 (Nat.le_of_ble_eq_true rfl) ⟨Nat.zero_le _, Nat.zero_le _⟩ dX9_buy_7 ?_
  refine lv_if_eq (tgt := 23) hx hb dX9_buy_10 (by decide) (fun c_2 => ?_) (fun c_2 => ?_)
  · have h := (if_pos c_2).symm.trans h
    refine lv_ldc hx hb hown w_2 dX9_buy_23 ?_
    have h := Option.some.inj h
    subst h
    rw [hQQ]
    subst hAe
    exact W.iret (v := (-1000001)) hx hb hr (fun t ht hW => ⟨⟨_, (), rfl, rfl, by rw [ht]; exact hP, va_K.moved hW.alike hK, hD⟩, hS.F ht⟩) hS.2.2 dX9_buy_25
  · have h := (if_neg c_2).symm.trans h
    refine lv_iload_n hx hb dX9_buy_13 rfl (lv_at hl 2 rfl) ?_
    refine lv_i2l hx hb dX9_buy_14 rfl ?_
    refine lv_lconst (v := 0) hx hb dX9_buy_15 (by decide) ?_
    refine lv_lconst (v := 1) hx hb dX9_buy_16 (by decide) ?_
    obtain ⟨r_3, hc_3, h⟩ := bd1_of h
    refine cl_pS (As := [.long v2.toInt64, .long 0, .long 1]) (rest := []) ⟨hx, hb, hml, hown, hts⟩ (m_X9_in l v2.toInt64 0 1 (r_3) hc_3) (va_cwS 3 hts gX9_buy_X9_in rfl rfl rfl ddX9_in ⟨Nat.le_of_ble_eq_true rfl, Nat.le_of_ble_eq_true rfl⟩) rfl rfl hl.1 (Nat.le_of_ble_eq_true rfl) ⟨Nat.zero_le _, Nat.zero_le _⟩ dX9_buy_17 ?_
    refine lv_if_ne (tgt := 26) hx hb dX9_buy_20 (by decide) (fun c_4 => ?_) (fun c_4 => ?_)
    · have h := (if_neg c_4).symm.trans h
      refine lv_aload_n hx hb dX9_buy_26 rfl (lv_at hl 0 rfl) ?_
      refine lv_iload_n hx hb dX9_buy_27 rfl (lv_at hl 1 rfl) ?_
      obtain ⟨r_5, hc_5, h⟩ := bd1_of h
      refine cl_rV (As := [.int v1]) (rest := []) ⟨hx, hb, hml, hown, hts⟩ (m_X9_open l dC dI cI cZ q_s q_s_lane q_s_many q_s_item q_s_isle q_s_fresh q_s_then q_s_was q_s_tape q_s_isKept q_s_kept q_s_trace 0 s_status s_lane s_many s_item s_isle s_fresh s_then s_was s_acts s_tape s_taped s_cursor s_start s_token s_value s_fault s_faultAt s_latest s_isKept s_kept s_trace s_traced v1 (r_5) hc_5) (cwV 1 hts gX9_buy_X9_open rfl rfl rfl ⟨rfl, ddX9_open⟩ ⟨Nat.le_of_ble_eq_true rfl, Nat.le_of_ble_eq_true rfl⟩) hK hP [0, 1, 2, 3, 4, 5, 6, 7, 8, 9, 10, 11] rfl rfl rfl rfl rfl hl.1 (Nat.le_of_ble_eq_true rfl) ⟨Nat.zero_le _, Nat.zero_le _⟩ dX9_buy_28 ?_
      refine lv_istore_n (lv' := [(3, .int r_5), (0, .ref q_s), (1, .int v1), (2, .int v2)]) hx hb dX9_buy_31 rfl hl (by decide) rfl (fun ls hl => ?_)
      refine lv_aload_n hx hb dX9_buy_32 rfl (lv_at hl 1 rfl) ?_
      refine va_get (D := (dC, dI)) (ci := 7) (v := .ref q_s_isle) (C := RX9) (T := TX9) (N := 23) hx hb hts w_1 hown hK hP 0 rfl rfl 5 (by decide) w_3 (fun _ h9 => h9) rfl dX9_buy_33 ?_
      refine lv_iload_n hx hb dX9_buy_36 rfl (lv_at hl 2 rfl) ?_
      refine lv_iconst (v := 0) hx hb dX9_buy_37 (by decide) ?_
      obtain ⟨r_6, hc_6, h⟩ := bd1_of h
      refine cl_rS (As := [.ref q_s_isle, .int v1, .int 0]) (rest := []) ⟨hx, hb, hml, hown, hts⟩ (m_X9_of l dC dI cI cZ q_s_isle s_isle v1 0 (r_6) hc_6) (va_cwS 3 hts gX9_buy_X9_of rfl rfl rfl ddX9_of ⟨Nat.le_of_ble_eq_true rfl, Nat.le_of_ble_eq_true rfl⟩) hK hP [4] rfl rfl rfl hl.1 (Nat.le_of_ble_eq_true rfl) ⟨Nat.zero_le _, Nat.zero_le _⟩ dX9_buy_38 ?_
      refine lv_istore (lv' := [(4, .int r_6), (3, .int r_5), (0, .ref q_s), (1, .int v1), (2, .int v2)]) hx hb dX9_buy_41 hl (by decide) rfl (fun ls hl => ?_)
      refine lv_iconst (v := 0) hx hb dX9_buy_43 (by decide) ?_
      refine lv_istore (lv' := [(5, .int 0), (4, .int r_6), (3, .int r_5), (0, .ref q_s), (1, .int v1), (2, .int v2)]) hx hb dX9_buy_44 hl (by decide) rfl (fun ls hl => ?_)
      refine lv_iconst (v := 0) hx hb dX9_buy_46 (by decide) ?_
      refine lv_istore (lv' := [(6, .int 0), (5, .int 0), (4, .int r_6), (3, .int r_5), (0, .ref q_s), (1, .int v1), (2, .int v2)]) hx hb dX9_buy_47 hl (by decide) rfl (fun ls hl => ?_)
      refine lv_iconst (v := 0) hx hb dX9_buy_49 (by decide) ?_
      refine lv_istore (lv' := [(7, .int 0), (6, .int 0), (5, .int 0), (4, .int r_6), (3, .int r_5), (0, .ref q_s), (1, .int v1), (2, .int v2)]) hx hb dX9_buy_50 hl (by decide) rfl (fun ls hl => ?_)
      refine lv_iconst (v := 0) hx hb dX9_buy_52 (by decide) ?_
      refine lv_istore (lv' := [(8, .int 0), (7, .int 0), (6, .int 0), (5, .int 0), (4, .int r_6), (3, .int r_5), (0, .ref q_s), (1, .int v1), (2, .int v2)]) hx hb dX9_buy_53 hl (by decide) rfl (fun ls hl => ?_)
      have KL55 : ∀ (k55_244 : Int32 → Int32 → Option (Int32 × Int32)) , (∀ (v5_e244 : Int32) (v6_e244 : Int32) (H : Heap) (locs : List Loc) (ls : Array Slot), va_P (dC, dI) vwCl ((W_M cI cZ q_s q_s_lane q_s_many q_s_item q_s_isle q_s_fresh q_s_then q_s_was q_s_tape q_s_isKept q_s_kept q_s_trace 0 s_status s_lane s_many s_item s_isle s_fresh s_then s_was s_acts s_tape s_taped s_cursor s_start s_token s_value s_fault s_faultAt s_latest s_isKept s_kept s_trace s_traced)) H → va_D A ((W_M cI cZ q_s q_s_lane q_s_many q_s_item q_s_isle q_s_fresh q_s_then q_s_was q_s_tape q_s_isKept q_s_kept q_s_trace 0 s_status s_lane s_many s_item s_isle s_fresh s_then s_was s_acts s_tape s_taped s_cursor s_start s_token s_value s_fault s_faultAt s_latest s_isKept s_kept s_trace s_traced)) → va_S A s.heap H locs → lv_has ls 12 [(2, .int v2), (5, .int v5_e244), (6, .int v6_e244)] → k55_244 v5_e244 v6_e244 = some res → W p l e (headSpec wsX9_buy rmX9_buy).room s m ([.ref q_s, .int v1, .int v2] : List Value).toArray below meth c H locs 0 0 QQ (F0 m 244 ls [])) → ∀ (n : Nat) (v5_h55 : Int32) (v6_h55 : Int32) (v7_h55 : Int32) (v8_h55 : Int32) (H : Heap) (locs : List Loc) (ls : Array Slot), va_P (dC, dI) vwCl ((W_M cI cZ q_s q_s_lane q_s_many q_s_item q_s_isle q_s_fresh q_s_then q_s_was q_s_tape q_s_isKept q_s_kept q_s_trace 0 s_status s_lane s_many s_item s_isle s_fresh s_then s_was s_acts s_tape s_taped s_cursor s_start s_token s_value s_fault s_faultAt s_latest s_isKept s_kept s_trace s_traced)) H → va_D A ((W_M cI cZ q_s q_s_lane q_s_many q_s_item q_s_isle q_s_fresh q_s_then q_s_was q_s_tape q_s_isKept q_s_kept q_s_trace 0 s_status s_lane s_many s_item s_isle s_fresh s_then s_was s_acts s_tape s_taped s_cursor s_start s_token s_value s_fault s_faultAt s_latest s_isKept s_kept s_trace s_traced)) → va_S A s.heap H locs → lv_has ls 12 [(0, .ref q_s), (1, .int v1), (2, .int v2), (3, .int r_5), (4, .int r_6), (5, .int v5_h55), (6, .int v6_h55), (7, .int v7_h55), (8, .int v8_h55)] → fX9_buy_L55 s_isle v1 r_5 r_6 k55_244 n v5_h55 v6_h55 v7_h55 v8_h55 = some res → W p l e (headSpec wsX9_buy rmX9_buy).room s m ([.ref q_s, .int v1, .int v2] : List Value).toArray below meth c H locs 0 0 QQ (F0 m 55 ls []) := by
        intro k55_244 Kk55_244 n
        induction n with
        | zero => intro v5_h55 v6_h55 v7_h55 v8_h55 H locs ls hP hD hS hl h; rw [fX9_buy_L55.eq_1] at h; cases h
        | succ n ih =>
          intro v5_h55 v6_h55 v7_h55 v8_h55 H locs ls hP hD hS hl h
          rw [fX9_buy_L55.eq_2] at h
          refine lv_iload hx hb dX9_buy_55 (lv_at hl 8 rfl) ?_
          refine lv_ldc hx hb hown w_4 dX9_buy_57 ?_
          refine lv_icmp_ge (tgt := 244) hx hb dX9_buy_59 (by decide) (fun c_7 => ?_) (fun c_7 => ?_)
          · have h := (if_pos c_7).symm.trans h
            exact Kk55_244 v5_h55 v6_h55 _ _ _ hP hD hS (lv_sub hl [2, 5, 6] rfl) h
          · have h := (if_neg c_7).symm.trans h
            refine lv_iload hx hb dX9_buy_62 (lv_at hl 8 rfl) ?_
            refine lv_iload_n hx hb dX9_buy_64 rfl (lv_at hl 3 rfl) ?_
            refine lv_iconst (v := (-1)) hx hb dX9_buy_65 (by decide) ?_
            refine lv_ixor hx hb dX9_buy_66 ?_
            refine lv_iand hx hb dX9_buy_67 ?_
            refine lv_if_ne (tgt := 238) hx hb dX9_buy_68 (by decide) (fun c_8 => ?_) (fun c_8 => ?_)
            · have h := (if_neg c_8).symm.trans h
              refine lv_iinc (v := (v8_h55 + 1)) (lv' := [(8, .int (v8_h55 + 1)), (0, .ref q_s), (1, .int v1), (2, .int v2), (3, .int r_5), (4, .int r_6), (5, .int v5_h55), (6, .int v6_h55), (7, .int v7_h55)]) hx hb dX9_buy_238 hl (k := 8) rfl rfl (by decide) rfl (fun ls hl => ?_)
              refine lv_goto (tgt := 55) hx hb dX9_buy_241 (by decide) ?_
              exact ih v5_h55 v6_h55 v7_h55 (v8_h55 + 1) _ _ _ hP hD hS (lv_sub hl [1, 2, 3, 4, 5, 6, 7, 8, 0] rfl) h
            · have h := (if_pos c_8).symm.trans h
              refine lv_iconst (v := 0) hx hb dX9_buy_71 (by decide) ?_
              refine lv_istore (lv' := [(9, .int 0), (0, .ref q_s), (1, .int v1), (2, .int v2), (3, .int r_5), (4, .int r_6), (5, .int v5_h55), (6, .int v6_h55), (7, .int v7_h55), (8, .int v8_h55)]) hx hb dX9_buy_72 hl (by decide) rfl (fun ls hl => ?_)
              refine lv_iconst (v := 0) hx hb dX9_buy_74 (by decide) ?_
              refine lv_istore (lv' := [(10, .int 0), (9, .int 0), (0, .ref q_s), (1, .int v1), (2, .int v2), (3, .int r_5), (4, .int r_6), (5, .int v5_h55), (6, .int v6_h55), (7, .int v7_h55), (8, .int v8_h55)]) hx hb dX9_buy_75 hl (by decide) rfl (fun ls hl => ?_)
              refine lv_iconst (v := 0) hx hb dX9_buy_77 (by decide) ?_
              refine lv_istore (lv' := [(11, .int 0), (10, .int 0), (9, .int 0), (0, .ref q_s), (1, .int v1), (2, .int v2), (3, .int r_5), (4, .int r_6), (5, .int v5_h55), (6, .int v6_h55), (7, .int v7_h55), (8, .int v8_h55)]) hx hb dX9_buy_78 hl (by decide) rfl (fun ls hl => ?_)
              have KL80 : ∀ (k80_154 : Int32 → Int32 → Option (Int32 × Int32)) , (∀ (v9_e154 : Int32) (v10_e154 : Int32) (H : Heap) (locs : List Loc) (ls : Array Slot), va_P (dC, dI) vwCl ((W_M cI cZ q_s q_s_lane q_s_many q_s_item q_s_isle q_s_fresh q_s_then q_s_was q_s_tape q_s_isKept q_s_kept q_s_trace 0 s_status s_lane s_many s_item s_isle s_fresh s_then s_was s_acts s_tape s_taped s_cursor s_start s_token s_value s_fault s_faultAt s_latest s_isKept s_kept s_trace s_traced)) H → va_D A ((W_M cI cZ q_s q_s_lane q_s_many q_s_item q_s_isle q_s_fresh q_s_then q_s_was q_s_tape q_s_isKept q_s_kept q_s_trace 0 s_status s_lane s_many s_item s_isle s_fresh s_then s_was s_acts s_tape s_taped s_cursor s_start s_token s_value s_fault s_faultAt s_latest s_isKept s_kept s_trace s_traced)) → va_S A s.heap H locs → lv_has ls 12 [(0, .ref q_s), (1, .int v1), (2, .int v2), (3, .int r_5), (4, .int r_6), (5, .int v5_h55), (6, .int v6_h55), (7, .int v7_h55), (8, .int v8_h55), (9, .int v9_e154), (10, .int v10_e154)] → k80_154 v9_e154 v10_e154 = some res → W p l e (headSpec wsX9_buy rmX9_buy).room s m ([.ref q_s, .int v1, .int v2] : List Value).toArray below meth c H locs 0 0 QQ (F0 m 154 ls [])) → ∀ (n : Nat) (v9_h80 : Int32) (v10_h80 : Int32) (v11_h80 : Int32) (H : Heap) (locs : List Loc) (ls : Array Slot), va_P (dC, dI) vwCl ((W_M cI cZ q_s q_s_lane q_s_many q_s_item q_s_isle q_s_fresh q_s_then q_s_was q_s_tape q_s_isKept q_s_kept q_s_trace 0 s_status s_lane s_many s_item s_isle s_fresh s_then s_was s_acts s_tape s_taped s_cursor s_start s_token s_value s_fault s_faultAt s_latest s_isKept s_kept s_trace s_traced)) H → va_D A ((W_M cI cZ q_s q_s_lane q_s_many q_s_item q_s_isle q_s_fresh q_s_then q_s_was q_s_tape q_s_isKept q_s_kept q_s_trace 0 s_status s_lane s_many s_item s_isle s_fresh s_then s_was s_acts s_tape s_taped s_cursor s_start s_token s_value s_fault s_faultAt s_latest s_isKept s_kept s_trace s_traced)) → va_S A s.heap H locs → lv_has ls 12 [(0, .ref q_s), (1, .int v1), (2, .int v2), (3, .int r_5), (4, .int r_6), (5, .int v5_h55), (6, .int v6_h55), (7, .int v7_h55), (8, .int v8_h55), (9, .int v9_h80), (10, .int v10_h80), (11, .int v11_h80)] → fX9_buy_L80 s_isle r_6 v8_h55 k80_154 n v9_h80 v10_h80 v11_h80 = some res → W p l e (headSpec wsX9_buy rmX9_buy).room s m ([.ref q_s, .int v1, .int v2] : List Value).toArray below meth c H locs 0 0 QQ (F0 m 80 ls []) := by
                intro k80_154 Kk80_154 n
                induction n with
                | zero => intro v9_h80 v10_h80 v11_h80 H locs ls hP hD hS hl h; rw [fX9_buy_L80.eq_1] at h; cases h
                | succ n ih =>
                  intro v9_h80 v10_h80 v11_h80 H locs ls hP hD hS hl h
                  rw [fX9_buy_L80.eq_2] at h
                  refine lv_iload hx hb dX9_buy_80 (lv_at hl 11 rfl) ?_
                  refine lv_bipush (v := 15) hx hb dX9_buy_82 (by decide) ?_
                  refine lv_icmp_ge (tgt := 154) hx hb dX9_buy_84 (by decide) (fun c_9 => ?_) (fun c_9 => ?_)
                  · have h := (if_pos c_9).symm.trans h
                    exact Kk80_154 v9_h80 v10_h80 _ _ _ hP hD hS (lv_sub hl [0, 1, 2, 3, 4, 5, 6, 7, 8, 9, 10] rfl) h
                  · have h := (if_neg c_9).symm.trans h
                    refine lv_iload hx hb dX9_buy_87 (lv_at hl 9 rfl) ?_
                    refine lv_iload hx hb dX9_buy_89 (lv_at hl 8 rfl) ?_
                    refine lv_iload hx hb dX9_buy_91 (lv_at hl 11 rfl) ?_
                    refine lv_ishr hx hb dX9_buy_93 ?_
                    refine lv_iconst (v := 1) hx hb dX9_buy_94 (by decide) ?_
                    refine lv_iand hx hb dX9_buy_95 ?_
                    refine lv_iconst (v := 1) hx hb dX9_buy_96 (by decide) ?_
                    have KJ114 : ∀ (w0_j114 : Int32) (H : Heap) (locs : List Loc) (ls : Array Slot), va_P (dC, dI) vwCl ((W_M cI cZ q_s q_s_lane q_s_many q_s_item q_s_isle q_s_fresh q_s_then q_s_was q_s_tape q_s_isKept q_s_kept q_s_trace 0 s_status s_lane s_many s_item s_isle s_fresh s_then s_was s_acts s_tape s_taped s_cursor s_start s_token s_value s_fault s_faultAt s_latest s_isKept s_kept s_trace s_traced)) H → va_D A ((W_M cI cZ q_s q_s_lane q_s_many q_s_item q_s_isle q_s_fresh q_s_then q_s_was q_s_tape q_s_isKept q_s_kept q_s_trace 0 s_status s_lane s_many s_item s_isle s_fresh s_then s_was s_acts s_tape s_taped s_cursor s_start s_token s_value s_fault s_faultAt s_latest s_isKept s_kept s_trace s_traced)) → va_S A s.heap H locs → lv_has ls 12 [(0, .ref q_s), (1, .int v1), (2, .int v2), (3, .int r_5), (4, .int r_6), (5, .int v5_h55), (6, .int v6_h55), (7, .int v7_h55), (8, .int v8_h55), (10, .int v10_h80), (11, .int v11_h80)] → fX9_buy_J114 s_isle r_6 v8_h55 (fX9_buy_L80 s_isle r_6 v8_h55 k80_154 n) v9_h80 v10_h80 v11_h80 w0_j114 = some res → W p l e (headSpec wsX9_buy rmX9_buy).room s m ([.ref q_s, .int v1, .int v2] : List Value).toArray below meth c H locs 0 0 QQ (F0 m 114 ls [.int w0_j114, .int v9_h80]) := by
                      intro w0_j114 H locs ls hP hD hS hl h
                      unfold fX9_buy_J114 at h
                      refine lv_iadd hx hb dX9_buy_114 ?_
                      refine lv_istore (lv' := [(9, .int (v9_h80 + w0_j114)), (0, .ref q_s), (1, .int v1), (2, .int v2), (3, .int r_5), (4, .int r_6), (5, .int v5_h55), (6, .int v6_h55), (7, .int v7_h55), (8, .int v8_h55), (10, .int v10_h80), (11, .int v11_h80)]) hx hb dX9_buy_115 hl (by decide) rfl (fun ls hl => ?_)
                      refine lv_iload hx hb dX9_buy_117 (lv_at hl 10 rfl) ?_
                      refine lv_iload hx hb dX9_buy_119 (lv_at hl 9 rfl) ?_
                      refine lv_iload hx hb dX9_buy_121 (lv_at hl 11 rfl) ?_
                      refine lv_ishr hx hb dX9_buy_123 ?_
                      refine lv_iconst (v := 1) hx hb dX9_buy_124 (by decide) ?_
                      refine lv_iand hx hb dX9_buy_125 ?_
                      refine lv_iconst (v := 1) hx hb dX9_buy_126 (by decide) ?_
                      refine lv_icmp_ne (tgt := 144) hx hb dX9_buy_127 (by decide) (fun c_10 => ?_) (fun c_10 => ?_)
                      · have h := (if_neg c_10).symm.trans h
                        refine lv_iconst (v := 0) hx hb dX9_buy_144 (by decide) ?_
                        refine lv_iadd hx hb dX9_buy_145 ?_
                        refine lv_istore (lv' := [(10, .int (v10_h80 + 0)), (9, .int (v9_h80 + w0_j114)), (0, .ref q_s), (1, .int v1), (2, .int v2), (3, .int r_5), (4, .int r_6), (5, .int v5_h55), (6, .int v6_h55), (7, .int v7_h55), (8, .int v8_h55), (11, .int v11_h80)]) hx hb dX9_buy_146 hl (by decide) rfl (fun ls hl => ?_)
                        refine lv_iinc (v := (v11_h80 + 1)) (lv' := [(11, .int (v11_h80 + 1)), (10, .int (v10_h80 + 0)), (9, .int (v9_h80 + w0_j114)), (0, .ref q_s), (1, .int v1), (2, .int v2), (3, .int r_5), (4, .int r_6), (5, .int v5_h55), (6, .int v6_h55), (7, .int v7_h55), (8, .int v8_h55)]) hx hb dX9_buy_148 hl (k := 11) rfl rfl (by decide) rfl (fun ls hl => ?_)
                        refine lv_goto (tgt := 80) hx hb dX9_buy_151 (by decide) ?_
                        exact ih (v9_h80 + w0_j114) (v10_h80 + 0) (v11_h80 + 1) _ _ _ hP hD hS (lv_sub hl [3, 4, 5, 6, 7, 8, 9, 10, 11, 2, 1, 0] rfl) h
                      · have h := (if_pos c_10).symm.trans h
                        refine lv_aload_n hx hb dX9_buy_130 rfl (lv_at hl 1 rfl) ?_
                        refine va_get (D := (dC, dI)) (ci := 7) (v := .ref q_s_isle) (C := RX9) (T := TX9) (N := 23) hx hb hts w_1 hown hK hP 0 rfl rfl 5 (by decide) w_3 (fun _ h9 => h9) rfl dX9_buy_131 ?_
                        refine lv_iload hx hb dX9_buy_134 (lv_at hl 5 rfl) ?_
                        refine lv_iload hx hb dX9_buy_136 (lv_at hl 11 rfl) ?_
                        obtain ⟨r_11, hc_11, h⟩ := bd1_of h
                        refine cl_rS (As := [.ref q_s_isle, .int r_6, .int v11_h80]) (rest := [.int v10_h80]) ⟨hx, hb, hml, hown, hts⟩ (m_X9_priceBy l dC dI cI cZ q_s_isle s_isle r_6 v11_h80 (r_11) hc_11) (va_cwS 3 hts gX9_buy_X9_priceBy rfl rfl rfl ddX9_priceBy ⟨Nat.le_of_ble_eq_true rfl, Nat.le_of_ble_eq_true rfl⟩) hK hP [4] rfl rfl rfl hl.1 (Nat.le_of_ble_eq_true rfl) ⟨Nat.zero_le _, Nat.zero_le _⟩ dX9_buy_138 ?_
                        refine lv_goto (tgt := 145) hx hb dX9_buy_141 (by decide) ?_
                        refine lv_iadd hx hb dX9_buy_145 ?_
                        refine lv_istore (lv' := [(10, .int (v10_h80 + r_11)), (9, .int (v9_h80 + w0_j114)), (0, .ref q_s), (1, .int v1), (2, .int v2), (3, .int r_5), (4, .int r_6), (5, .int v5_h55), (6, .int v6_h55), (7, .int v7_h55), (8, .int v8_h55), (11, .int v11_h80)]) hx hb dX9_buy_146 hl (by decide) rfl (fun ls hl => ?_)
                        refine lv_iinc (v := (v11_h80 + 1)) (lv' := [(11, .int (v11_h80 + 1)), (10, .int (v10_h80 + r_11)), (9, .int (v9_h80 + w0_j114)), (0, .ref q_s), (1, .int v1), (2, .int v2), (3, .int r_5), (4, .int r_6), (5, .int v5_h55), (6, .int v6_h55), (7, .int v7_h55), (8, .int v8_h55)]) hx hb dX9_buy_148 hl (k := 11) rfl rfl (by decide) rfl (fun ls hl => ?_)
                        refine lv_goto (tgt := 80) hx hb dX9_buy_151 (by decide) ?_
                        exact ih (v9_h80 + w0_j114) (v10_h80 + r_11) (v11_h80 + 1) _ _ _ hP hD hS (lv_sub hl [3, 4, 5, 6, 7, 8, 9, 10, 11, 2, 1, 0] rfl) h
                    refine lv_icmp_ne (tgt := 113) hx hb dX9_buy_97 (by decide) (fun c_12 => ?_) (fun c_12 => ?_)
                    · have h := (if_neg c_12).symm.trans h
                      refine lv_iconst (v := 0) hx hb dX9_buy_113 (by decide) ?_
                      exact KJ114 0 _ _ _ hP hD hS (lv_sub hl [0, 1, 2, 3, 4, 5, 6, 7, 8, 10, 11] rfl) h
                    · have h := (if_pos c_12).symm.trans h
                      refine lv_aload_n hx hb dX9_buy_100 rfl (lv_at hl 0 rfl) ?_
                      refine va_get (D := (dC, dI)) (ci := 7) (v := .ref q_s_isle) (C := RX9) (T := TX9) (N := 23) hx hb hts w_1 hown hK hP 0 rfl rfl 5 (by decide) w_3 (fun _ h9 => h9) rfl dX9_buy_101 ?_
                      refine lv_bipush (v := 6) hx hb dX9_buy_104 (by decide) ?_
                      refine lv_iload hx hb dX9_buy_106 (lv_at hl 11 rfl) ?_
                      refine lv_iadd hx hb dX9_buy_108 ?_
                      obtain ⟨b_13, h⟩ := chk_of h
                      refine va_iald hx hb hK hP 4 0 rfl rfl (i := (6 + v11_h80)) b_13 dX9_buy_109 ?_
                      refine lv_goto (tgt := 114) hx hb dX9_buy_110 (by decide) ?_
                      exact KJ114 (s_isle (6 + v11_h80).toNatClampNeg) _ _ _ hP hD hS (lv_sub hl [0, 1, 2, 3, 4, 5, 6, 7, 8, 10, 11] rfl) h
              refine KL80 _ (fun v9_e154 v10_e154 H locs ls hP hD hS hl h => ?_) FU 0 0 0 _ _ _ hP hD hS (lv_sub hl [3, 4, 5, 6, 7, 8, 9, 10, 11, 2, 1, 0] rfl) h
              refine lv_iload hx hb dX9_buy_154 (lv_at hl 10 rfl) ?_
              refine lv_aload_n hx hb dX9_buy_156 rfl (lv_at hl 0 rfl) ?_
              refine va_get (D := (dC, dI)) (ci := 7) (v := .ref q_s_isle) (C := RX9) (T := TX9) (N := 23) hx hb hts w_1 hown hK hP 0 rfl rfl 5 (by decide) w_3 (fun _ h9 => h9) rfl dX9_buy_157 ?_
              refine lv_iload_n hx hb dX9_buy_160 rfl (lv_at hl 1 rfl) ?_
              refine lv_iconst (v := 1) hx hb dX9_buy_161 (by decide) ?_
              obtain ⟨r_14, hc_14, h⟩ := bd1_of h
              refine cl_rS (As := [.ref q_s_isle, .int v1, .int 1]) (rest := [.int v10_e154]) ⟨hx, hb, hml, hown, hts⟩ (m_X9_of l dC dI cI cZ q_s_isle s_isle v1 1 (r_14) hc_14) (va_cwS 3 hts gX9_buy_X9_of rfl rfl rfl ddX9_of ⟨Nat.le_of_ble_eq_true rfl, Nat.le_of_ble_eq_true rfl⟩) hK hP [4] rfl rfl rfl hl.1 (Nat.le_of_ble_eq_true rfl) ⟨Nat.zero_le _, Nat.zero_le _⟩ dX9_buy_162 ?_
              have KJ194 : ∀ (w0_j194 : Int32) (H : Heap) (locs : List Loc) (ls : Array Slot), va_P (dC, dI) vwCl ((W_M cI cZ q_s q_s_lane q_s_many q_s_item q_s_isle q_s_fresh q_s_then q_s_was q_s_tape q_s_isKept q_s_kept q_s_trace 0 s_status s_lane s_many s_item s_isle s_fresh s_then s_was s_acts s_tape s_taped s_cursor s_start s_token s_value s_fault s_faultAt s_latest s_isKept s_kept s_trace s_traced)) H → va_D A ((W_M cI cZ q_s q_s_lane q_s_many q_s_item q_s_isle q_s_fresh q_s_then q_s_was q_s_tape q_s_isKept q_s_kept q_s_trace 0 s_status s_lane s_many s_item s_isle s_fresh s_then s_was s_acts s_tape s_taped s_cursor s_start s_token s_value s_fault s_faultAt s_latest s_isKept s_kept s_trace s_traced)) → va_S A s.heap H locs → lv_has ls 12 [(0, .ref q_s), (1, .int v1), (2, .int v2), (3, .int r_5), (4, .int r_6), (5, .int v5_h55), (6, .int v6_h55), (7, .int v7_h55), (8, .int v8_h55), (9, .int v9_e154), (10, .int v10_e154)] → fX9_buy_J194 (fX9_buy_L55 s_isle v1 r_5 r_6 k55_244 n) v5_h55 v6_h55 v7_h55 v8_h55 v9_e154 v10_e154 w0_j194 = some res → W p l e (headSpec wsX9_buy rmX9_buy).room s m ([.ref q_s, .int v1, .int v2] : List Value).toArray below meth c H locs 0 0 QQ (F0 m 194 ls [.int w0_j194]) := by
                intro w0_j194 H locs ls hP hD hS hl h
                unfold fX9_buy_J194 at h
                refine lv_istore (lv' := [(11, .int w0_j194), (0, .ref q_s), (1, .int v1), (2, .int v2), (3, .int r_5), (4, .int r_6), (5, .int v5_h55), (6, .int v6_h55), (7, .int v7_h55), (8, .int v8_h55), (9, .int v9_e154), (10, .int v10_e154)]) hx hb dX9_buy_194 hl (by decide) rfl (fun ls hl => ?_)
                refine lv_iload hx hb dX9_buy_196 (lv_at hl 0 rfl) ?_
                have KJ208 : ∀ (w0_j208 : Int32) (H : Heap) (locs : List Loc) (ls : Array Slot), va_P (dC, dI) vwCl ((W_M cI cZ q_s q_s_lane q_s_many q_s_item q_s_isle q_s_fresh q_s_then q_s_was q_s_tape q_s_isKept q_s_kept q_s_trace 0 s_status s_lane s_many s_item s_isle s_fresh s_then s_was s_acts s_tape s_taped s_cursor s_start s_token s_value s_fault s_faultAt s_latest s_isKept s_kept s_trace s_traced)) H → va_D A ((W_M cI cZ q_s q_s_lane q_s_many q_s_item q_s_isle q_s_fresh q_s_then q_s_was q_s_tape q_s_isKept q_s_kept q_s_trace 0 s_status s_lane s_many s_item s_isle s_fresh s_then s_was s_acts s_tape s_taped s_cursor s_start s_token s_value s_fault s_faultAt s_latest s_isKept s_kept s_trace s_traced)) → va_S A s.heap H locs → lv_has ls 12 [(0, .ref q_s), (1, .int v1), (2, .int v2), (3, .int r_5), (4, .int r_6), (6, .int v6_h55), (7, .int v7_h55), (8, .int v8_h55), (9, .int v9_e154), (10, .int v10_e154), (11, .int w0_j194)] → fX9_buy_J208 (fX9_buy_L55 s_isle v1 r_5 r_6 k55_244 n) v6_h55 v7_h55 v8_h55 v9_e154 v10_e154 w0_j194 w0_j208 = some res → W p l e (headSpec wsX9_buy rmX9_buy).room s m ([.ref q_s, .int v1, .int v2] : List Value).toArray below meth c H locs 0 0 QQ (F0 m 208 ls [.int w0_j208]) := by
                  intro w0_j208 H locs ls hP hD hS hl h
                  unfold fX9_buy_J208 at h
                  refine lv_istore (lv' := [(5, .int w0_j208), (0, .ref q_s), (1, .int v1), (2, .int v2), (3, .int r_5), (4, .int r_6), (6, .int v6_h55), (7, .int v7_h55), (8, .int v8_h55), (9, .int v9_e154), (10, .int v10_e154), (11, .int w0_j194)]) hx hb dX9_buy_208 hl (by decide) rfl (fun ls hl => ?_)
                  refine lv_iload hx hb dX9_buy_210 (lv_at hl 11 rfl) ?_
                  have KJ222 : ∀ (w0_j222 : Int32) (H : Heap) (locs : List Loc) (ls : Array Slot), va_P (dC, dI) vwCl ((W_M cI cZ q_s q_s_lane q_s_many q_s_item q_s_isle q_s_fresh q_s_then q_s_was q_s_tape q_s_isKept q_s_kept q_s_trace 0 s_status s_lane s_many s_item s_isle s_fresh s_then s_was s_acts s_tape s_taped s_cursor s_start s_token s_value s_fault s_faultAt s_latest s_isKept s_kept s_trace s_traced)) H → va_D A ((W_M cI cZ q_s q_s_lane q_s_many q_s_item q_s_isle q_s_fresh q_s_then q_s_was q_s_tape q_s_isKept q_s_kept q_s_trace 0 s_status s_lane s_many s_item s_isle s_fresh s_then s_was s_acts s_tape s_taped s_cursor s_start s_token s_value s_fault s_faultAt s_latest s_isKept s_kept s_trace s_traced)) → va_S A s.heap H locs → lv_has ls 12 [(0, .ref q_s), (1, .int v1), (2, .int v2), (3, .int r_5), (4, .int r_6), (5, .int w0_j208), (7, .int v7_h55), (8, .int v8_h55), (10, .int v10_e154), (11, .int w0_j194)] → fX9_buy_J222 (fX9_buy_L55 s_isle v1 r_5 r_6 k55_244 n) v7_h55 v8_h55 v10_e154 w0_j194 w0_j208 w0_j222 = some res → W p l e (headSpec wsX9_buy rmX9_buy).room s m ([.ref q_s, .int v1, .int v2] : List Value).toArray below meth c H locs 0 0 QQ (F0 m 222 ls [.int w0_j222]) := by
                    intro w0_j222 H locs ls hP hD hS hl h
                    unfold fX9_buy_J222 at h
                    refine lv_istore (lv' := [(6, .int w0_j222), (0, .ref q_s), (1, .int v1), (2, .int v2), (3, .int r_5), (4, .int r_6), (5, .int w0_j208), (7, .int v7_h55), (8, .int v8_h55), (10, .int v10_e154), (11, .int w0_j194)]) hx hb dX9_buy_222 hl (by decide) rfl (fun ls hl => ?_)
                    refine lv_iload hx hb dX9_buy_224 (lv_at hl 10 rfl) ?_
                    refine lv_if_eq (tgt := 234) hx hb dX9_buy_226 (by decide) (fun c_15 => ?_) (fun c_15 => ?_)
                    · have h := (if_pos c_15).symm.trans h
                      refine lv_iload hx hb dX9_buy_234 (lv_at hl 7 rfl) ?_
                      refine lv_istore (lv' := [(7, .int v7_h55), (6, .int w0_j222), (0, .ref q_s), (1, .int v1), (2, .int v2), (3, .int r_5), (4, .int r_6), (5, .int w0_j208), (8, .int v8_h55), (10, .int v10_e154), (11, .int w0_j194)]) hx hb dX9_buy_236 hl (by decide) rfl (fun ls hl => ?_)
                      refine lv_iinc (v := (v8_h55 + 1)) (lv' := [(8, .int (v8_h55 + 1)), (7, .int v7_h55), (6, .int w0_j222), (0, .ref q_s), (1, .int v1), (2, .int v2), (3, .int r_5), (4, .int r_6), (5, .int w0_j208), (10, .int v10_e154), (11, .int w0_j194)]) hx hb dX9_buy_238 hl (k := 8) rfl rfl (by decide) rfl (fun ls hl => ?_)
                      refine lv_goto (tgt := 55) hx hb dX9_buy_241 (by decide) ?_
                      exact ih w0_j208 w0_j222 v7_h55 (v8_h55 + 1) _ _ _ hP hD hS (lv_sub hl [3, 4, 5, 6, 7, 8, 2, 1, 0] rfl) h
                    · have h := (if_neg c_15).symm.trans h
                      refine lv_iload hx hb dX9_buy_229 (lv_at hl 9 rfl) ?_
                      refine lv_goto (tgt := 236) hx hb dX9_buy_231 (by decide) ?_
                      refine lv_istore (lv' := [(7, .int v10_e154), (6, .int w0_j222), (0, .ref q_s), (1, .int v1), (2, .int v2), (3, .int r_5), (4, .int r_6), (5, .int w0_j208), (8, .int v8_h55), (10, .int v10_e154), (11, .int w0_j194)]) hx hb dX9_buy_236 hl (by decide) rfl (fun ls hl => ?_)
                      refine lv_iinc (v := (v8_h55 + 1)) (lv' := [(8, .int (v8_h55 + 1)), (7, .int v10_e154), (6, .int w0_j222), (0, .ref q_s), (1, .int v1), (2, .int v2), (3, .int r_5), (4, .int r_6), (5, .int w0_j208), (10, .int v10_e154), (11, .int w0_j194)]) hx hb dX9_buy_238 hl (k := 8) rfl rfl (by decide) rfl (fun ls hl => ?_)
                      refine lv_goto (tgt := 55) hx hb dX9_buy_241 (by decide) ?_
                      exact ih w0_j208 w0_j222 v10_e154 (v8_h55 + 1) _ _ _ hP hD hS (lv_sub hl [3, 4, 5, 6, 7, 8, 2, 1, 0] rfl) h
                  refine lv_if_eq (tgt := 220) hx hb dX9_buy_212 (by decide) (fun c_16 => ?_) (fun c_16 => ?_)
                  · have h := (if_pos c_16).symm.trans h
                    refine lv_iload hx hb dX9_buy_220 (lv_at hl 6 rfl) ?_
                    exact KJ222 v6_h55 _ _ _ hP hD hS (lv_sub hl [1, 2, 3, 4, 5, 0, 7, 8, 10, 11] rfl) h
                  · have h := (if_neg c_16).symm.trans h
                    refine lv_iload hx hb dX9_buy_215 (lv_at hl 9 rfl) ?_
                    refine lv_goto (tgt := 222) hx hb dX9_buy_217 (by decide) ?_
                    exact KJ222 v9_e154 _ _ _ hP hD hS (lv_sub hl [1, 2, 3, 4, 5, 0, 7, 8, 10, 11] rfl) h
                refine lv_if_eq (tgt := 206) hx hb dX9_buy_198 (by decide) (fun c_17 => ?_) (fun c_17 => ?_)
                · have h := (if_pos c_17).symm.trans h
                  refine lv_iload hx hb dX9_buy_206 (lv_at hl 6 rfl) ?_
                  exact KJ208 v5_h55 _ _ _ hP hD hS (lv_sub hl [1, 2, 3, 4, 5, 7, 8, 9, 10, 11, 0] rfl) h
                · have h := (if_neg c_17).symm.trans h
                  refine lv_iload hx hb dX9_buy_201 (lv_at hl 9 rfl) ?_
                  refine lv_goto (tgt := 208) hx hb dX9_buy_203 (by decide) ?_
                  exact KJ208 v8_h55 _ _ _ hP hD hS (lv_sub hl [1, 2, 3, 4, 5, 7, 8, 9, 10, 11, 0] rfl) h
              refine lv_icmp_gt (tgt := 193) hx hb dX9_buy_165 (by decide) (fun c_18 => ?_) (fun c_18 => ?_)
              · have h := (if_pos c_18).symm.trans h
                refine lv_iconst (v := 0) hx hb dX9_buy_193 (by decide) ?_
                exact KJ194 0 _ _ _ hP hD hS (lv_sub hl [0, 1, 2, 3, 4, 5, 6, 7, 8, 9, 10] rfl) h
              · have h := (if_neg c_18).symm.trans h
                refine lv_iload hx hb dX9_buy_168 (lv_at hl 9 rfl) ?_
                refine lv_iload hx hb dX9_buy_170 (lv_at hl 6 rfl) ?_
                refine lv_icmp_gt (tgt := 189) hx hb dX9_buy_172 (by decide) (fun c_19 => ?_) (fun c_19 => ?_)
                · have h := (if_pos c_19).symm.trans h
                  refine lv_iconst (v := 1) hx hb dX9_buy_189 (by decide) ?_
                  refine lv_goto (tgt := 194) hx hb dX9_buy_190 (by decide) ?_
                  exact KJ194 1 _ _ _ hP hD hS (lv_sub hl [0, 1, 2, 3, 4, 5, 6, 7, 8, 9, 10] rfl) h
                · have h := (if_neg c_19).symm.trans h
                  refine lv_iload hx hb dX9_buy_175 (lv_at hl 9 rfl) ?_
                  refine lv_iload hx hb dX9_buy_177 (lv_at hl 6 rfl) ?_
                  refine lv_icmp_ne (tgt := 193) hx hb dX9_buy_179 (by decide) (fun c_20 => ?_) (fun c_20 => ?_)
                  · have h := (if_neg c_20).symm.trans h
                    refine lv_iconst (v := 0) hx hb dX9_buy_193 (by decide) ?_
                    exact KJ194 0 _ _ _ hP hD hS (lv_sub hl [0, 1, 2, 3, 4, 5, 6, 7, 8, 9, 10] rfl) h
                  · have h := (if_pos c_20).symm.trans h
                    refine lv_iload hx hb dX9_buy_182 (lv_at hl 10 rfl) ?_
                    refine lv_iload hx hb dX9_buy_184 (lv_at hl 7 rfl) ?_
                    refine lv_icmp_ge (tgt := 193) hx hb dX9_buy_186 (by decide) (fun c_21 => ?_) (fun c_21 => ?_)
                    · have h := (if_pos c_21).symm.trans h
                      refine lv_iconst (v := 0) hx hb dX9_buy_193 (by decide) ?_
                      exact KJ194 0 _ _ _ hP hD hS (lv_sub hl [0, 1, 2, 3, 4, 5, 6, 7, 8, 9, 10] rfl) h
                    · have h := (if_neg c_21).symm.trans h
                      refine lv_iconst (v := 1) hx hb dX9_buy_189 (by decide) ?_
                      refine lv_goto (tgt := 194) hx hb dX9_buy_190 (by decide) ?_
                      exact KJ194 1 _ _ _ hP hD hS (lv_sub hl [0, 1, 2, 3, 4, 5, 6, 7, 8, 9, 10] rfl) h
      refine KL55 _ (fun v5_e244 v6_e244 H locs ls hP hD hS hl h => ?_) FU 0 0 0 0 _ _ _ hP hD hS (lv_sub hl [6, 7, 8, 5, 4, 3, 2, 1, 0] rfl) h
      refine lv_iload_n hx hb dX9_buy_244 rfl (lv_at hl 0 rfl) ?_
      refine lv_if_ne (tgt := 253) hx hb dX9_buy_245 (by decide) (fun c_22 => ?_) (fun c_22 => ?_)
      · have h := (if_neg c_22).symm.trans h
        refine lv_iload hx hb dX9_buy_253 (lv_at hl 1 rfl) ?_
        have h := Option.some.inj h
        subst h
        rw [hQQ]
        subst hAe
        exact W.iret (v := v5_e244) hx hb hr (fun t ht hW => ⟨⟨_, (), rfl, rfl, by rw [ht]; exact hP, va_K.moved hW.alike hK, hD⟩, hS.F ht⟩) hS.2.2 dX9_buy_255
      · have h := (if_pos c_22).symm.trans h
        refine lv_iload hx hb dX9_buy_248 (lv_at hl 2 rfl) ?_
        refine lv_goto (tgt := 255) hx hb dX9_buy_250 (by decide) ?_
        have h := Option.some.inj h
        subst h
        rw [hQQ]
        subst hAe
        exact W.iret (v := v6_e244) hx hb hr (fun t ht hW => ⟨⟨_, (), rfl, rfl, by rw [ht]; exact hP, va_K.moved hW.alike hK, hD⟩, hS.F ht⟩) hS.2.2 dX9_buy_255
    · have h := (if_pos c_4).symm.trans h
      refine lv_ldc hx hb hown w_2 dX9_buy_23 ?_
      have h := Option.some.inj h
      subst h
      rw [hQQ]
      subst hAe
      exact W.iret (v := (-1000001)) hx hb hr (fun t ht hW => ⟨⟨_, (), rfl, rfl, by rw [ht]; exact hP, va_K.moved hW.alike hK, hD⟩, hS.F ht⟩) hS.2.2 dX9_buy_25
def fX9_harvest_L76 (r_7 : Int32) (s_then_10 : (Nat → Int32)) (k76_118 : Int32 → Option (Int32 × Int32 × (Nat → Int32))) : Nat → Int32 → Int32 → Option (Int32 × Int32 × (Nat → Int32))
  | 0, _, _ => none
  | n + 1, v5_h76, v7_h76 => (if 15 ≤ v7_h76 then (k76_118 v5_h76) else bd1 (fX9_isLostBy s_then_10 r_7 v7_h76) (fun r_12 => (if r_12 = 0 then ((fX9_harvest_L76 r_7 s_then_10 k76_118 n) (v5_h76 &&& (-1)) (v7_h76 + 1)) else ((fX9_harvest_L76 r_7 s_then_10 k76_118 n) (v5_h76 &&& ((1 <<< (v7_h76 &&& 31)) ^^^ (-1))) (v7_h76 + 1)))))
def fX9_harvest_L61 (s_isle : (Nat → Int32)) (v3 : Int32) (r_7 : Int32) (k61_124 : Int32 → (Nat → Int32) → Option (Int32 × Int32 × (Nat → Int32))) : Nat → Int32 → Int32 → (Nat → Int32) → Option (Int32 × Int32 × (Nat → Int32))
  | 0, _, _, _ => none
  | n + 1, v5_h61, v6_h61, s_then_h61 => (if v3 < v6_h61 then (k61_124 v5_h61 s_then_h61) else bd1 (fX9_layHour s_isle s_then_h61 v6_h61) (fun s_then_10 => (fX9_harvest_L76 r_7 s_then_10 (fun v5_e118 => ((fX9_harvest_L61 s_isle v3 r_7 k61_124 n) v5_e118 (v6_h61 + 1) s_then_10)) FU v5_h61 0)))
def fX9_harvest_J178 (s_isle : (Nat → Int32)) (r_7 : Int32) (r155 : Int32 → Int32 → Option (Int32 × Int32 × (Nat → Int32))) (v8_h155 : Int32) (v9_h155 : Int32) (w0_j178 : Int32) : Option (Int32 × Int32 × (Nat → Int32)) :=
  (if w0_j178 = 0 then (r155 v8_h155 (v9_h155 + 1)) else (if v8_h155 = (-1000000) then (r155 v9_h155 (v9_h155 + 1)) else bd1 (fX9_priceBy s_isle r_7 v9_h155) (fun r_20 => bd1 (fX9_priceBy s_isle r_7 v8_h155) (fun r_21 => (if r_21 ≤ r_20 then (r155 v8_h155 (v9_h155 + 1)) else (r155 v9_h155 (v9_h155 + 1)))))))
def fX9_harvest_L155 (s_isle : (Nat → Int32)) (r_7 : Int32) (v5_h142 : Int32) (k155_232 : Int32 → Option (Int32 × Int32 × (Nat → Int32))) : Nat → Int32 → Int32 → Option (Int32 × Int32 × (Nat → Int32))
  | 0, _, _ => none
  | n + 1, v8_h155, v9_h155 => (if 15 ≤ v9_h155 then (k155_232 v8_h155) else (if ((v5_h142 >>> (v9_h155 &&& 31)) &&& 1) = 1 then (fX9_harvest_J178 s_isle r_7 (fX9_harvest_L155 s_isle r_7 v5_h142 k155_232 n) v8_h155 v9_h155 1) else (fX9_harvest_J178 s_isle r_7 (fX9_harvest_L155 s_isle r_7 v5_h142 k155_232 n) v8_h155 v9_h155 0)))
def fX9_harvest_L142 (s_isle : (Nat → Int32)) (v2 : Int32) (r_7 : Int32) (s_then_e124 : (Nat → Int32)) : Nat → Int32 → Int32 → Int32 → Option (Int32 × Int32 × (Nat → Int32))
  | 0, _, _, _ => none
  | n + 1, v5_h142, v6_h142, v7_h142 => (if v2 ≤ v7_h142 then some (v6_h142, 0, s_then_e124) else (fX9_harvest_L155 s_isle r_7 v5_h142 (fun v8_e232 => bd1 (fX9_priceBy s_isle r_7 v8_e232) (fun r_24 => ((fX9_harvest_L142 s_isle v2 r_7 s_then_e124 n) (v5_h142 &&& ((1 <<< (v8_e232 &&& 31)) ^^^ (-1))) (v6_h142 + r_24) (v7_h142 + 1)))) FU (-1000000) 0))
def fX9_harvest (s_isle : (Nat → Int32)) (s_then : (Nat → Int32)) (v1 : Int32) (v2 : Int32) (v3 : Int32) : Option (Int32 × Int32 × (Nat → Int32)) :=
  bd1 (fX9_isBidder s_isle v1) (fun r_1 => (if r_1 = 0 then some ((-1000001), 0, s_then) else bd1 (fX9_in v2.toInt64 1 15) (fun r_3 => (if r_3 = 0 then some ((-1000001), 0, s_then) else bd1 (fX9_in v3.toInt64 1 12) (fun r_5 => (if r_5 = 0 then some ((-1000001), 0, s_then) else bd1 (fX9_of s_isle v1 0) (fun r_7 => bd1 (fX9_open s_isle v1) (fun r_8 => (fX9_harvest_L61 s_isle v3 r_7 (fun v5_e124 s_then_e124 => bd1 (fX9_bits v5_e124) (fun r_14 => (if v2 ≤ r_14 then (fX9_harvest_L142 s_isle v2 r_7 s_then_e124 FU v5_e124 0 0) else some ((-1000000), 0, s_then_e124)))) FU r_8 1 s_then)))))))))
abbrev rmX9_harvest : Room := { frames := 5, cells := 0, slots := 0, locals := 110 }
theorem ddX9_harvest : yX9_harvest.cls ≠ "java/lang/invoke/MethodHandle" ∧ yX9_harvest.cls ≠ "java/lang/invoke/VarHandle" ∧ (parseMethodDescriptor yX9_harvest.desc).map (fun d => d.parameters.length) = some 3 := by decide +kernel
set_option maxHeartbeats 4000000 in
set_option maxRecDepth 100000 in
theorem m_X9_harvest (l : Launch) (dC : Nat → ClassId) (dI : Nat → Nat → Nat) (cI cZ : ClassId) (q_s q_s_lane q_s_many q_s_item q_s_isle q_s_fresh q_s_then q_s_was q_s_tape q_s_isKept q_s_kept q_s_trace : Nat) (s_thrown : Int32) (s_status : Int32) (s_lane : (Nat → Int32)) (s_many : (Nat → Int32)) (s_item : (Nat → Int32)) (s_isle : (Nat → Int32)) (s_fresh : (Nat → Int32)) (s_then : (Nat → Int32)) (s_was : (Nat → Int32)) (s_acts : Int32) (s_tape : (Nat → Int32)) (s_taped : Int32) (s_cursor : Int32) (s_start : Int32) (s_token : Int32) (s_value : Int32) (s_fault : Int32) (s_faultAt : Int32) (s_latest : Int32) (s_isKept : (Nat → Int32)) (s_kept : (Nat → Int32)) (s_trace : (Nat → Int32)) (s_traced : Int32) (v1 : Int32) (v2 : Int32) (v3 : Int32) (sz : Nat) (res : Int32 × Int32 × (Nat → Int32)) (hf : fX9_harvest s_isle s_then v1 v2 v3 = some res) : Met l yX9_harvest wsX9_harvest rmX9_harvest (mtPc (dC, dI) (tyZ cI cZ) ((W_M cI cZ q_s q_s_lane q_s_many q_s_item q_s_isle q_s_fresh q_s_then q_s_was q_s_tape q_s_isKept q_s_kept q_s_trace s_thrown s_status s_lane s_many s_item s_isle s_fresh s_then s_was s_acts s_tape s_taped s_cursor s_start s_token s_value s_fault s_faultAt s_latest s_isKept s_kept s_trace s_traced)) [.ref q_s, .int v1, .int v2, .int v3] sz) (mtQi (dC, dI) (tyZ cI cZ) ((W_M cI cZ q_s q_s_lane q_s_many q_s_item q_s_isle q_s_fresh q_s_then q_s_was q_s_tape q_s_isKept q_s_kept q_s_trace s_thrown s_status s_lane s_many s_item s_isle s_fresh s_then s_was s_acts s_tape s_taped s_cursor s_start s_token s_value s_fault s_faultAt s_latest s_isKept s_kept s_trace s_traced)) ((W_M cI cZ q_s q_s_lane q_s_many q_s_item q_s_isle q_s_fresh q_s_then q_s_was q_s_tape q_s_isKept q_s_kept q_s_trace res.2.1 s_status s_lane s_many s_item s_isle s_fresh res.2.2 s_was s_acts s_tape s_taped s_cursor s_start s_token s_value s_fault s_faultAt s_latest s_isKept s_kept s_trace s_traced)) res.1 sz) 0 0 (va_A ((W_M cI cZ q_s q_s_lane q_s_many q_s_item q_s_isle q_s_fresh q_s_then q_s_was q_s_tape q_s_isKept q_s_kept q_s_trace s_thrown s_status s_lane s_many s_item s_isle s_fresh s_then s_was s_acts s_tape s_taped s_cursor s_start s_token s_value s_fault s_faultAt s_latest s_isKept s_kept s_trace s_traced)) sz) := by
  refine Met.ofW (cc := cX9_harvest) (maxL := 11) (ret := (some .int)) (by decide) rfl ?_
  intro p e s m args below meth c s₁ B hml hv
  obtain ⟨rfl, hsz, hP, hK, hD0⟩ := hv
  have hx := B.exec
  have hb := B.bytes
  have hr := B.returns
  have hts := atoms_spec (ws := wsX9_harvest) B.pre
  have hown : s.vm.findClass RX9 = some m.cls := findClass_of_methodNamed B.named
  have hlocks := B.notSynchronized
  subst hsz
  have hD := hD0.self (sz := s.heap.size)
  obtain ⟨A, hAe⟩ : ∃ A, A = va_A ((W_M cI cZ q_s q_s_lane q_s_many q_s_item q_s_isle q_s_fresh q_s_then q_s_was q_s_tape q_s_isKept q_s_kept q_s_trace s_thrown s_status s_lane s_many s_item s_isle s_fresh s_then s_was s_acts s_tape s_taped s_cursor s_start s_token s_value s_fault s_faultAt s_latest s_isKept s_kept s_trace s_traced)) s.heap.size := ⟨_, rfl⟩
  rw [← hAe] at hD
  have hA : ∀ q : Nat, s.heap.size ≤ q → A q := fun q h => by rw [hAe]; exact Or.inr h
  have hS : va_S A s.heap s.heap [] := va_S.rf
  have hl := lv_entry ([.ref q_s, .int v1, .int v2, .int v3]) (n := 11) (Nat.le_of_ble_eq_true rfl)
  rw [lg_entry_eq]
  generalize (lg_sl ([.ref q_s, .int v1, .int v2, .int v3]) ++ List.replicate (11 - (lg_sl ([.ref q_s, .int v1, .int v2, .int v3])).length) Slot.unset).toArray = ls at hl ⊢
  have hl : lv_has ls 11 [(0, .ref q_s), (1, .int v1), (2, .int v2), (3, .int v3)] := hl
  obtain ⟨QQ, hQQ⟩ : ∃ Q, Q = MQ below (mtQi (dC, dI) (tyZ cI cZ) ((W_M cI cZ q_s q_s_lane q_s_many q_s_item q_s_isle q_s_fresh q_s_then q_s_was q_s_tape q_s_isKept q_s_kept q_s_trace s_thrown s_status s_lane s_many s_item s_isle s_fresh s_then s_was s_acts s_tape s_taped s_cursor s_start s_token s_value s_fault s_faultAt s_latest s_isKept s_kept s_trace s_traced)) ((W_M cI cZ q_s q_s_lane q_s_many q_s_item q_s_isle q_s_fresh q_s_then q_s_was q_s_tape q_s_isKept q_s_kept q_s_trace res.2.1 s_status s_lane s_many s_item s_isle s_fresh res.2.2 s_was s_acts s_tape s_taped s_cursor s_start s_token s_value s_fault s_faultAt s_latest s_isKept s_kept s_trace s_traced)) res.1 s.heap.size) ([.ref q_s, .int v1, .int v2, .int v3] : List Value).toArray s 0 0 (va_A ((W_M cI cZ q_s q_s_lane q_s_many q_s_item q_s_isle q_s_fresh q_s_then q_s_was q_s_tape q_s_isKept q_s_kept q_s_trace s_thrown s_status s_lane s_many s_item s_isle s_fresh s_then s_was s_acts s_tape s_taped s_cursor s_start s_token s_value s_fault s_faultAt s_latest s_isKept s_kept s_trace s_traced)) s.heap.size) := ⟨_, rfl⟩
  rw [← hQQ]
  have w_0 := hts (Cond.fieldLink RX9 44 "TideInchesModel" "thrown" "I") (List.mem_of_getElem? (i := 1) rfl)
  have w_1 := (fun w hw => List.mem_cons_of_mem _ (List.mem_append_right _ hw) : ∀ w ∈ wsX90, w ∈ wsX9_harvest)
  have w_2 := hts (Cond.constant RX9 64 (-1000001)) (List.mem_of_getElem? (i := 4) rfl)
  have w_3 := hts (Cond.constantLong RX9 229 (15)) (List.mem_of_getElem? (i := 2) rfl)
  have w_4 := hts (Cond.constantLong RX9 231 (12)) (List.mem_of_getElem? (i := 3) rfl)
  have w_5 := hts (Cond.fieldLink RX9 19 "TideInchesModel" "isle" "[I") (List.mem_of_getElem? (i := 5) rfl)
  have w_6 := hts (Cond.fieldLink RX9 25 "TideInchesModel" "then" "[I") (List.mem_of_getElem? (i := 6) rfl)
  have w_7 := hts (Cond.constant RX9 87 (-1000000)) (List.mem_of_getElem? (i := 7) rfl)
  have h := hf
  unfold fX9_harvest at h
  refine lv_aload_n hx hb dX9_harvest_0 rfl (lv_at hl 0 rfl) ?_
  refine lv_iconst (v := 0) hx hb dX9_harvest_1 (by decide) ?_
  refine va_put (D := (dC, dI)) (ci := 7) (v := .int 0) (ty := .int) (C := RX9) (T := TX9) (N := 23) hx hb hts w_1 tyX9 tyX9_ok nmX9 hown hK hP hD hS 0 rfl rfl 0 (by decide) w_0 (fun _ h9 => h9) rfl (by decide +kernel) rfl rfl (Nat.le_of_ble_eq_true rfl) dX9_harvest_2 (fun H locs hP hD hS => ?_)
  have hP : va_P (dC, dI) vwCl ((W_M cI cZ q_s q_s_lane q_s_many q_s_item q_s_isle q_s_fresh q_s_then q_s_was q_s_tape q_s_isKept q_s_kept q_s_trace 0 s_status s_lane s_many s_item s_isle s_fresh s_then s_was s_acts s_tape s_taped s_cursor s_start s_token s_value s_fault s_faultAt s_latest s_isKept s_kept s_trace s_traced)) H := hP
  have hD : va_D A ((W_M cI cZ q_s q_s_lane q_s_many q_s_item q_s_isle q_s_fresh q_s_then q_s_was q_s_tape q_s_isKept q_s_kept q_s_trace 0 s_status s_lane s_many s_item s_isle s_fresh s_then s_was s_acts s_tape s_taped s_cursor s_start s_token s_value s_fault s_faultAt s_latest s_isKept s_kept s_trace s_traced)) := hD
  refine lv_aload_n hx hb dX9_harvest_5 rfl (lv_at hl 0 rfl) ?_
  refine lv_iload_n hx hb dX9_harvest_6 rfl (lv_at hl 1 rfl) ?_
  obtain ⟨r_1, hc_1, h⟩ := bd1_of h
  refine cl_rV (As := [.int v1]) (rest := []) ⟨hx, hb, hml, hown, hts⟩ (m_X9_isBidder l dC dI cI cZ q_s q_s_lane q_s_many q_s_item q_s_isle q_s_fresh q_s_then q_s_was q_s_tape q_s_isKept q_s_kept q_s_trace 0 s_status s_lane s_many s_item s_isle s_fresh s_then s_was s_acts s_tape s_taped s_cursor s_start s_token s_value s_fault s_faultAt s_latest s_isKept s_kept s_trace s_traced v1 (r_1) hc_1) (cwV 1 hts gX9_harvest_X9_isBidder rfl rfl rfl ⟨rfl, ddX9_isBidder⟩ ⟨Nat.le_of_ble_eq_true rfl, Nat.le_of_ble_eq_true rfl⟩) hK hP [0, 1, 2, 3, 4, 5, 6, 7, 8, 9, 10, 11] rfl rfl rfl rfl rfl hl.1 (Nat.le_of_ble_eq_true rfl) ⟨Nat.zero_le _, Nat.zero_le _⟩ dX9_harvest_7 ?_
  refine lv_if_eq (tgt := 37) hx hb dX9_harvest_10 (by decide) (fun c_2 => ?_) (fun c_2 => ?_)
  · have h := (if_pos c_2).symm.trans h
    refine lv_ldc hx hb hown w_2 dX9_harvest_37 ?_
    have h := Option.some.inj h
    subst h
    rw [hQQ]
    subst hAe
    exact W.iret (v := (-1000001)) hx hb hr (fun t ht hW => ⟨⟨_, (), rfl, rfl, by rw [ht]; exact hP, va_K.moved hW.alike hK, hD⟩, hS.F ht⟩) hS.2.2 dX9_harvest_39
  · have h := (if_neg c_2).symm.trans h
    refine lv_iload_n hx hb dX9_harvest_13 rfl (lv_at hl 2 rfl) ?_
    refine lv_i2l hx hb dX9_harvest_14 rfl ?_
    refine lv_lconst (v := 1) hx hb dX9_harvest_15 (by decide) ?_
    refine lv_ldc2 hx hb hown w_3 dX9_harvest_16 ?_
    obtain ⟨r_3, hc_3, h⟩ := bd1_of h
    refine cl_pS (As := [.long v2.toInt64, .long 1, .long 15]) (rest := []) ⟨hx, hb, hml, hown, hts⟩ (m_X9_in l v2.toInt64 1 15 (r_3) hc_3) (va_cwS 3 hts gX9_harvest_X9_in rfl rfl rfl ddX9_in ⟨Nat.le_of_ble_eq_true rfl, Nat.le_of_ble_eq_true rfl⟩) rfl rfl hl.1 (Nat.le_of_ble_eq_true rfl) ⟨Nat.zero_le _, Nat.zero_le _⟩ dX9_harvest_19 ?_
    refine lv_if_eq (tgt := 37) hx hb dX9_harvest_22 (by decide) (fun c_4 => ?_) (fun c_4 => ?_)
    · have h := (if_pos c_4).symm.trans h
      refine lv_ldc hx hb hown w_2 dX9_harvest_37 ?_
      have h := Option.some.inj h
      subst h
      rw [hQQ]
      subst hAe
      exact W.iret (v := (-1000001)) hx hb hr (fun t ht hW => ⟨⟨_, (), rfl, rfl, by rw [ht]; exact hP, va_K.moved hW.alike hK, hD⟩, hS.F ht⟩) hS.2.2 dX9_harvest_39
    · have h := (if_neg c_4).symm.trans h
      refine lv_iload_n hx hb dX9_harvest_25 rfl (lv_at hl 3 rfl) ?_
      refine lv_i2l hx hb dX9_harvest_26 rfl ?_
      refine lv_lconst (v := 1) hx hb dX9_harvest_27 (by decide) ?_
      refine lv_ldc2 hx hb hown w_4 dX9_harvest_28 ?_
      obtain ⟨r_5, hc_5, h⟩ := bd1_of h
      refine cl_pS (As := [.long v3.toInt64, .long 1, .long 12]) (rest := []) ⟨hx, hb, hml, hown, hts⟩ (m_X9_in l v3.toInt64 1 12 (r_5) hc_5) (va_cwS 3 hts gX9_harvest_X9_in rfl rfl rfl ddX9_in ⟨Nat.le_of_ble_eq_true rfl, Nat.le_of_ble_eq_true rfl⟩) rfl rfl hl.1 (Nat.le_of_ble_eq_true rfl) ⟨Nat.zero_le _, Nat.zero_le _⟩ dX9_harvest_31 ?_
      refine lv_if_ne (tgt := 40) hx hb dX9_harvest_34 (by decide) (fun c_6 => ?_) (fun c_6 => ?_)
      · have h := (if_neg c_6).symm.trans h
        refine lv_aload_n hx hb dX9_harvest_40 rfl (lv_at hl 0 rfl) ?_
        refine va_get (D := (dC, dI)) (ci := 7) (v := .ref q_s_isle) (C := RX9) (T := TX9) (N := 23) hx hb hts w_1 hown hK hP 0 rfl rfl 5 (by decide) w_5 (fun _ h9 => h9) rfl dX9_harvest_41 ?_
        refine lv_iload_n hx hb dX9_harvest_44 rfl (lv_at hl 1 rfl) ?_
        refine lv_iconst (v := 0) hx hb dX9_harvest_45 (by decide) ?_
        obtain ⟨r_7, hc_7, h⟩ := bd1_of h
        refine cl_rS (As := [.ref q_s_isle, .int v1, .int 0]) (rest := []) ⟨hx, hb, hml, hown, hts⟩ (m_X9_of l dC dI cI cZ q_s_isle s_isle v1 0 (r_7) hc_7) (va_cwS 3 hts gX9_harvest_X9_of rfl rfl rfl ddX9_of ⟨Nat.le_of_ble_eq_true rfl, Nat.le_of_ble_eq_true rfl⟩) hK hP [4] rfl rfl rfl hl.1 (Nat.le_of_ble_eq_true rfl) ⟨Nat.zero_le _, Nat.zero_le _⟩ dX9_harvest_46 ?_
        refine lv_istore (lv' := [(4, .int r_7), (0, .ref q_s), (1, .int v1), (2, .int v2), (3, .int v3)]) hx hb dX9_harvest_49 hl (by decide) rfl (fun ls hl => ?_)
        refine lv_aload_n hx hb dX9_harvest_51 rfl (lv_at hl 1 rfl) ?_
        refine lv_iload_n hx hb dX9_harvest_52 rfl (lv_at hl 2 rfl) ?_
        obtain ⟨r_8, hc_8, h⟩ := bd1_of h
        refine cl_rV (As := [.int v1]) (rest := []) ⟨hx, hb, hml, hown, hts⟩ (m_X9_open l dC dI cI cZ q_s q_s_lane q_s_many q_s_item q_s_isle q_s_fresh q_s_then q_s_was q_s_tape q_s_isKept q_s_kept q_s_trace 0 s_status s_lane s_many s_item s_isle s_fresh s_then s_was s_acts s_tape s_taped s_cursor s_start s_token s_value s_fault s_faultAt s_latest s_isKept s_kept s_trace s_traced v1 (r_8) hc_8) (cwV 1 hts gX9_harvest_X9_open rfl rfl rfl ⟨rfl, ddX9_open⟩ ⟨Nat.le_of_ble_eq_true rfl, Nat.le_of_ble_eq_true rfl⟩) hK hP [0, 1, 2, 3, 4, 5, 6, 7, 8, 9, 10, 11] rfl rfl rfl rfl rfl hl.1 (Nat.le_of_ble_eq_true rfl) ⟨Nat.zero_le _, Nat.zero_le _⟩ dX9_harvest_53 ?_
        refine lv_istore (lv' := [(5, .int r_8), (4, .int r_7), (0, .ref q_s), (1, .int v1), (2, .int v2), (3, .int v3)]) hx hb dX9_harvest_56 hl (by decide) rfl (fun ls hl => ?_)
        refine lv_iconst (v := 1) hx hb dX9_harvest_58 (by decide) ?_
        refine lv_istore (lv' := [(6, .int 1), (5, .int r_8), (4, .int r_7), (0, .ref q_s), (1, .int v1), (2, .int v2), (3, .int v3)]) hx hb dX9_harvest_59 hl (by decide) rfl (fun ls hl => ?_)
        have KL61 : ∀ (k61_124 : Int32 → (Nat → Int32) → Option (Int32 × Int32 × (Nat → Int32))) , (∀ (v5_e124 : Int32) (s_then_e124 : (Nat → Int32)) (H : Heap) (locs : List Loc) (ls : Array Slot), va_P (dC, dI) vwCl ((W_M cI cZ q_s q_s_lane q_s_many q_s_item q_s_isle q_s_fresh q_s_then q_s_was q_s_tape q_s_isKept q_s_kept q_s_trace 0 s_status s_lane s_many s_item s_isle s_fresh s_then_e124 s_was s_acts s_tape s_taped s_cursor s_start s_token s_value s_fault s_faultAt s_latest s_isKept s_kept s_trace s_traced)) H → va_D A ((W_M cI cZ q_s q_s_lane q_s_many q_s_item q_s_isle q_s_fresh q_s_then q_s_was q_s_tape q_s_isKept q_s_kept q_s_trace 0 s_status s_lane s_many s_item s_isle s_fresh s_then_e124 s_was s_acts s_tape s_taped s_cursor s_start s_token s_value s_fault s_faultAt s_latest s_isKept s_kept s_trace s_traced)) → va_S A s.heap H locs → lv_has ls 11 [(0, .ref q_s), (2, .int v2), (4, .int r_7), (5, .int v5_e124)] → k61_124 v5_e124 s_then_e124 = some res → W p l e (headSpec wsX9_harvest rmX9_harvest).room s m ([.ref q_s, .int v1, .int v2, .int v3] : List Value).toArray below meth c H locs 0 0 QQ (F0 m 124 ls [])) → ∀ (n : Nat) (v5_h61 : Int32) (v6_h61 : Int32) (s_then_h61 : (Nat → Int32)) (H : Heap) (locs : List Loc) (ls : Array Slot), va_P (dC, dI) vwCl ((W_M cI cZ q_s q_s_lane q_s_many q_s_item q_s_isle q_s_fresh q_s_then q_s_was q_s_tape q_s_isKept q_s_kept q_s_trace 0 s_status s_lane s_many s_item s_isle s_fresh s_then_h61 s_was s_acts s_tape s_taped s_cursor s_start s_token s_value s_fault s_faultAt s_latest s_isKept s_kept s_trace s_traced)) H → va_D A ((W_M cI cZ q_s q_s_lane q_s_many q_s_item q_s_isle q_s_fresh q_s_then q_s_was q_s_tape q_s_isKept q_s_kept q_s_trace 0 s_status s_lane s_many s_item s_isle s_fresh s_then_h61 s_was s_acts s_tape s_taped s_cursor s_start s_token s_value s_fault s_faultAt s_latest s_isKept s_kept s_trace s_traced)) → va_S A s.heap H locs → lv_has ls 11 [(0, .ref q_s), (2, .int v2), (3, .int v3), (4, .int r_7), (5, .int v5_h61), (6, .int v6_h61)] → fX9_harvest_L61 s_isle v3 r_7 k61_124 n v5_h61 v6_h61 s_then_h61 = some res → W p l e (headSpec wsX9_harvest rmX9_harvest).room s m ([.ref q_s, .int v1, .int v2, .int v3] : List Value).toArray below meth c H locs 0 0 QQ (F0 m 61 ls []) := by
          intro k61_124 Kk61_124 n
          induction n with
          | zero => intro v5_h61 v6_h61 s_then_h61 H locs ls hP hD hS hl h; rw [fX9_harvest_L61.eq_1] at h; cases h
          | succ n ih =>
            intro v5_h61 v6_h61 s_then_h61 H locs ls hP hD hS hl h
            rw [fX9_harvest_L61.eq_2] at h
            refine lv_iload hx hb dX9_harvest_61 (lv_at hl 5 rfl) ?_
            refine lv_iload_n hx hb dX9_harvest_63 rfl (lv_at hl 2 rfl) ?_
            refine lv_icmp_gt (tgt := 124) hx hb dX9_harvest_64 (by decide) (fun c_9 => ?_) (fun c_9 => ?_)
            · have h := (if_pos c_9).symm.trans h
              exact Kk61_124 v5_h61 s_then_h61 _ _ _ hP hD hS (lv_sub hl [0, 1, 3, 4] rfl) h
            · have h := (if_neg c_9).symm.trans h
              refine lv_aload_n hx hb dX9_harvest_67 rfl (lv_at hl 0 rfl) ?_
              refine lv_iload hx hb dX9_harvest_68 (lv_at hl 5 rfl) ?_
              obtain ⟨s_then_10, hc_10, h⟩ := bd1_of h
              refine cl_mVv (As := [.int v6_h61]) (rest := []) (ws' := (W_M cI cZ q_s q_s_lane q_s_many q_s_item q_s_isle q_s_fresh q_s_then q_s_was q_s_tape q_s_isKept q_s_kept q_s_trace 0 s_status s_lane s_many s_item s_isle s_fresh s_then_10 s_was s_acts s_tape s_taped s_cursor s_start s_token s_value s_fault s_faultAt s_latest s_isKept s_kept s_trace s_traced)) (wr := []) ⟨hx, hb, hml, hown, hts⟩ (m_X9_layHour l dC dI cI cZ q_s q_s_lane q_s_many q_s_item q_s_isle q_s_fresh q_s_then q_s_was q_s_tape q_s_isKept q_s_kept q_s_trace 0 s_status s_lane s_many s_item s_isle s_fresh s_then_h61 s_was s_acts s_tape s_taped s_cursor s_start s_token s_value s_fault s_faultAt s_latest s_isKept s_kept s_trace s_traced v6_h61 _ (s_then_10) hc_10) (cwV 1 hts gX9_harvest_X9_layHour rfl rfl rfl ⟨rfl, ddX9_layHour⟩ ⟨Nat.le_of_ble_eq_true rfl, Nat.le_of_ble_eq_true rfl⟩) hK hP hD hS hA [0, 1, 2, 3, 4, 5, 6, 7, 8, 9, 10, 11] [] rfl rfl rfl rfl (by decide) [0, 1, 2, 3, 4, 5, 6, 7, 8, 9, 10, 11] rfl rfl rfl rfl rfl rfl rfl hl.1 (Nat.le_of_ble_eq_true rfl) ⟨Nat.zero_le _, Nat.zero_le _⟩ dX9_harvest_70 (fun H locs hP hD hS => ?_)
              refine lv_iconst (v := 0) hx hb dX9_harvest_73 (by decide) ?_
              refine lv_istore (lv' := [(7, .int 0), (0, .ref q_s), (2, .int v2), (3, .int v3), (4, .int r_7), (5, .int v5_h61), (6, .int v6_h61)]) hx hb dX9_harvest_74 hl (by decide) rfl (fun ls hl => ?_)
              have KL76 : ∀ (k76_118 : Int32 → Option (Int32 × Int32 × (Nat → Int32))) , (∀ (v5_e118 : Int32) (H : Heap) (locs : List Loc) (ls : Array Slot), va_P (dC, dI) vwCl ((W_M cI cZ q_s q_s_lane q_s_many q_s_item q_s_isle q_s_fresh q_s_then q_s_was q_s_tape q_s_isKept q_s_kept q_s_trace 0 s_status s_lane s_many s_item s_isle s_fresh s_then_10 s_was s_acts s_tape s_taped s_cursor s_start s_token s_value s_fault s_faultAt s_latest s_isKept s_kept s_trace s_traced)) H → va_D A ((W_M cI cZ q_s q_s_lane q_s_many q_s_item q_s_isle q_s_fresh q_s_then q_s_was q_s_tape q_s_isKept q_s_kept q_s_trace 0 s_status s_lane s_many s_item s_isle s_fresh s_then_10 s_was s_acts s_tape s_taped s_cursor s_start s_token s_value s_fault s_faultAt s_latest s_isKept s_kept s_trace s_traced)) → va_S A s.heap H locs → lv_has ls 11 [(0, .ref q_s), (2, .int v2), (3, .int v3), (4, .int r_7), (5, .int v5_e118), (6, .int v6_h61)] → k76_118 v5_e118 = some res → W p l e (headSpec wsX9_harvest rmX9_harvest).room s m ([.ref q_s, .int v1, .int v2, .int v3] : List Value).toArray below meth c H locs 0 0 QQ (F0 m 118 ls [])) → ∀ (n : Nat) (v5_h76 : Int32) (v7_h76 : Int32) (H : Heap) (locs : List Loc) (ls : Array Slot), va_P (dC, dI) vwCl ((W_M cI cZ q_s q_s_lane q_s_many q_s_item q_s_isle q_s_fresh q_s_then q_s_was q_s_tape q_s_isKept q_s_kept q_s_trace 0 s_status s_lane s_many s_item s_isle s_fresh s_then_10 s_was s_acts s_tape s_taped s_cursor s_start s_token s_value s_fault s_faultAt s_latest s_isKept s_kept s_trace s_traced)) H → va_D A ((W_M cI cZ q_s q_s_lane q_s_many q_s_item q_s_isle q_s_fresh q_s_then q_s_was q_s_tape q_s_isKept q_s_kept q_s_trace 0 s_status s_lane s_many s_item s_isle s_fresh s_then_10 s_was s_acts s_tape s_taped s_cursor s_start s_token s_value s_fault s_faultAt s_latest s_isKept s_kept s_trace s_traced)) → va_S A s.heap H locs → lv_has ls 11 [(0, .ref q_s), (2, .int v2), (3, .int v3), (4, .int r_7), (5, .int v5_h76), (6, .int v6_h61), (7, .int v7_h76)] → fX9_harvest_L76 r_7 s_then_10 k76_118 n v5_h76 v7_h76 = some res → W p l e (headSpec wsX9_harvest rmX9_harvest).room s m ([.ref q_s, .int v1, .int v2, .int v3] : List Value).toArray below meth c H locs 0 0 QQ (F0 m 76 ls []) := by
                intro k76_118 Kk76_118 n
                induction n with
                | zero => intro v5_h76 v7_h76 H locs ls hP hD hS hl h; rw [fX9_harvest_L76.eq_1] at h; cases h
                | succ n ih =>
                  intro v5_h76 v7_h76 H locs ls hP hD hS hl h
                  rw [fX9_harvest_L76.eq_2] at h
                  refine lv_iload hx hb dX9_harvest_76 (lv_at hl 6 rfl) ?_
                  refine lv_bipush (v := 15) hx hb dX9_harvest_78 (by decide) ?_
                  refine lv_icmp_ge (tgt := 118) hx hb dX9_harvest_80 (by decide) (fun c_11 => ?_) (fun c_11 => ?_)
                  · have h := (if_pos c_11).symm.trans h
                    exact Kk76_118 v5_h76 _ _ _ hP hD hS (lv_sub hl [0, 1, 2, 3, 4, 5] rfl) h
                  · have h := (if_neg c_11).symm.trans h
                    refine lv_iload hx hb dX9_harvest_83 (lv_at hl 4 rfl) ?_
                    refine lv_aload_n hx hb dX9_harvest_85 rfl (lv_at hl 0 rfl) ?_
                    refine va_get (D := (dC, dI)) (ci := 7) (v := .ref q_s_then) (C := RX9) (T := TX9) (N := 23) hx hb hts w_1 hown hK hP 0 rfl rfl 7 (by decide) w_6 (fun _ h9 => h9) rfl dX9_harvest_86 ?_
                    refine lv_iload hx hb dX9_harvest_89 (lv_at hl 3 rfl) ?_
                    refine lv_iload hx hb dX9_harvest_91 (lv_at hl 6 rfl) ?_
                    obtain ⟨r_12, hc_12, h⟩ := bd1_of h
                    refine cl_rS (As := [.ref q_s_then, .int r_7, .int v7_h76]) (rest := [.int v5_h76]) ⟨hx, hb, hml, hown, hts⟩ (m_X9_isLostBy l dC dI cI cZ q_s_then s_then_10 r_7 v7_h76 (r_12) hc_12) (va_cwS 3 hts gX9_harvest_X9_isLostBy rfl rfl rfl ddX9_isLostBy ⟨Nat.le_of_ble_eq_true rfl, Nat.le_of_ble_eq_true rfl⟩) hK hP [6] rfl rfl rfl hl.1 (Nat.le_of_ble_eq_true rfl) ⟨Nat.zero_le _, Nat.zero_le _⟩ dX9_harvest_93 ?_
                    refine lv_if_eq (tgt := 108) hx hb dX9_harvest_96 (by decide) (fun c_13 => ?_) (fun c_13 => ?_)
                    · have h := (if_pos c_13).symm.trans h
                      refine lv_iconst (v := (-1)) hx hb dX9_harvest_108 (by decide) ?_
                      refine lv_iand hx hb dX9_harvest_109 ?_
                      refine lv_istore (lv' := [(5, .int (v5_h76 &&& (-1))), (0, .ref q_s), (2, .int v2), (3, .int v3), (4, .int r_7), (6, .int v6_h61), (7, .int v7_h76)]) hx hb dX9_harvest_110 hl (by decide) rfl (fun ls hl => ?_)
                      refine lv_iinc (v := (v7_h76 + 1)) (lv' := [(7, .int (v7_h76 + 1)), (5, .int (v5_h76 &&& (-1))), (0, .ref q_s), (2, .int v2), (3, .int v3), (4, .int r_7), (6, .int v6_h61)]) hx hb dX9_harvest_112 hl (k := 6) rfl rfl (by decide) rfl (fun ls hl => ?_)
                      refine lv_goto (tgt := 76) hx hb dX9_harvest_115 (by decide) ?_
                      exact ih (v5_h76 &&& (-1)) (v7_h76 + 1) _ _ _ hP hD hS (lv_sub hl [2, 3, 4, 5, 1, 6, 0] rfl) h
                    · have h := (if_neg c_13).symm.trans h
                      refine lv_iconst (v := 1) hx hb dX9_harvest_99 (by decide) ?_
                      refine lv_iload hx hb dX9_harvest_100 (lv_at hl 6 rfl) ?_
                      refine lv_ishl hx hb dX9_harvest_102 ?_
                      refine lv_iconst (v := (-1)) hx hb dX9_harvest_103 (by decide) ?_
                      refine lv_ixor hx hb dX9_harvest_104 ?_
                      refine lv_goto (tgt := 109) hx hb dX9_harvest_105 (by decide) ?_
                      refine lv_iand hx hb dX9_harvest_109 ?_
                      refine lv_istore (lv' := [(5, .int (v5_h76 &&& ((1 <<< (v7_h76 &&& 31)) ^^^ (-1)))), (0, .ref q_s), (2, .int v2), (3, .int v3), (4, .int r_7), (6, .int v6_h61), (7, .int v7_h76)]) hx hb dX9_harvest_110 hl (by decide) rfl (fun ls hl => ?_)
                      refine lv_iinc (v := (v7_h76 + 1)) (lv' := [(7, .int (v7_h76 + 1)), (5, .int (v5_h76 &&& ((1 <<< (v7_h76 &&& 31)) ^^^ (-1)))), (0, .ref q_s), (2, .int v2), (3, .int v3), (4, .int r_7), (6, .int v6_h61)]) hx hb dX9_harvest_112 hl (k := 6) rfl rfl (by decide) rfl (fun ls hl => ?_)
                      refine lv_goto (tgt := 76) hx hb dX9_harvest_115 (by decide) ?_
                      exact ih (v5_h76 &&& ((1 <<< (v7_h76 &&& 31)) ^^^ (-1))) (v7_h76 + 1) _ _ _ hP hD hS (lv_sub hl [2, 3, 4, 5, 1, 6, 0] rfl) h
              refine KL76 _ (fun v5_e118 H locs ls hP hD hS hl h => ?_) FU v5_h61 0 _ _ _ hP hD hS (lv_sub hl [1, 2, 3, 4, 5, 6, 0] rfl) h
              refine lv_iinc (v := (v6_h61 + 1)) (lv' := [(6, .int (v6_h61 + 1)), (0, .ref q_s), (2, .int v2), (3, .int v3), (4, .int r_7), (5, .int v5_e118)]) hx hb dX9_harvest_118 hl (k := 5) rfl rfl (by decide) rfl (fun ls hl => ?_)
              refine lv_goto (tgt := 61) hx hb dX9_harvest_121 (by decide) ?_
              exact ih v5_e118 (v6_h61 + 1) s_then_10 _ _ _ hP hD hS (lv_sub hl [1, 2, 3, 4, 5, 0] rfl) h
        refine KL61 _ (fun v5_e124 s_then_e124 H locs ls hP hD hS hl h => ?_) FU r_8 1 s_then _ _ _ hP hD hS (lv_sub hl [3, 5, 6, 2, 1, 0] rfl) h
        refine lv_iload hx hb dX9_harvest_124 (lv_at hl 3 rfl) ?_
        obtain ⟨r_14, hc_14, h⟩ := bd1_of h
        refine cl_pS (As := [.int v5_e124]) (rest := []) ⟨hx, hb, hml, hown, hts⟩ (m_X9_bits l v5_e124 (r_14) hc_14) (va_cwS 1 hts gX9_harvest_X9_bits rfl rfl rfl ddX9_bits ⟨Nat.le_of_ble_eq_true rfl, Nat.le_of_ble_eq_true rfl⟩) rfl rfl hl.1 (Nat.le_of_ble_eq_true rfl) ⟨Nat.zero_le _, Nat.zero_le _⟩ dX9_harvest_126 ?_
        refine lv_iload_n hx hb dX9_harvest_129 rfl (lv_at hl 1 rfl) ?_
        refine lv_icmp_ge (tgt := 136) hx hb dX9_harvest_130 (by decide) (fun c_15 => ?_) (fun c_15 => ?_)
        · have h := (if_pos c_15).symm.trans h
          refine lv_iconst (v := 0) hx hb dX9_harvest_136 (by decide) ?_
          refine lv_istore (lv' := [(6, .int 0), (0, .ref q_s), (2, .int v2), (4, .int r_7), (5, .int v5_e124)]) hx hb dX9_harvest_137 hl (by decide) rfl (fun ls hl => ?_)
          refine lv_iconst (v := 0) hx hb dX9_harvest_139 (by decide) ?_
          refine lv_istore (lv' := [(7, .int 0), (6, .int 0), (0, .ref q_s), (2, .int v2), (4, .int r_7), (5, .int v5_e124)]) hx hb dX9_harvest_140 hl (by decide) rfl (fun ls hl => ?_)
          have KL142 : ∀ (n : Nat) (v5_h142 : Int32) (v6_h142 : Int32) (v7_h142 : Int32) (H : Heap) (locs : List Loc) (ls : Array Slot), va_P (dC, dI) vwCl ((W_M cI cZ q_s q_s_lane q_s_many q_s_item q_s_isle q_s_fresh q_s_then q_s_was q_s_tape q_s_isKept q_s_kept q_s_trace 0 s_status s_lane s_many s_item s_isle s_fresh s_then_e124 s_was s_acts s_tape s_taped s_cursor s_start s_token s_value s_fault s_faultAt s_latest s_isKept s_kept s_trace s_traced)) H → va_D A ((W_M cI cZ q_s q_s_lane q_s_many q_s_item q_s_isle q_s_fresh q_s_then q_s_was q_s_tape q_s_isKept q_s_kept q_s_trace 0 s_status s_lane s_many s_item s_isle s_fresh s_then_e124 s_was s_acts s_tape s_taped s_cursor s_start s_token s_value s_fault s_faultAt s_latest s_isKept s_kept s_trace s_traced)) → va_S A s.heap H locs → lv_has ls 11 [(0, .ref q_s), (2, .int v2), (4, .int r_7), (5, .int v5_h142), (6, .int v6_h142), (7, .int v7_h142)] → fX9_harvest_L142 s_isle v2 r_7 s_then_e124 n v5_h142 v6_h142 v7_h142 = some res → W p l e (headSpec wsX9_harvest rmX9_harvest).room s m ([.ref q_s, .int v1, .int v2, .int v3] : List Value).toArray below meth c H locs 0 0 QQ (F0 m 142 ls []) := by
            intro  n
            induction n with
            | zero => intro v5_h142 v6_h142 v7_h142 H locs ls hP hD hS hl h; rw [fX9_harvest_L142.eq_1] at h; cases h
            | succ n ih =>
              intro v5_h142 v6_h142 v7_h142 H locs ls hP hD hS hl h
              rw [fX9_harvest_L142.eq_2] at h
              refine lv_iload hx hb dX9_harvest_142 (lv_at hl 5 rfl) ?_
              refine lv_iload_n hx hb dX9_harvest_144 rfl (lv_at hl 1 rfl) ?_
              refine lv_icmp_ge (tgt := 265) hx hb dX9_harvest_145 (by decide) (fun c_16 => ?_) (fun c_16 => ?_)
              · have h := (if_pos c_16).symm.trans h
                refine lv_iload hx hb dX9_harvest_265 (lv_at hl 4 rfl) ?_
                have h := Option.some.inj h
                subst h
                rw [hQQ]
                subst hAe
                exact W.iret (v := v6_h142) hx hb hr (fun t ht hW => ⟨⟨_, (), rfl, rfl, by rw [ht]; exact hP, va_K.moved hW.alike hK, hD⟩, hS.F ht⟩) hS.2.2 dX9_harvest_267
              · have h := (if_neg c_16).symm.trans h
                refine lv_ldc hx hb hown w_7 dX9_harvest_148 ?_
                refine lv_istore (lv' := [(8, .int (-1000000)), (0, .ref q_s), (2, .int v2), (4, .int r_7), (5, .int v5_h142), (6, .int v6_h142), (7, .int v7_h142)]) hx hb dX9_harvest_150 hl (by decide) rfl (fun ls hl => ?_)
                refine lv_iconst (v := 0) hx hb dX9_harvest_152 (by decide) ?_
                refine lv_istore (lv' := [(9, .int 0), (8, .int (-1000000)), (0, .ref q_s), (2, .int v2), (4, .int r_7), (5, .int v5_h142), (6, .int v6_h142), (7, .int v7_h142)]) hx hb dX9_harvest_153 hl (by decide) rfl (fun ls hl => ?_)
                have KL155 : ∀ (k155_232 : Int32 → Option (Int32 × Int32 × (Nat → Int32))) , (∀ (v8_e232 : Int32) (H : Heap) (locs : List Loc) (ls : Array Slot), va_P (dC, dI) vwCl ((W_M cI cZ q_s q_s_lane q_s_many q_s_item q_s_isle q_s_fresh q_s_then q_s_was q_s_tape q_s_isKept q_s_kept q_s_trace 0 s_status s_lane s_many s_item s_isle s_fresh s_then_e124 s_was s_acts s_tape s_taped s_cursor s_start s_token s_value s_fault s_faultAt s_latest s_isKept s_kept s_trace s_traced)) H → va_D A ((W_M cI cZ q_s q_s_lane q_s_many q_s_item q_s_isle q_s_fresh q_s_then q_s_was q_s_tape q_s_isKept q_s_kept q_s_trace 0 s_status s_lane s_many s_item s_isle s_fresh s_then_e124 s_was s_acts s_tape s_taped s_cursor s_start s_token s_value s_fault s_faultAt s_latest s_isKept s_kept s_trace s_traced)) → va_S A s.heap H locs → lv_has ls 11 [(0, .ref q_s), (2, .int v2), (4, .int r_7), (5, .int v5_h142), (6, .int v6_h142), (7, .int v7_h142), (8, .int v8_e232)] → k155_232 v8_e232 = some res → W p l e (headSpec wsX9_harvest rmX9_harvest).room s m ([.ref q_s, .int v1, .int v2, .int v3] : List Value).toArray below meth c H locs 0 0 QQ (F0 m 232 ls [])) → ∀ (n : Nat) (v8_h155 : Int32) (v9_h155 : Int32) (H : Heap) (locs : List Loc) (ls : Array Slot), va_P (dC, dI) vwCl ((W_M cI cZ q_s q_s_lane q_s_many q_s_item q_s_isle q_s_fresh q_s_then q_s_was q_s_tape q_s_isKept q_s_kept q_s_trace 0 s_status s_lane s_many s_item s_isle s_fresh s_then_e124 s_was s_acts s_tape s_taped s_cursor s_start s_token s_value s_fault s_faultAt s_latest s_isKept s_kept s_trace s_traced)) H → va_D A ((W_M cI cZ q_s q_s_lane q_s_many q_s_item q_s_isle q_s_fresh q_s_then q_s_was q_s_tape q_s_isKept q_s_kept q_s_trace 0 s_status s_lane s_many s_item s_isle s_fresh s_then_e124 s_was s_acts s_tape s_taped s_cursor s_start s_token s_value s_fault s_faultAt s_latest s_isKept s_kept s_trace s_traced)) → va_S A s.heap H locs → lv_has ls 11 [(0, .ref q_s), (2, .int v2), (4, .int r_7), (5, .int v5_h142), (6, .int v6_h142), (7, .int v7_h142), (8, .int v8_h155), (9, .int v9_h155)] → fX9_harvest_L155 s_isle r_7 v5_h142 k155_232 n v8_h155 v9_h155 = some res → W p l e (headSpec wsX9_harvest rmX9_harvest).room s m ([.ref q_s, .int v1, .int v2, .int v3] : List Value).toArray below meth c H locs 0 0 QQ (F0 m 155 ls []) := by
                  intro k155_232 Kk155_232 n
                  induction n with
                  | zero => intro v8_h155 v9_h155 H locs ls hP hD hS hl h; rw [fX9_harvest_L155.eq_1] at h; cases h
                  | succ n ih =>
                    intro v8_h155 v9_h155 H locs ls hP hD hS hl h
                    rw [fX9_harvest_L155.eq_2] at h
                    refine lv_iload hx hb dX9_harvest_155 (lv_at hl 7 rfl) ?_
                    refine lv_bipush (v := 15) hx hb dX9_harvest_157 (by decide) ?_
                    refine lv_icmp_ge (tgt := 232) hx hb dX9_harvest_159 (by decide) (fun c_17 => ?_) (fun c_17 => ?_)
                    · have h := (if_pos c_17).symm.trans h
                      exact Kk155_232 v8_h155 _ _ _ hP hD hS (lv_sub hl [0, 1, 2, 3, 4, 5, 6] rfl) h
                    · have h := (if_neg c_17).symm.trans h
                      refine lv_iload hx hb dX9_harvest_162 (lv_at hl 3 rfl) ?_
                      refine lv_iload hx hb dX9_harvest_164 (lv_at hl 7 rfl) ?_
                      refine lv_ishr hx hb dX9_harvest_166 ?_
                      refine lv_iconst (v := 1) hx hb dX9_harvest_167 (by decide) ?_
                      refine lv_iand hx hb dX9_harvest_168 ?_
                      refine lv_iconst (v := 1) hx hb dX9_harvest_169 (by decide) ?_
                      have KJ178 : ∀ (w0_j178 : Int32) (H : Heap) (locs : List Loc) (ls : Array Slot), va_P (dC, dI) vwCl ((W_M cI cZ q_s q_s_lane q_s_many q_s_item q_s_isle q_s_fresh q_s_then q_s_was q_s_tape q_s_isKept q_s_kept q_s_trace 0 s_status s_lane s_many s_item s_isle s_fresh s_then_e124 s_was s_acts s_tape s_taped s_cursor s_start s_token s_value s_fault s_faultAt s_latest s_isKept s_kept s_trace s_traced)) H → va_D A ((W_M cI cZ q_s q_s_lane q_s_many q_s_item q_s_isle q_s_fresh q_s_then q_s_was q_s_tape q_s_isKept q_s_kept q_s_trace 0 s_status s_lane s_many s_item s_isle s_fresh s_then_e124 s_was s_acts s_tape s_taped s_cursor s_start s_token s_value s_fault s_faultAt s_latest s_isKept s_kept s_trace s_traced)) → va_S A s.heap H locs → lv_has ls 11 [(0, .ref q_s), (2, .int v2), (4, .int r_7), (5, .int v5_h142), (6, .int v6_h142), (7, .int v7_h142), (8, .int v8_h155), (9, .int v9_h155)] → fX9_harvest_J178 s_isle r_7 (fX9_harvest_L155 s_isle r_7 v5_h142 k155_232 n) v8_h155 v9_h155 w0_j178 = some res → W p l e (headSpec wsX9_harvest rmX9_harvest).room s m ([.ref q_s, .int v1, .int v2, .int v3] : List Value).toArray below meth c H locs 0 0 QQ (F0 m 178 ls [.int w0_j178]) := by
                        intro w0_j178 H locs ls hP hD hS hl h
                        unfold fX9_harvest_J178 at h
                        refine lv_istore (lv' := [(10, .int w0_j178), (0, .ref q_s), (2, .int v2), (4, .int r_7), (5, .int v5_h142), (6, .int v6_h142), (7, .int v7_h142), (8, .int v8_h155), (9, .int v9_h155)]) hx hb dX9_harvest_178 hl (by decide) rfl (fun ls hl => ?_)
                        refine lv_iload hx hb dX9_harvest_180 (lv_at hl 0 rfl) ?_
                        refine lv_if_eq (tgt := 222) hx hb dX9_harvest_182 (by decide) (fun c_18 => ?_) (fun c_18 => ?_)
                        · have h := (if_pos c_18).symm.trans h
                          refine lv_iload hx hb dX9_harvest_222 (lv_at hl 7 rfl) ?_
                          refine lv_istore (lv' := [(8, .int v8_h155), (10, .int w0_j178), (0, .ref q_s), (2, .int v2), (4, .int r_7), (5, .int v5_h142), (6, .int v6_h142), (7, .int v7_h142), (9, .int v9_h155)]) hx hb dX9_harvest_224 hl (by decide) rfl (fun ls hl => ?_)
                          refine lv_iinc (v := (v9_h155 + 1)) (lv' := [(9, .int (v9_h155 + 1)), (8, .int v8_h155), (10, .int w0_j178), (0, .ref q_s), (2, .int v2), (4, .int r_7), (5, .int v5_h142), (6, .int v6_h142), (7, .int v7_h142)]) hx hb dX9_harvest_226 hl (k := 8) rfl rfl (by decide) rfl (fun ls hl => ?_)
                          refine lv_goto (tgt := 155) hx hb dX9_harvest_229 (by decide) ?_
                          exact ih v8_h155 (v9_h155 + 1) _ _ _ hP hD hS (lv_sub hl [3, 4, 5, 6, 7, 8, 1, 0] rfl) h
                        · have h := (if_neg c_18).symm.trans h
                          refine lv_iload hx hb dX9_harvest_185 (lv_at hl 7 rfl) ?_
                          refine lv_ldc hx hb hown w_7 dX9_harvest_187 ?_
                          refine lv_icmp_eq (tgt := 217) hx hb dX9_harvest_189 (by decide) (fun c_19 => ?_) (fun c_19 => ?_)
                          · have h := (if_pos c_19).symm.trans h
                            refine lv_iload hx hb dX9_harvest_217 (lv_at hl 8 rfl) ?_
                            refine lv_goto (tgt := 224) hx hb dX9_harvest_219 (by decide) ?_
                            refine lv_istore (lv' := [(8, .int v9_h155), (10, .int w0_j178), (0, .ref q_s), (2, .int v2), (4, .int r_7), (5, .int v5_h142), (6, .int v6_h142), (7, .int v7_h142), (9, .int v9_h155)]) hx hb dX9_harvest_224 hl (by decide) rfl (fun ls hl => ?_)
                            refine lv_iinc (v := (v9_h155 + 1)) (lv' := [(9, .int (v9_h155 + 1)), (8, .int v9_h155), (10, .int w0_j178), (0, .ref q_s), (2, .int v2), (4, .int r_7), (5, .int v5_h142), (6, .int v6_h142), (7, .int v7_h142)]) hx hb dX9_harvest_226 hl (k := 8) rfl rfl (by decide) rfl (fun ls hl => ?_)
                            refine lv_goto (tgt := 155) hx hb dX9_harvest_229 (by decide) ?_
                            exact ih v9_h155 (v9_h155 + 1) _ _ _ hP hD hS (lv_sub hl [3, 4, 5, 6, 7, 8, 1, 0] rfl) h
                          · have h := (if_neg c_19).symm.trans h
                            refine lv_aload_n hx hb dX9_harvest_192 rfl (lv_at hl 1 rfl) ?_
                            refine va_get (D := (dC, dI)) (ci := 7) (v := .ref q_s_isle) (C := RX9) (T := TX9) (N := 23) hx hb hts w_1 hown hK hP 0 rfl rfl 5 (by decide) w_5 (fun _ h9 => h9) rfl dX9_harvest_193 ?_
                            refine lv_iload hx hb dX9_harvest_196 (lv_at hl 3 rfl) ?_
                            refine lv_iload hx hb dX9_harvest_198 (lv_at hl 8 rfl) ?_
                            obtain ⟨r_20, hc_20, h⟩ := bd1_of h
                            refine cl_rS (As := [.ref q_s_isle, .int r_7, .int v9_h155]) (rest := []) ⟨hx, hb, hml, hown, hts⟩ (m_X9_priceBy l dC dI cI cZ q_s_isle s_isle r_7 v9_h155 (r_20) hc_20) (va_cwS 3 hts gX9_harvest_X9_priceBy rfl rfl rfl ddX9_priceBy ⟨Nat.le_of_ble_eq_true rfl, Nat.le_of_ble_eq_true rfl⟩) hK hP [4] rfl rfl rfl hl.1 (Nat.le_of_ble_eq_true rfl) ⟨Nat.zero_le _, Nat.zero_le _⟩ dX9_harvest_200 ?_
                            refine lv_aload_n hx hb dX9_harvest_203 rfl (lv_at hl 1 rfl) ?_
                            refine va_get (D := (dC, dI)) (ci := 7) (v := .ref q_s_isle) (C := RX9) (T := TX9) (N := 23) hx hb hts w_1 hown hK hP 0 rfl rfl 5 (by decide) w_5 (fun _ h9 => h9) rfl dX9_harvest_204 ?_
                            refine lv_iload hx hb dX9_harvest_207 (lv_at hl 3 rfl) ?_
                            refine lv_iload hx hb dX9_harvest_209 (lv_at hl 7 rfl) ?_
                            obtain ⟨r_21, hc_21, h⟩ := bd1_of h
                            refine cl_rS (As := [.ref q_s_isle, .int r_7, .int v8_h155]) (rest := [.int r_20]) ⟨hx, hb, hml, hown, hts⟩ (m_X9_priceBy l dC dI cI cZ q_s_isle s_isle r_7 v8_h155 (r_21) hc_21) (va_cwS 3 hts gX9_harvest_X9_priceBy rfl rfl rfl ddX9_priceBy ⟨Nat.le_of_ble_eq_true rfl, Nat.le_of_ble_eq_true rfl⟩) hK hP [4] rfl rfl rfl hl.1 (Nat.le_of_ble_eq_true rfl) ⟨Nat.zero_le _, Nat.zero_le _⟩ dX9_harvest_211 ?_
                            refine lv_icmp_ge (tgt := 222) hx hb dX9_harvest_214 (by decide) (fun c_22 => ?_) (fun c_22 => ?_)
                            · have h := (if_pos c_22).symm.trans h
                              refine lv_iload hx hb dX9_harvest_222 (lv_at hl 7 rfl) ?_
                              refine lv_istore (lv' := [(8, .int v8_h155), (10, .int w0_j178), (0, .ref q_s), (2, .int v2), (4, .int r_7), (5, .int v5_h142), (6, .int v6_h142), (7, .int v7_h142), (9, .int v9_h155)]) hx hb dX9_harvest_224 hl (by decide) rfl (fun ls hl => ?_)
                              refine lv_iinc (v := (v9_h155 + 1)) (lv' := [(9, .int (v9_h155 + 1)), (8, .int v8_h155), (10, .int w0_j178), (0, .ref q_s), (2, .int v2), (4, .int r_7), (5, .int v5_h142), (6, .int v6_h142), (7, .int v7_h142)]) hx hb dX9_harvest_226 hl (k := 8) rfl rfl (by decide) rfl (fun ls hl => ?_)
                              refine lv_goto (tgt := 155) hx hb dX9_harvest_229 (by decide) ?_
                              exact ih v8_h155 (v9_h155 + 1) _ _ _ hP hD hS (lv_sub hl [3, 4, 5, 6, 7, 8, 1, 0] rfl) h
                            · have h := (if_neg c_22).symm.trans h
                              refine lv_iload hx hb dX9_harvest_217 (lv_at hl 8 rfl) ?_
                              refine lv_goto (tgt := 224) hx hb dX9_harvest_219 (by decide) ?_
                              refine lv_istore (lv' := [(8, .int v9_h155), (10, .int w0_j178), (0, .ref q_s), (2, .int v2), (4, .int r_7), (5, .int v5_h142), (6, .int v6_h142), (7, .int v7_h142), (9, .int v9_h155)]) hx hb dX9_harvest_224 hl (by decide) rfl (fun ls hl => ?_)
                              refine lv_iinc (v := (v9_h155 + 1)) (lv' := [(9, .int (v9_h155 + 1)), (8, .int v9_h155), (10, .int w0_j178), (0, .ref q_s), (2, .int v2), (4, .int r_7), (5, .int v5_h142), (6, .int v6_h142), (7, .int v7_h142)]) hx hb dX9_harvest_226 hl (k := 8) rfl rfl (by decide) rfl (fun ls hl => ?_)
                              refine lv_goto (tgt := 155) hx hb dX9_harvest_229 (by decide) ?_
                              exact ih v9_h155 (v9_h155 + 1) _ _ _ hP hD hS (lv_sub hl [3, 4, 5, 6, 7, 8, 1, 0] rfl) h
                      refine lv_icmp_ne (tgt := 177) hx hb dX9_harvest_170 (by decide) (fun c_23 => ?_) (fun c_23 => ?_)
                      · have h := (if_neg c_23).symm.trans h
                        refine lv_iconst (v := 0) hx hb dX9_harvest_177 (by decide) ?_
                        exact KJ178 0 _ _ _ hP hD hS (lv_sub hl [0, 1, 2, 3, 4, 5, 6, 7] rfl) h
                      · have h := (if_pos c_23).symm.trans h
                        refine lv_iconst (v := 1) hx hb dX9_harvest_173 (by decide) ?_
                        refine lv_goto (tgt := 178) hx hb dX9_harvest_174 (by decide) ?_
                        exact KJ178 1 _ _ _ hP hD hS (lv_sub hl [0, 1, 2, 3, 4, 5, 6, 7] rfl) h
                refine KL155 _ (fun v8_e232 H locs ls hP hD hS hl h => ?_) FU (-1000000) 0 _ _ _ hP hD hS (lv_sub hl [2, 3, 4, 5, 6, 7, 1, 0] rfl) h
                refine lv_iload hx hb dX9_harvest_232 (lv_at hl 4 rfl) ?_
                refine lv_aload_n hx hb dX9_harvest_234 rfl (lv_at hl 0 rfl) ?_
                refine va_get (D := (dC, dI)) (ci := 7) (v := .ref q_s_isle) (C := RX9) (T := TX9) (N := 23) hx hb hts w_1 hown hK hP 0 rfl rfl 5 (by decide) w_5 (fun _ h9 => h9) rfl dX9_harvest_235 ?_
                refine lv_iload hx hb dX9_harvest_238 (lv_at hl 2 rfl) ?_
                refine lv_iload hx hb dX9_harvest_240 (lv_at hl 6 rfl) ?_
                obtain ⟨r_24, hc_24, h⟩ := bd1_of h
                refine cl_rS (As := [.ref q_s_isle, .int r_7, .int v8_e232]) (rest := [.int v6_h142]) ⟨hx, hb, hml, hown, hts⟩ (m_X9_priceBy l dC dI cI cZ q_s_isle s_isle r_7 v8_e232 (r_24) hc_24) (va_cwS 3 hts gX9_harvest_X9_priceBy rfl rfl rfl ddX9_priceBy ⟨Nat.le_of_ble_eq_true rfl, Nat.le_of_ble_eq_true rfl⟩) hK hP [4] rfl rfl rfl hl.1 (Nat.le_of_ble_eq_true rfl) ⟨Nat.zero_le _, Nat.zero_le _⟩ dX9_harvest_242 ?_
                refine lv_iadd hx hb dX9_harvest_245 ?_
                refine lv_istore (lv' := [(6, .int (v6_h142 + r_24)), (0, .ref q_s), (2, .int v2), (4, .int r_7), (5, .int v5_h142), (7, .int v7_h142), (8, .int v8_e232)]) hx hb dX9_harvest_246 hl (by decide) rfl (fun ls hl => ?_)
                refine lv_iload hx hb dX9_harvest_248 (lv_at hl 4 rfl) ?_
                refine lv_iconst (v := 1) hx hb dX9_harvest_250 (by decide) ?_
                refine lv_iload hx hb dX9_harvest_251 (lv_at hl 6 rfl) ?_
                refine lv_ishl hx hb dX9_harvest_253 ?_
                refine lv_iconst (v := (-1)) hx hb dX9_harvest_254 (by decide) ?_
                refine lv_ixor hx hb dX9_harvest_255 ?_
                refine lv_iand hx hb dX9_harvest_256 ?_
                refine lv_istore (lv' := [(5, .int (v5_h142 &&& ((1 <<< (v8_e232 &&& 31)) ^^^ (-1)))), (6, .int (v6_h142 + r_24)), (0, .ref q_s), (2, .int v2), (4, .int r_7), (7, .int v7_h142), (8, .int v8_e232)]) hx hb dX9_harvest_257 hl (by decide) rfl (fun ls hl => ?_)
                refine lv_iinc (v := (v7_h142 + 1)) (lv' := [(7, .int (v7_h142 + 1)), (5, .int (v5_h142 &&& ((1 <<< (v8_e232 &&& 31)) ^^^ (-1)))), (6, .int (v6_h142 + r_24)), (0, .ref q_s), (2, .int v2), (4, .int r_7), (8, .int v8_e232)]) hx hb dX9_harvest_259 hl (k := 5) rfl rfl (by decide) rfl (fun ls hl => ?_)
                refine lv_goto (tgt := 142) hx hb dX9_harvest_262 (by decide) ?_
                exact ih (v5_h142 &&& ((1 <<< (v8_e232 &&& 31)) ^^^ (-1))) (v6_h142 + r_24) (v7_h142 + 1) _ _ _ hP hD hS (lv_sub hl [3, 4, 5, 1, 2, 0] rfl) h
          exact KL142 FU v5_e124 0 0 _ _ _ hP hD hS (lv_sub hl [2, 3, 4, 5, 1, 0] rfl) h
        · have h := (if_neg c_15).symm.trans h
          refine lv_ldc hx hb hown w_7 dX9_harvest_133 ?_
          have h := Option.some.inj h
          subst h
          rw [hQQ]
          subst hAe
          exact W.iret (v := (-1000000)) hx hb hr (fun t ht hW => ⟨⟨_, (), rfl, rfl, by rw [ht]; exact hP, va_K.moved hW.alike hK, hD⟩, hS.F ht⟩) hS.2.2 dX9_harvest_135
      · have h := (if_pos c_6).symm.trans h
        refine lv_ldc hx hb hown w_2 dX9_harvest_37 ?_
        have h := Option.some.inj h
        subst h
        rw [hQQ]
        subst hAe
        exact W.iret (v := (-1000001)) hx hb hr (fun t ht hW => ⟨⟨_, (), rfl, rfl, by rw [ht]; exact hP, va_K.moved hW.alike hK, hD⟩, hS.F ht⟩) hS.2.2 dX9_harvest_39
def fX9_raised_L121 (s_item : (Nat → Int32)) (s_isle : (Nat → Int32)) (v1 : Int32) (v2 : Int32) (v3 : Int32) (v5_h89 : Int32) (k121_191 : Int32 → (Nat → Int32) → Option (Int32 × Int32 × Int32 × (Nat → Int32))) : Nat → Int32 → Int32 → (Nat → Int32) → Option (Int32 × Int32 × Int32 × (Nat → Int32))
  | 0, _, _, _ => none
  | n + 1, v6_h121, v7_h121, s_then_h121 => (if v3 ≤ v7_h121 then (k121_191 v6_h121 s_then_h121) else bd1 (fX9_layHour s_isle s_then_h121 (v7_h121 + 1)) (fun s_then_16 => chk (¬ ((6 + v5_h89) < 0 ∨ 51 ≤ (6 + v5_h89).toNatClampNeg)) (chk (¬ ((6 + v5_h89) < 0 ∨ 51 ≤ (6 + v5_h89).toNatClampNeg)) ((if v6_h121 = 0 then ((fX9_raised_L121 s_item s_isle v1 v2 v3 v5_h89 k121_191 n) 0 (v7_h121 + 1) (upd s_then_16 (6 + v5_h89).toNatClampNeg ((s_then_16 (6 + v5_h89).toNatClampNeg) + 1))) else bd1 (fX9_dryOf (upd s_then_16 (6 + v5_h89).toNatClampNeg ((s_then_16 (6 + v5_h89).toNatClampNeg) + 1))) (fun r_20 => chk (¬ ((((40 * v1) + v2) + v7_h121) < 0 ∨ 320 ≤ (((40 * v1) + v2) + v7_h121).toNatClampNeg)) ((if r_20 = (s_item (((40 * v1) + v2) + v7_h121).toNatClampNeg) then ((fX9_raised_L121 s_item s_isle v1 v2 v3 v5_h89 k121_191 n) 1 (v7_h121 + 1) (upd s_then_16 (6 + v5_h89).toNatClampNeg ((s_then_16 (6 + v5_h89).toNatClampNeg) + 1))) else ((fX9_raised_L121 s_item s_isle v1 v2 v3 v5_h89 k121_191 n) 0 (v7_h121 + 1) (upd s_then_16 (6 + v5_h89).toNatClampNeg ((s_then_16 (6 + v5_h89).toNatClampNeg) + 1)))))))))))
def fX9_raised_J116 (s_item : (Nat → Int32)) (s_isle : (Nat → Int32)) (v1 : Int32) (v2 : Int32) (v3 : Int32) (r89 : Int32 → Int32 → (Nat → Int32) → Option (Int32 × Int32 × Int32 × (Nat → Int32))) (v4_h89 : Int32) (v5_h89 : Int32) (s_then_h89 : (Nat → Int32)) (w0_j116 : Int32) : Option (Int32 × Int32 × Int32 × (Nat → Int32)) :=
  (fX9_raised_L121 s_item s_isle v1 v2 v3 v5_h89 (fun v6_e191 s_then_e191 => (if v6_e191 = 0 then (r89 (v4_h89 ||| 0) (v5_h89 + 1) s_then_e191) else (r89 (v4_h89 ||| (1 <<< (v5_h89 &&& 31))) (v5_h89 + 1) s_then_e191))) FU w0_j116 0 s_then_h89)
def fX9_raised_L89 (s_item : (Nat → Int32)) (s_isle : (Nat → Int32)) (v1 : Int32) (v2 : Int32) (v3 : Int32) : Nat → Int32 → Int32 → (Nat → Int32) → Option (Int32 × Int32 × Int32 × (Nat → Int32))
  | 0, _, _, _ => none
  | n + 1, v4_h89, v5_h89, s_then_h89 => (if 15 ≤ v5_h89 then some (v4_h89, 0, 0, s_then_h89) else chk (¬ ((6 + v5_h89) < 0 ∨ 51 ≤ (6 + v5_h89).toNatClampNeg)) ((if 9 ≤ (s_isle (6 + v5_h89).toNatClampNeg) then (fX9_raised_J116 s_item s_isle v1 v2 v3 (fX9_raised_L89 s_item s_isle v1 v2 v3 n) v4_h89 v5_h89 s_then_h89 0) else (fX9_raised_J116 s_item s_isle v1 v2 v3 (fX9_raised_L89 s_item s_isle v1 v2 v3 n) v4_h89 v5_h89 s_then_h89 1))))
def fX9_raised (s_status : Int32) (s_lane : (Nat → Int32)) (s_many : (Nat → Int32)) (s_item : (Nat → Int32)) (s_isle : (Nat → Int32)) (s_then : (Nat → Int32)) (v1 : Int32) (v2 : Int32) (v3 : Int32) : Option (Int32 × Int32 × Int32 × (Nat → Int32)) :=
  bd1 (fX9_isThere s_isle) (fun r_1 => (if r_1 = 0 then some ((-1000002), 0, s_status, s_then) else bd1 (fX9_isRow v1) (fun r_3 => (if r_3 = 0 then some ((-1000001), 0, s_status, s_then) else bd1 (fX9_in v3.toInt64 1 12) (fun r_5 => (if r_5 = 0 then some ((-1000001), 0, s_status, s_then) else chk (¬ (v1 < 0 ∨ 8 ≤ v1.toNatClampNeg)) ((if 0 ≤ (s_lane v1.toNatClampNeg) then (if v2 < 0 then bd2 (fX9_finding 2) (fun r_10 s_status_10 => some (r_10, 0, s_status_10, s_then)) else chk (¬ (v1 < 0 ∨ 8 ≤ v1.toNatClampNeg)) ((if (lg_cmp (v2.toInt64 + v3.toInt64) ((s_many v1.toNatClampNeg).toInt64)) ≤ 0 then (fX9_raised_L89 s_item s_isle v1 v2 v3 FU 0 0 s_then) else bd2 (fX9_finding 2) (fun r_25 s_status_25 => some (r_25, 0, s_status_25, s_then))))) else bd2 (fX9_finding 1) (fun r_26 s_status_26 => some (r_26, 0, s_status_26, s_then))))))))))
abbrev rmX9_raised : Room := { frames := 3, cells := 0, slots := 0, locals := 65 }
theorem ddX9_raised : yX9_raised.cls ≠ "java/lang/invoke/MethodHandle" ∧ yX9_raised.cls ≠ "java/lang/invoke/VarHandle" ∧ (parseMethodDescriptor yX9_raised.desc).map (fun d => d.parameters.length) = some 3 := by decide +kernel
set_option maxHeartbeats 4000000 in
set_option maxRecDepth 100000 in
theorem m_X9_raised (l : Launch) (dC : Nat → ClassId) (dI : Nat → Nat → Nat) (cI cZ : ClassId) (q_s q_s_lane q_s_many q_s_item q_s_isle q_s_fresh q_s_then q_s_was q_s_tape q_s_isKept q_s_kept q_s_trace : Nat) (s_thrown : Int32) (s_status : Int32) (s_lane : (Nat → Int32)) (s_many : (Nat → Int32)) (s_item : (Nat → Int32)) (s_isle : (Nat → Int32)) (s_fresh : (Nat → Int32)) (s_then : (Nat → Int32)) (s_was : (Nat → Int32)) (s_acts : Int32) (s_tape : (Nat → Int32)) (s_taped : Int32) (s_cursor : Int32) (s_start : Int32) (s_token : Int32) (s_value : Int32) (s_fault : Int32) (s_faultAt : Int32) (s_latest : Int32) (s_isKept : (Nat → Int32)) (s_kept : (Nat → Int32)) (s_trace : (Nat → Int32)) (s_traced : Int32) (v1 : Int32) (v2 : Int32) (v3 : Int32) (sz : Nat) (res : Int32 × Int32 × Int32 × (Nat → Int32)) (hf : fX9_raised s_status s_lane s_many s_item s_isle s_then v1 v2 v3 = some res) : Met l yX9_raised wsX9_raised rmX9_raised (mtPc (dC, dI) (tyZ cI cZ) ((W_M cI cZ q_s q_s_lane q_s_many q_s_item q_s_isle q_s_fresh q_s_then q_s_was q_s_tape q_s_isKept q_s_kept q_s_trace s_thrown s_status s_lane s_many s_item s_isle s_fresh s_then s_was s_acts s_tape s_taped s_cursor s_start s_token s_value s_fault s_faultAt s_latest s_isKept s_kept s_trace s_traced)) [.ref q_s, .int v1, .int v2, .int v3] sz) (mtQi (dC, dI) (tyZ cI cZ) ((W_M cI cZ q_s q_s_lane q_s_many q_s_item q_s_isle q_s_fresh q_s_then q_s_was q_s_tape q_s_isKept q_s_kept q_s_trace s_thrown s_status s_lane s_many s_item s_isle s_fresh s_then s_was s_acts s_tape s_taped s_cursor s_start s_token s_value s_fault s_faultAt s_latest s_isKept s_kept s_trace s_traced)) ((W_M cI cZ q_s q_s_lane q_s_many q_s_item q_s_isle q_s_fresh q_s_then q_s_was q_s_tape q_s_isKept q_s_kept q_s_trace res.2.1 res.2.2.1 s_lane s_many s_item s_isle s_fresh res.2.2.2 s_was s_acts s_tape s_taped s_cursor s_start s_token s_value s_fault s_faultAt s_latest s_isKept s_kept s_trace s_traced)) res.1 sz) 0 0 (va_A ((W_M cI cZ q_s q_s_lane q_s_many q_s_item q_s_isle q_s_fresh q_s_then q_s_was q_s_tape q_s_isKept q_s_kept q_s_trace s_thrown s_status s_lane s_many s_item s_isle s_fresh s_then s_was s_acts s_tape s_taped s_cursor s_start s_token s_value s_fault s_faultAt s_latest s_isKept s_kept s_trace s_traced)) sz) := by
  refine Met.ofW (cc := cX9_raised) (maxL := 8) (ret := (some .int)) (by decide) rfl ?_
  intro p e s m args below meth c s₁ B hml hv
  obtain ⟨rfl, hsz, hP, hK, hD0⟩ := hv
  have hx := B.exec
  have hb := B.bytes
  have hr := B.returns
  have hts := atoms_spec (ws := wsX9_raised) B.pre
  have hown : s.vm.findClass RX9 = some m.cls := findClass_of_methodNamed B.named
  have hlocks := B.notSynchronized
  subst hsz
  have hD := hD0.self (sz := s.heap.size)
  obtain ⟨A, hAe⟩ : ∃ A, A = va_A ((W_M cI cZ q_s q_s_lane q_s_many q_s_item q_s_isle q_s_fresh q_s_then q_s_was q_s_tape q_s_isKept q_s_kept q_s_trace s_thrown s_status s_lane s_many s_item s_isle s_fresh s_then s_was s_acts s_tape s_taped s_cursor s_start s_token s_value s_fault s_faultAt s_latest s_isKept s_kept s_trace s_traced)) s.heap.size := ⟨_, rfl⟩
  rw [← hAe] at hD
  have hA : ∀ q : Nat, s.heap.size ≤ q → A q := fun q h => by rw [hAe]; exact Or.inr h
  have hS : va_S A s.heap s.heap [] := va_S.rf
  have hl := lv_entry ([.ref q_s, .int v1, .int v2, .int v3]) (n := 8) (Nat.le_of_ble_eq_true rfl)
  rw [lg_entry_eq]
  generalize (lg_sl ([.ref q_s, .int v1, .int v2, .int v3]) ++ List.replicate (8 - (lg_sl ([.ref q_s, .int v1, .int v2, .int v3])).length) Slot.unset).toArray = ls at hl ⊢
  have hl : lv_has ls 8 [(0, .ref q_s), (1, .int v1), (2, .int v2), (3, .int v3)] := hl
  obtain ⟨QQ, hQQ⟩ : ∃ Q, Q = MQ below (mtQi (dC, dI) (tyZ cI cZ) ((W_M cI cZ q_s q_s_lane q_s_many q_s_item q_s_isle q_s_fresh q_s_then q_s_was q_s_tape q_s_isKept q_s_kept q_s_trace s_thrown s_status s_lane s_many s_item s_isle s_fresh s_then s_was s_acts s_tape s_taped s_cursor s_start s_token s_value s_fault s_faultAt s_latest s_isKept s_kept s_trace s_traced)) ((W_M cI cZ q_s q_s_lane q_s_many q_s_item q_s_isle q_s_fresh q_s_then q_s_was q_s_tape q_s_isKept q_s_kept q_s_trace res.2.1 res.2.2.1 s_lane s_many s_item s_isle s_fresh res.2.2.2 s_was s_acts s_tape s_taped s_cursor s_start s_token s_value s_fault s_faultAt s_latest s_isKept s_kept s_trace s_traced)) res.1 s.heap.size) ([.ref q_s, .int v1, .int v2, .int v3] : List Value).toArray s 0 0 (va_A ((W_M cI cZ q_s q_s_lane q_s_many q_s_item q_s_isle q_s_fresh q_s_then q_s_was q_s_tape q_s_isKept q_s_kept q_s_trace s_thrown s_status s_lane s_many s_item s_isle s_fresh s_then s_was s_acts s_tape s_taped s_cursor s_start s_token s_value s_fault s_faultAt s_latest s_isKept s_kept s_trace s_traced)) s.heap.size) := ⟨_, rfl⟩
  rw [← hQQ]
  have w_0 := hts (Cond.fieldLink RX9 44 "TideInchesModel" "thrown" "I") (List.mem_of_getElem? (i := 1) rfl)
  have w_1 := (fun w hw => List.mem_cons_of_mem _ (List.mem_append_right _ hw) : ∀ w ∈ wsX90, w ∈ wsX9_raised)
  have w_2 := hts (Cond.constant RX9 64 (-1000001)) (List.mem_of_getElem? (i := 4) rfl)
  have w_3 := hts (Cond.constantLong RX9 231 (12)) (List.mem_of_getElem? (i := 3) rfl)
  have w_4 := hts (Cond.fieldLink RX9 7 "TideInchesModel" "lane" "[I") (List.mem_of_getElem? (i := 5) rfl)
  have w_5 := hts (Cond.fieldLink RX9 13 "TideInchesModel" "many" "[I") (List.mem_of_getElem? (i := 6) rfl)
  have w_6 := hts (Cond.fieldLink RX9 48 "TideInchesModel" "status" "I") (List.mem_of_getElem? (i := 7) rfl)
  have w_7 := hts (Cond.fieldLink RX9 19 "TideInchesModel" "isle" "[I") (List.mem_of_getElem? (i := 8) rfl)
  have w_8 := hts (Cond.fieldLink RX9 25 "TideInchesModel" "then" "[I") (List.mem_of_getElem? (i := 9) rfl)
  have w_9 := hts (Cond.fieldLink RX9 16 "TideInchesModel" "item" "[I") (List.mem_of_getElem? (i := 10) rfl)
  have w_10 := hts (Cond.constant RX9 181 (-1000002)) (List.mem_of_getElem? (i := 2) rfl)
  have h := hf
  unfold fX9_raised at h
  refine lv_aload_n hx hb dX9_raised_0 rfl (lv_at hl 0 rfl) ?_
  refine lv_iconst (v := 0) hx hb dX9_raised_1 (by decide) ?_
  refine va_put (D := (dC, dI)) (ci := 7) (v := .int 0) (ty := .int) (C := RX9) (T := TX9) (N := 23) hx hb hts w_1 tyX9 tyX9_ok nmX9 hown hK hP hD hS 0 rfl rfl 0 (by decide) w_0 (fun _ h9 => h9) rfl (by decide +kernel) rfl rfl (Nat.le_of_ble_eq_true rfl) dX9_raised_2 (fun H locs hP hD hS => ?_)
  have hP : va_P (dC, dI) vwCl ((W_M cI cZ q_s q_s_lane q_s_many q_s_item q_s_isle q_s_fresh q_s_then q_s_was q_s_tape q_s_isKept q_s_kept q_s_trace 0 s_status s_lane s_many s_item s_isle s_fresh s_then s_was s_acts s_tape s_taped s_cursor s_start s_token s_value s_fault s_faultAt s_latest s_isKept s_kept s_trace s_traced)) H := hP
  have hD : va_D A ((W_M cI cZ q_s q_s_lane q_s_many q_s_item q_s_isle q_s_fresh q_s_then q_s_was q_s_tape q_s_isKept q_s_kept q_s_trace 0 s_status s_lane s_many s_item s_isle s_fresh s_then s_was s_acts s_tape s_taped s_cursor s_start s_token s_value s_fault s_faultAt s_latest s_isKept s_kept s_trace s_traced)) := hD
  refine lv_aload_n hx hb dX9_raised_5 rfl (lv_at hl 0 rfl) ?_
  obtain ⟨r_1, hc_1, h⟩ := bd1_of h
  refine cl_rV (As := []) (rest := []) ⟨hx, hb, hml, hown, hts⟩ (m_X9_isThere l dC dI cI cZ q_s q_s_lane q_s_many q_s_item q_s_isle q_s_fresh q_s_then q_s_was q_s_tape q_s_isKept q_s_kept q_s_trace 0 s_status s_lane s_many s_item s_isle s_fresh s_then s_was s_acts s_tape s_taped s_cursor s_start s_token s_value s_fault s_faultAt s_latest s_isKept s_kept s_trace s_traced (r_1) hc_1) (cwV 0 hts gX9_raised_X9_isThere rfl rfl rfl ⟨rfl, ddX9_isThere⟩ ⟨Nat.le_of_ble_eq_true rfl, Nat.le_of_ble_eq_true rfl⟩) hK hP [0, 1, 2, 3, 4, 5, 6, 7, 8, 9, 10, 11] rfl rfl rfl rfl rfl hl.1 (Nat.le_of_ble_eq_true rfl) ⟨Nat.zero_le _, Nat.zero_le _⟩ dX9_raised_6 ?_
  refine lv_if_ne (tgt := 15) hx hb dX9_raised_9 (by decide) (fun c_2 => ?_) (fun c_2 => ?_)
  · have h := (if_neg c_2).symm.trans h
    refine lv_iload_n hx hb dX9_raised_15 rfl (lv_at hl 1 rfl) ?_
    obtain ⟨r_3, hc_3, h⟩ := bd1_of h
    refine cl_pS (As := [.int v1]) (rest := []) ⟨hx, hb, hml, hown, hts⟩ (m_X9_isRow l v1 (r_3) hc_3) (va_cwS 1 hts gX9_raised_X9_isRow rfl rfl rfl ddX9_isRow ⟨Nat.le_of_ble_eq_true rfl, Nat.le_of_ble_eq_true rfl⟩) rfl rfl hl.1 (Nat.le_of_ble_eq_true rfl) ⟨Nat.zero_le _, Nat.zero_le _⟩ dX9_raised_16 ?_
    refine lv_if_eq (tgt := 34) hx hb dX9_raised_19 (by decide) (fun c_4 => ?_) (fun c_4 => ?_)
    · have h := (if_pos c_4).symm.trans h
      refine lv_ldc hx hb hown w_2 dX9_raised_34 ?_
      have h := Option.some.inj h
      subst h
      rw [hQQ]
      subst hAe
      exact W.iret (v := (-1000001)) hx hb hr (fun t ht hW => ⟨⟨_, (), rfl, rfl, by rw [ht]; exact hP, va_K.moved hW.alike hK, hD⟩, hS.F ht⟩) hS.2.2 dX9_raised_36
    · have h := (if_neg c_4).symm.trans h
      refine lv_iload_n hx hb dX9_raised_22 rfl (lv_at hl 3 rfl) ?_
      refine lv_i2l hx hb dX9_raised_23 rfl ?_
      refine lv_lconst (v := 1) hx hb dX9_raised_24 (by decide) ?_
      refine lv_ldc2 hx hb hown w_3 dX9_raised_25 ?_
      obtain ⟨r_5, hc_5, h⟩ := bd1_of h
      refine cl_pS (As := [.long v3.toInt64, .long 1, .long 12]) (rest := []) ⟨hx, hb, hml, hown, hts⟩ (m_X9_in l v3.toInt64 1 12 (r_5) hc_5) (va_cwS 3 hts gX9_raised_X9_in rfl rfl rfl ddX9_in ⟨Nat.le_of_ble_eq_true rfl, Nat.le_of_ble_eq_true rfl⟩) rfl rfl hl.1 (Nat.le_of_ble_eq_true rfl) ⟨Nat.zero_le _, Nat.zero_le _⟩ dX9_raised_28 ?_
      refine lv_if_ne (tgt := 37) hx hb dX9_raised_31 (by decide) (fun c_6 => ?_) (fun c_6 => ?_)
      · have h := (if_neg c_6).symm.trans h
        refine lv_aload_n hx hb dX9_raised_37 rfl (lv_at hl 0 rfl) ?_
        refine va_get (D := (dC, dI)) (ci := 7) (v := .ref q_s_lane) (C := RX9) (T := TX9) (N := 23) hx hb hts w_1 hown hK hP 0 rfl rfl 2 (by decide) w_4 (fun _ h9 => h9) rfl dX9_raised_38 ?_
        refine lv_iload_n hx hb dX9_raised_41 rfl (lv_at hl 1 rfl) ?_
        obtain ⟨b_7, h⟩ := chk_of h
        refine va_iald hx hb hK hP 1 0 rfl rfl (i := v1) b_7 dX9_raised_42 ?_
        refine lv_if_ge (tgt := 52) hx hb dX9_raised_43 (by decide) (fun c_8 => ?_) (fun c_8 => ?_)
        · have h := (if_pos c_8).symm.trans h
          refine lv_iload_n hx hb dX9_raised_52 rfl (lv_at hl 2 rfl) ?_
          refine lv_if_lt (tgt := 72) hx hb dX9_raised_53 (by decide) (fun c_9 => ?_) (fun c_9 => ?_)
          · have h := (if_pos c_9).symm.trans h
            refine lv_aload_n hx hb dX9_raised_72 rfl (lv_at hl 0 rfl) ?_
            refine lv_iconst (v := 2) hx hb dX9_raised_73 (by decide) ?_
            obtain ⟨r_10, s_status_10, hc_10, h⟩ := bd2_of h
            refine cl_mVi (As := [.int 2]) (rest := []) (ws' := (W_M cI cZ q_s q_s_lane q_s_many q_s_item q_s_isle q_s_fresh q_s_then q_s_was q_s_tape q_s_isKept q_s_kept q_s_trace 0 s_status_10 s_lane s_many s_item s_isle s_fresh s_then s_was s_acts s_tape s_taped s_cursor s_start s_token s_value s_fault s_faultAt s_latest s_isKept s_kept s_trace s_traced)) (wr := []) ⟨hx, hb, hml, hown, hts⟩ (m_X9_finding l dC dI cI cZ q_s q_s_lane q_s_many q_s_item q_s_isle q_s_fresh q_s_then q_s_was q_s_tape q_s_isKept q_s_kept q_s_trace 0 s_status s_lane s_many s_item s_isle s_fresh s_then s_was s_acts s_tape s_taped s_cursor s_start s_token s_value s_fault s_faultAt s_latest s_isKept s_kept s_trace s_traced 2 _ (r_10, s_status_10) hc_10) (cwV 1 hts gX9_raised_X9_finding rfl rfl rfl ⟨rfl, ddX9_finding⟩ ⟨Nat.le_of_ble_eq_true rfl, Nat.le_of_ble_eq_true rfl⟩) hK hP hD hS hA [0, 1, 2, 3, 4, 5, 6, 7, 8, 9, 10, 11] [] rfl rfl rfl rfl (by decide) [0, 1, 2, 3, 4, 5, 6, 7, 8, 9, 10, 11] rfl rfl rfl rfl rfl rfl rfl hl.1 (Nat.le_of_ble_eq_true rfl) ⟨Nat.zero_le _, Nat.zero_le _⟩ dX9_raised_74 (fun H locs hP hD hS => ?_)
            have h := Option.some.inj h
            subst h
            rw [hQQ]
            subst hAe
            exact W.iret (v := r_10) hx hb hr (fun t ht hW => ⟨⟨_, (), rfl, rfl, by rw [ht]; exact hP, va_K.moved hW.alike hK, hD⟩, hS.F ht⟩) hS.2.2 dX9_raised_77
          · have h := (if_neg c_9).symm.trans h
            refine lv_iload_n hx hb dX9_raised_56 rfl (lv_at hl 2 rfl) ?_
            refine lv_i2l hx hb dX9_raised_57 rfl ?_
            refine lv_iload_n hx hb dX9_raised_58 rfl (lv_at hl 3 rfl) ?_
            refine lv_i2l hx hb dX9_raised_59 rfl ?_
            refine lv_ladd hx hb dX9_raised_60 ?_
            refine lv_aload_n hx hb dX9_raised_61 rfl (lv_at hl 0 rfl) ?_
            refine va_get (D := (dC, dI)) (ci := 7) (v := .ref q_s_many) (C := RX9) (T := TX9) (N := 23) hx hb hts w_1 hown hK hP 0 rfl rfl 3 (by decide) w_5 (fun _ h9 => h9) rfl dX9_raised_62 ?_
            refine lv_iload_n hx hb dX9_raised_65 rfl (lv_at hl 1 rfl) ?_
            obtain ⟨b_11, h⟩ := chk_of h
            refine va_iald hx hb hK hP 2 0 rfl rfl (i := v1) b_11 dX9_raised_66 ?_
            refine lv_i2l hx hb dX9_raised_67 rfl ?_
            refine W.lcmp hx hb dX9_raised_68 ?_
            refine lv_if_le (tgt := 78) hx hb dX9_raised_69 (by decide) (fun c_12 => ?_) (fun c_12 => ?_)
            · have h := (if_pos c_12).symm.trans h
              refine lv_aload_n hx hb dX9_raised_78 rfl (lv_at hl 0 rfl) ?_
              refine lv_iconst (v := 0) hx hb dX9_raised_79 (by decide) ?_
              refine va_put (D := (dC, dI)) (ci := 7) (v := .int 0) (ty := .int) (C := RX9) (T := TX9) (N := 23) hx hb hts w_1 tyX9 tyX9_ok nmX9 hown hK hP hD hS 0 rfl rfl 1 (by decide) w_6 (fun _ h9 => h9) rfl (by decide +kernel) rfl rfl (Nat.le_of_ble_eq_true rfl) dX9_raised_80 (fun H locs hP hD hS => ?_)
              have hP : va_P (dC, dI) vwCl ((W_M cI cZ q_s q_s_lane q_s_many q_s_item q_s_isle q_s_fresh q_s_then q_s_was q_s_tape q_s_isKept q_s_kept q_s_trace 0 0 s_lane s_many s_item s_isle s_fresh s_then s_was s_acts s_tape s_taped s_cursor s_start s_token s_value s_fault s_faultAt s_latest s_isKept s_kept s_trace s_traced)) H := hP
              have hD : va_D A ((W_M cI cZ q_s q_s_lane q_s_many q_s_item q_s_isle q_s_fresh q_s_then q_s_was q_s_tape q_s_isKept q_s_kept q_s_trace 0 0 s_lane s_many s_item s_isle s_fresh s_then s_was s_acts s_tape s_taped s_cursor s_start s_token s_value s_fault s_faultAt s_latest s_isKept s_kept s_trace s_traced)) := hD
              refine lv_iconst (v := 0) hx hb dX9_raised_83 (by decide) ?_
              refine lv_istore (lv' := [(4, .int 0), (0, .ref q_s), (1, .int v1), (2, .int v2), (3, .int v3)]) hx hb dX9_raised_84 hl (by decide) rfl (fun ls hl => ?_)
              refine lv_iconst (v := 0) hx hb dX9_raised_86 (by decide) ?_
              refine lv_istore (lv' := [(5, .int 0), (4, .int 0), (0, .ref q_s), (1, .int v1), (2, .int v2), (3, .int v3)]) hx hb dX9_raised_87 hl (by decide) rfl (fun ls hl => ?_)
              have KL89 : ∀ (n : Nat) (v4_h89 : Int32) (v5_h89 : Int32) (s_then_h89 : (Nat → Int32)) (H : Heap) (locs : List Loc) (ls : Array Slot), va_P (dC, dI) vwCl ((W_M cI cZ q_s q_s_lane q_s_many q_s_item q_s_isle q_s_fresh q_s_then q_s_was q_s_tape q_s_isKept q_s_kept q_s_trace 0 0 s_lane s_many s_item s_isle s_fresh s_then_h89 s_was s_acts s_tape s_taped s_cursor s_start s_token s_value s_fault s_faultAt s_latest s_isKept s_kept s_trace s_traced)) H → va_D A ((W_M cI cZ q_s q_s_lane q_s_many q_s_item q_s_isle q_s_fresh q_s_then q_s_was q_s_tape q_s_isKept q_s_kept q_s_trace 0 0 s_lane s_many s_item s_isle s_fresh s_then_h89 s_was s_acts s_tape s_taped s_cursor s_start s_token s_value s_fault s_faultAt s_latest s_isKept s_kept s_trace s_traced)) → va_S A s.heap H locs → lv_has ls 8 [(0, .ref q_s), (1, .int v1), (2, .int v2), (3, .int v3), (4, .int v4_h89), (5, .int v5_h89)] → fX9_raised_L89 s_item s_isle v1 v2 v3 n v4_h89 v5_h89 s_then_h89 = some res → W p l e (headSpec wsX9_raised rmX9_raised).room s m ([.ref q_s, .int v1, .int v2, .int v3] : List Value).toArray below meth c H locs 0 0 QQ (F0 m 89 ls []) := by
                intro  n
                induction n with
                | zero => intro v4_h89 v5_h89 s_then_h89 H locs ls hP hD hS hl h; rw [fX9_raised_L89.eq_1] at h; cases h
                | succ n ih =>
                  intro v4_h89 v5_h89 s_then_h89 H locs ls hP hD hS hl h
                  rw [fX9_raised_L89.eq_2] at h
                  refine lv_iload hx hb dX9_raised_89 (lv_at hl 5 rfl) ?_
                  refine lv_bipush (v := 15) hx hb dX9_raised_91 (by decide) ?_
                  refine lv_icmp_ge (tgt := 215) hx hb dX9_raised_93 (by decide) (fun c_13 => ?_) (fun c_13 => ?_)
                  · have h := (if_pos c_13).symm.trans h
                    refine lv_iload hx hb dX9_raised_215 (lv_at hl 4 rfl) ?_
                    have h := Option.some.inj h
                    subst h
                    rw [hQQ]
                    subst hAe
                    exact W.iret (v := v4_h89) hx hb hr (fun t ht hW => ⟨⟨_, (), rfl, rfl, by rw [ht]; exact hP, va_K.moved hW.alike hK, hD⟩, hS.F ht⟩) hS.2.2 dX9_raised_217
                  · have h := (if_neg c_13).symm.trans h
                    refine lv_aload_n hx hb dX9_raised_96 rfl (lv_at hl 0 rfl) ?_
                    refine va_get (D := (dC, dI)) (ci := 7) (v := .ref q_s_isle) (C := RX9) (T := TX9) (N := 23) hx hb hts w_1 hown hK hP 0 rfl rfl 5 (by decide) w_7 (fun _ h9 => h9) rfl dX9_raised_97 ?_
                    refine lv_bipush (v := 6) hx hb dX9_raised_100 (by decide) ?_
                    refine lv_iload hx hb dX9_raised_102 (lv_at hl 5 rfl) ?_
                    refine lv_iadd hx hb dX9_raised_104 ?_
                    obtain ⟨b_14, h⟩ := chk_of h
                    refine va_iald hx hb hK hP 4 0 rfl rfl (i := (6 + v5_h89)) b_14 dX9_raised_105 ?_
                    refine lv_bipush (v := 9) hx hb dX9_raised_106 (by decide) ?_
                    have KJ116 : ∀ (w0_j116 : Int32) (H : Heap) (locs : List Loc) (ls : Array Slot), va_P (dC, dI) vwCl ((W_M cI cZ q_s q_s_lane q_s_many q_s_item q_s_isle q_s_fresh q_s_then q_s_was q_s_tape q_s_isKept q_s_kept q_s_trace 0 0 s_lane s_many s_item s_isle s_fresh s_then_h89 s_was s_acts s_tape s_taped s_cursor s_start s_token s_value s_fault s_faultAt s_latest s_isKept s_kept s_trace s_traced)) H → va_D A ((W_M cI cZ q_s q_s_lane q_s_many q_s_item q_s_isle q_s_fresh q_s_then q_s_was q_s_tape q_s_isKept q_s_kept q_s_trace 0 0 s_lane s_many s_item s_isle s_fresh s_then_h89 s_was s_acts s_tape s_taped s_cursor s_start s_token s_value s_fault s_faultAt s_latest s_isKept s_kept s_trace s_traced)) → va_S A s.heap H locs → lv_has ls 8 [(0, .ref q_s), (1, .int v1), (2, .int v2), (3, .int v3), (4, .int v4_h89), (5, .int v5_h89)] → fX9_raised_J116 s_item s_isle v1 v2 v3 (fX9_raised_L89 s_item s_isle v1 v2 v3 n) v4_h89 v5_h89 s_then_h89 w0_j116 = some res → W p l e (headSpec wsX9_raised rmX9_raised).room s m ([.ref q_s, .int v1, .int v2, .int v3] : List Value).toArray below meth c H locs 0 0 QQ (F0 m 116 ls [.int w0_j116]) := by
                      intro w0_j116 H locs ls hP hD hS hl h
                      unfold fX9_raised_J116 at h
                      refine lv_istore (lv' := [(6, .int w0_j116), (0, .ref q_s), (1, .int v1), (2, .int v2), (3, .int v3), (4, .int v4_h89), (5, .int v5_h89)]) hx hb dX9_raised_116 hl (by decide) rfl (fun ls hl => ?_)
                      refine lv_iconst (v := 0) hx hb dX9_raised_118 (by decide) ?_
                      refine lv_istore (lv' := [(7, .int 0), (6, .int w0_j116), (0, .ref q_s), (1, .int v1), (2, .int v2), (3, .int v3), (4, .int v4_h89), (5, .int v5_h89)]) hx hb dX9_raised_119 hl (by decide) rfl (fun ls hl => ?_)
                      have KL121 : ∀ (k121_191 : Int32 → (Nat → Int32) → Option (Int32 × Int32 × Int32 × (Nat → Int32))) , (∀ (v6_e191 : Int32) (s_then_e191 : (Nat → Int32)) (H : Heap) (locs : List Loc) (ls : Array Slot), va_P (dC, dI) vwCl ((W_M cI cZ q_s q_s_lane q_s_many q_s_item q_s_isle q_s_fresh q_s_then q_s_was q_s_tape q_s_isKept q_s_kept q_s_trace 0 0 s_lane s_many s_item s_isle s_fresh s_then_e191 s_was s_acts s_tape s_taped s_cursor s_start s_token s_value s_fault s_faultAt s_latest s_isKept s_kept s_trace s_traced)) H → va_D A ((W_M cI cZ q_s q_s_lane q_s_many q_s_item q_s_isle q_s_fresh q_s_then q_s_was q_s_tape q_s_isKept q_s_kept q_s_trace 0 0 s_lane s_many s_item s_isle s_fresh s_then_e191 s_was s_acts s_tape s_taped s_cursor s_start s_token s_value s_fault s_faultAt s_latest s_isKept s_kept s_trace s_traced)) → va_S A s.heap H locs → lv_has ls 8 [(0, .ref q_s), (1, .int v1), (2, .int v2), (3, .int v3), (4, .int v4_h89), (5, .int v5_h89), (6, .int v6_e191)] → k121_191 v6_e191 s_then_e191 = some res → W p l e (headSpec wsX9_raised rmX9_raised).room s m ([.ref q_s, .int v1, .int v2, .int v3] : List Value).toArray below meth c H locs 0 0 QQ (F0 m 191 ls [])) → ∀ (n : Nat) (v6_h121 : Int32) (v7_h121 : Int32) (s_then_h121 : (Nat → Int32)) (H : Heap) (locs : List Loc) (ls : Array Slot), va_P (dC, dI) vwCl ((W_M cI cZ q_s q_s_lane q_s_many q_s_item q_s_isle q_s_fresh q_s_then q_s_was q_s_tape q_s_isKept q_s_kept q_s_trace 0 0 s_lane s_many s_item s_isle s_fresh s_then_h121 s_was s_acts s_tape s_taped s_cursor s_start s_token s_value s_fault s_faultAt s_latest s_isKept s_kept s_trace s_traced)) H → va_D A ((W_M cI cZ q_s q_s_lane q_s_many q_s_item q_s_isle q_s_fresh q_s_then q_s_was q_s_tape q_s_isKept q_s_kept q_s_trace 0 0 s_lane s_many s_item s_isle s_fresh s_then_h121 s_was s_acts s_tape s_taped s_cursor s_start s_token s_value s_fault s_faultAt s_latest s_isKept s_kept s_trace s_traced)) → va_S A s.heap H locs → lv_has ls 8 [(0, .ref q_s), (1, .int v1), (2, .int v2), (3, .int v3), (4, .int v4_h89), (5, .int v5_h89), (6, .int v6_h121), (7, .int v7_h121)] → fX9_raised_L121 s_item s_isle v1 v2 v3 v5_h89 k121_191 n v6_h121 v7_h121 s_then_h121 = some res → W p l e (headSpec wsX9_raised rmX9_raised).room s m ([.ref q_s, .int v1, .int v2, .int v3] : List Value).toArray below meth c H locs 0 0 QQ (F0 m 121 ls []) := by
                        intro k121_191 Kk121_191 n
                        induction n with
                        | zero => intro v6_h121 v7_h121 s_then_h121 H locs ls hP hD hS hl h; rw [fX9_raised_L121.eq_1] at h; cases h
                        | succ n ih =>
                          intro v6_h121 v7_h121 s_then_h121 H locs ls hP hD hS hl h
                          rw [fX9_raised_L121.eq_2] at h
                          refine lv_iload hx hb dX9_raised_121 (lv_at hl 7 rfl) ?_
                          refine lv_iload_n hx hb dX9_raised_123 rfl (lv_at hl 3 rfl) ?_
                          refine lv_icmp_ge (tgt := 191) hx hb dX9_raised_124 (by decide) (fun c_15 => ?_) (fun c_15 => ?_)
                          · have h := (if_pos c_15).symm.trans h
                            exact Kk121_191 v6_h121 s_then_h121 _ _ _ hP hD hS (lv_sub hl [0, 1, 2, 3, 4, 5, 6] rfl) h
                          · have h := (if_neg c_15).symm.trans h
                            refine lv_aload_n hx hb dX9_raised_127 rfl (lv_at hl 0 rfl) ?_
                            refine lv_iload hx hb dX9_raised_128 (lv_at hl 7 rfl) ?_
                            refine lv_iconst (v := 1) hx hb dX9_raised_130 (by decide) ?_
                            refine lv_iadd hx hb dX9_raised_131 ?_
                            obtain ⟨s_then_16, hc_16, h⟩ := bd1_of h
                            refine cl_mVv (As := [.int (v7_h121 + 1)]) (rest := []) (ws' := (W_M cI cZ q_s q_s_lane q_s_many q_s_item q_s_isle q_s_fresh q_s_then q_s_was q_s_tape q_s_isKept q_s_kept q_s_trace 0 0 s_lane s_many s_item s_isle s_fresh s_then_16 s_was s_acts s_tape s_taped s_cursor s_start s_token s_value s_fault s_faultAt s_latest s_isKept s_kept s_trace s_traced)) (wr := []) ⟨hx, hb, hml, hown, hts⟩ (m_X9_layHour l dC dI cI cZ q_s q_s_lane q_s_many q_s_item q_s_isle q_s_fresh q_s_then q_s_was q_s_tape q_s_isKept q_s_kept q_s_trace 0 0 s_lane s_many s_item s_isle s_fresh s_then_h121 s_was s_acts s_tape s_taped s_cursor s_start s_token s_value s_fault s_faultAt s_latest s_isKept s_kept s_trace s_traced (v7_h121 + 1) _ (s_then_16) hc_16) (cwV 1 hts gX9_raised_X9_layHour rfl rfl rfl ⟨rfl, ddX9_layHour⟩ ⟨Nat.le_of_ble_eq_true rfl, Nat.le_of_ble_eq_true rfl⟩) hK hP hD hS hA [0, 1, 2, 3, 4, 5, 6, 7, 8, 9, 10, 11] [] rfl rfl rfl rfl (by decide) [0, 1, 2, 3, 4, 5, 6, 7, 8, 9, 10, 11] rfl rfl rfl rfl rfl rfl rfl hl.1 (Nat.le_of_ble_eq_true rfl) ⟨Nat.zero_le _, Nat.zero_le _⟩ dX9_raised_132 (fun H locs hP hD hS => ?_)
                            refine lv_aload_n hx hb dX9_raised_135 rfl (lv_at hl 0 rfl) ?_
                            refine va_get (D := (dC, dI)) (ci := 7) (v := .ref q_s_then) (C := RX9) (T := TX9) (N := 23) hx hb hts w_1 hown hK hP 0 rfl rfl 7 (by decide) w_8 (fun _ h9 => h9) rfl dX9_raised_136 ?_
                            refine lv_bipush (v := 6) hx hb dX9_raised_139 (by decide) ?_
                            refine lv_iload hx hb dX9_raised_141 (lv_at hl 5 rfl) ?_
                            refine lv_iadd hx hb dX9_raised_143 ?_
                            refine lv_dup2_11 hx hb dX9_raised_144 rfl rfl ?_
                            obtain ⟨b_17, h⟩ := chk_of h
                            refine va_iald hx hb hK hP 6 0 rfl rfl (i := (6 + v5_h89)) b_17 dX9_raised_145 ?_
                            refine lv_iconst (v := 1) hx hb dX9_raised_146 (by decide) ?_
                            refine lv_iadd hx hb dX9_raised_147 ?_
                            obtain ⟨b_18, h⟩ := chk_of h
                            refine va_iast hx hb hK hP hD hS 6 0 rfl rfl (i := (6 + v5_h89)) (x := ((s_then_16 (6 + v5_h89).toNatClampNeg) + 1)) b_18 dX9_raised_148 (fun H locs hP hD hS => ?_)
                            have hP : va_P (dC, dI) vwCl ((W_M cI cZ q_s q_s_lane q_s_many q_s_item q_s_isle q_s_fresh q_s_then q_s_was q_s_tape q_s_isKept q_s_kept q_s_trace 0 0 s_lane s_many s_item s_isle s_fresh (upd s_then_16 (6 + v5_h89).toNatClampNeg ((s_then_16 (6 + v5_h89).toNatClampNeg) + 1)) s_was s_acts s_tape s_taped s_cursor s_start s_token s_value s_fault s_faultAt s_latest s_isKept s_kept s_trace s_traced)) H := hP
                            have hD : va_D A ((W_M cI cZ q_s q_s_lane q_s_many q_s_item q_s_isle q_s_fresh q_s_then q_s_was q_s_tape q_s_isKept q_s_kept q_s_trace 0 0 s_lane s_many s_item s_isle s_fresh (upd s_then_16 (6 + v5_h89).toNatClampNeg ((s_then_16 (6 + v5_h89).toNatClampNeg) + 1)) s_was s_acts s_tape s_taped s_cursor s_start s_token s_value s_fault s_faultAt s_latest s_isKept s_kept s_trace s_traced)) := hD
                            refine lv_iload hx hb dX9_raised_149 (lv_at hl 6 rfl) ?_
                            refine lv_if_eq (tgt := 182) hx hb dX9_raised_151 (by decide) (fun c_19 => ?_) (fun c_19 => ?_)
                            · have h := (if_pos c_19).symm.trans h
                              refine lv_iconst (v := 0) hx hb dX9_raised_182 (by decide) ?_
                              refine lv_istore (lv' := [(6, .int 0), (0, .ref q_s), (1, .int v1), (2, .int v2), (3, .int v3), (4, .int v4_h89), (5, .int v5_h89), (7, .int v7_h121)]) hx hb dX9_raised_183 hl (by decide) rfl (fun ls hl => ?_)
                              refine lv_iinc (v := (v7_h121 + 1)) (lv' := [(7, .int (v7_h121 + 1)), (6, .int 0), (0, .ref q_s), (1, .int v1), (2, .int v2), (3, .int v3), (4, .int v4_h89), (5, .int v5_h89)]) hx hb dX9_raised_185 hl (k := 7) rfl rfl (by decide) rfl (fun ls hl => ?_)
                              refine lv_goto (tgt := 121) hx hb dX9_raised_188 (by decide) ?_
                              exact ih 0 (v7_h121 + 1) (upd s_then_16 (6 + v5_h89).toNatClampNeg ((s_then_16 (6 + v5_h89).toNatClampNeg) + 1)) _ _ _ hP hD hS (lv_sub hl [2, 3, 4, 5, 6, 7, 1, 0] rfl) h
                            · have h := (if_neg c_19).symm.trans h
                              refine lv_aload_n hx hb dX9_raised_154 rfl (lv_at hl 0 rfl) ?_
                              refine va_get (D := (dC, dI)) (ci := 7) (v := .ref q_s_then) (C := RX9) (T := TX9) (N := 23) hx hb hts w_1 hown hK hP 0 rfl rfl 7 (by decide) w_8 (fun _ h9 => h9) rfl dX9_raised_155 ?_
                              obtain ⟨r_20, hc_20, h⟩ := bd1_of h
                              refine cl_rS (As := [.ref q_s_then]) (rest := []) ⟨hx, hb, hml, hown, hts⟩ (m_X9_dryOf l dC dI cI cZ q_s_then (upd s_then_16 (6 + v5_h89).toNatClampNeg ((s_then_16 (6 + v5_h89).toNatClampNeg) + 1)) (r_20) hc_20) (va_cwS 1 hts gX9_raised_X9_dryOf rfl rfl rfl ddX9_dryOf ⟨Nat.le_of_ble_eq_true rfl, Nat.le_of_ble_eq_true rfl⟩) hK hP [6] rfl rfl rfl hl.1 (Nat.le_of_ble_eq_true rfl) ⟨Nat.zero_le _, Nat.zero_le _⟩ dX9_raised_158 ?_
                              refine lv_aload_n hx hb dX9_raised_161 rfl (lv_at hl 0 rfl) ?_
                              refine va_get (D := (dC, dI)) (ci := 7) (v := .ref q_s_item) (C := RX9) (T := TX9) (N := 23) hx hb hts w_1 hown hK hP 0 rfl rfl 4 (by decide) w_9 (fun _ h9 => h9) rfl dX9_raised_162 ?_
                              refine lv_bipush (v := 40) hx hb dX9_raised_165 (by decide) ?_
                              refine lv_iload_n hx hb dX9_raised_167 rfl (lv_at hl 1 rfl) ?_
                              refine lv_imul hx hb dX9_raised_168 ?_
                              refine lv_iload_n hx hb dX9_raised_169 rfl (lv_at hl 2 rfl) ?_
                              refine lv_iadd hx hb dX9_raised_170 ?_
                              refine lv_iload hx hb dX9_raised_171 (lv_at hl 7 rfl) ?_
                              refine lv_iadd hx hb dX9_raised_173 ?_
                              obtain ⟨b_21, h⟩ := chk_of h
                              refine va_iald hx hb hK hP 3 0 rfl rfl (i := (((40 * v1) + v2) + v7_h121)) b_21 dX9_raised_174 ?_
                              refine lv_icmp_ne (tgt := 182) hx hb dX9_raised_175 (by decide) (fun c_22 => ?_) (fun c_22 => ?_)
                              · have h := (if_neg c_22).symm.trans h
                                refine lv_iconst (v := 0) hx hb dX9_raised_182 (by decide) ?_
                                refine lv_istore (lv' := [(6, .int 0), (0, .ref q_s), (1, .int v1), (2, .int v2), (3, .int v3), (4, .int v4_h89), (5, .int v5_h89), (7, .int v7_h121)]) hx hb dX9_raised_183 hl (by decide) rfl (fun ls hl => ?_)
                                refine lv_iinc (v := (v7_h121 + 1)) (lv' := [(7, .int (v7_h121 + 1)), (6, .int 0), (0, .ref q_s), (1, .int v1), (2, .int v2), (3, .int v3), (4, .int v4_h89), (5, .int v5_h89)]) hx hb dX9_raised_185 hl (k := 7) rfl rfl (by decide) rfl (fun ls hl => ?_)
                                refine lv_goto (tgt := 121) hx hb dX9_raised_188 (by decide) ?_
                                exact ih 0 (v7_h121 + 1) (upd s_then_16 (6 + v5_h89).toNatClampNeg ((s_then_16 (6 + v5_h89).toNatClampNeg) + 1)) _ _ _ hP hD hS (lv_sub hl [2, 3, 4, 5, 6, 7, 1, 0] rfl) h
                              · have h := (if_pos c_22).symm.trans h
                                refine lv_iconst (v := 1) hx hb dX9_raised_178 (by decide) ?_
                                refine lv_goto (tgt := 183) hx hb dX9_raised_179 (by decide) ?_
                                refine lv_istore (lv' := [(6, .int 1), (0, .ref q_s), (1, .int v1), (2, .int v2), (3, .int v3), (4, .int v4_h89), (5, .int v5_h89), (7, .int v7_h121)]) hx hb dX9_raised_183 hl (by decide) rfl (fun ls hl => ?_)
                                refine lv_iinc (v := (v7_h121 + 1)) (lv' := [(7, .int (v7_h121 + 1)), (6, .int 1), (0, .ref q_s), (1, .int v1), (2, .int v2), (3, .int v3), (4, .int v4_h89), (5, .int v5_h89)]) hx hb dX9_raised_185 hl (k := 7) rfl rfl (by decide) rfl (fun ls hl => ?_)
                                refine lv_goto (tgt := 121) hx hb dX9_raised_188 (by decide) ?_
                                exact ih 1 (v7_h121 + 1) (upd s_then_16 (6 + v5_h89).toNatClampNeg ((s_then_16 (6 + v5_h89).toNatClampNeg) + 1)) _ _ _ hP hD hS (lv_sub hl [2, 3, 4, 5, 6, 7, 1, 0] rfl) h
                      refine KL121 _ (fun v6_e191 s_then_e191 H locs ls hP hD hS hl h => ?_) FU w0_j116 0 s_then_h89 _ _ _ hP hD hS (lv_sub hl [2, 3, 4, 5, 6, 7, 1, 0] rfl) h
                      refine lv_iload hx hb dX9_raised_191 (lv_at hl 4 rfl) ?_
                      refine lv_iload hx hb dX9_raised_193 (lv_at hl 6 rfl) ?_
                      refine lv_if_eq (tgt := 205) hx hb dX9_raised_195 (by decide) (fun c_23 => ?_) (fun c_23 => ?_)
                      · have h := (if_pos c_23).symm.trans h
                        refine lv_iconst (v := 0) hx hb dX9_raised_205 (by decide) ?_
                        refine lv_ior hx hb dX9_raised_206 ?_
                        refine lv_istore (lv' := [(4, .int (v4_h89 ||| 0)), (0, .ref q_s), (1, .int v1), (2, .int v2), (3, .int v3), (5, .int v5_h89), (6, .int v6_e191)]) hx hb dX9_raised_207 hl (by decide) rfl (fun ls hl => ?_)
                        refine lv_iinc (v := (v5_h89 + 1)) (lv' := [(5, .int (v5_h89 + 1)), (4, .int (v4_h89 ||| 0)), (0, .ref q_s), (1, .int v1), (2, .int v2), (3, .int v3), (6, .int v6_e191)]) hx hb dX9_raised_209 hl (k := 5) rfl rfl (by decide) rfl (fun ls hl => ?_)
                        refine lv_goto (tgt := 89) hx hb dX9_raised_212 (by decide) ?_
                        exact ih (v4_h89 ||| 0) (v5_h89 + 1) s_then_e191 _ _ _ hP hD hS (lv_sub hl [2, 3, 4, 5, 1, 0] rfl) h
                      · have h := (if_neg c_23).symm.trans h
                        refine lv_iconst (v := 1) hx hb dX9_raised_198 (by decide) ?_
                        refine lv_iload hx hb dX9_raised_199 (lv_at hl 5 rfl) ?_
                        refine lv_ishl hx hb dX9_raised_201 ?_
                        refine lv_goto (tgt := 206) hx hb dX9_raised_202 (by decide) ?_
                        refine lv_ior hx hb dX9_raised_206 ?_
                        refine lv_istore (lv' := [(4, .int (v4_h89 ||| (1 <<< (v5_h89 &&& 31)))), (0, .ref q_s), (1, .int v1), (2, .int v2), (3, .int v3), (5, .int v5_h89), (6, .int v6_e191)]) hx hb dX9_raised_207 hl (by decide) rfl (fun ls hl => ?_)
                        refine lv_iinc (v := (v5_h89 + 1)) (lv' := [(5, .int (v5_h89 + 1)), (4, .int (v4_h89 ||| (1 <<< (v5_h89 &&& 31)))), (0, .ref q_s), (1, .int v1), (2, .int v2), (3, .int v3), (6, .int v6_e191)]) hx hb dX9_raised_209 hl (k := 5) rfl rfl (by decide) rfl (fun ls hl => ?_)
                        refine lv_goto (tgt := 89) hx hb dX9_raised_212 (by decide) ?_
                        exact ih (v4_h89 ||| (1 <<< (v5_h89 &&& 31))) (v5_h89 + 1) s_then_e191 _ _ _ hP hD hS (lv_sub hl [2, 3, 4, 5, 1, 0] rfl) h
                    refine lv_icmp_ge (tgt := 115) hx hb dX9_raised_108 (by decide) (fun c_24 => ?_) (fun c_24 => ?_)
                    · have h := (if_pos c_24).symm.trans h
                      refine lv_iconst (v := 0) hx hb dX9_raised_115 (by decide) ?_
                      exact KJ116 0 _ _ _ hP hD hS (lv_sub hl [0, 1, 2, 3, 4, 5] rfl) h
                    · have h := (if_neg c_24).symm.trans h
                      refine lv_iconst (v := 1) hx hb dX9_raised_111 (by decide) ?_
                      refine lv_goto (tgt := 116) hx hb dX9_raised_112 (by decide) ?_
                      exact KJ116 1 _ _ _ hP hD hS (lv_sub hl [0, 1, 2, 3, 4, 5] rfl) h
              exact KL89 FU 0 0 s_then _ _ _ hP hD hS (lv_sub hl [2, 3, 4, 5, 1, 0] rfl) h
            · have h := (if_neg c_12).symm.trans h
              refine lv_aload_n hx hb dX9_raised_72 rfl (lv_at hl 0 rfl) ?_
              refine lv_iconst (v := 2) hx hb dX9_raised_73 (by decide) ?_
              obtain ⟨r_25, s_status_25, hc_25, h⟩ := bd2_of h
              refine cl_mVi (As := [.int 2]) (rest := []) (ws' := (W_M cI cZ q_s q_s_lane q_s_many q_s_item q_s_isle q_s_fresh q_s_then q_s_was q_s_tape q_s_isKept q_s_kept q_s_trace 0 s_status_25 s_lane s_many s_item s_isle s_fresh s_then s_was s_acts s_tape s_taped s_cursor s_start s_token s_value s_fault s_faultAt s_latest s_isKept s_kept s_trace s_traced)) (wr := []) ⟨hx, hb, hml, hown, hts⟩ (m_X9_finding l dC dI cI cZ q_s q_s_lane q_s_many q_s_item q_s_isle q_s_fresh q_s_then q_s_was q_s_tape q_s_isKept q_s_kept q_s_trace 0 s_status s_lane s_many s_item s_isle s_fresh s_then s_was s_acts s_tape s_taped s_cursor s_start s_token s_value s_fault s_faultAt s_latest s_isKept s_kept s_trace s_traced 2 _ (r_25, s_status_25) hc_25) (cwV 1 hts gX9_raised_X9_finding rfl rfl rfl ⟨rfl, ddX9_finding⟩ ⟨Nat.le_of_ble_eq_true rfl, Nat.le_of_ble_eq_true rfl⟩) hK hP hD hS hA [0, 1, 2, 3, 4, 5, 6, 7, 8, 9, 10, 11] [] rfl rfl rfl rfl (by decide) [0, 1, 2, 3, 4, 5, 6, 7, 8, 9, 10, 11] rfl rfl rfl rfl rfl rfl rfl hl.1 (Nat.le_of_ble_eq_true rfl) ⟨Nat.zero_le _, Nat.zero_le _⟩ dX9_raised_74 (fun H locs hP hD hS => ?_)
              have h := Option.some.inj h
              subst h
              rw [hQQ]
              subst hAe
              exact W.iret (v := r_25) hx hb hr (fun t ht hW => ⟨⟨_, (), rfl, rfl, by rw [ht]; exact hP, va_K.moved hW.alike hK, hD⟩, hS.F ht⟩) hS.2.2 dX9_raised_77
        · have h := (if_neg c_8).symm.trans h
          refine lv_aload_n hx hb dX9_raised_46 rfl (lv_at hl 0 rfl) ?_
          refine lv_iconst (v := 1) hx hb dX9_raised_47 (by decide) ?_
          obtain ⟨r_26, s_status_26, hc_26, h⟩ := bd2_of h
          refine cl_mVi (As := [.int 1]) (rest := []) (ws' := (W_M cI cZ q_s q_s_lane q_s_many q_s_item q_s_isle q_s_fresh q_s_then q_s_was q_s_tape q_s_isKept q_s_kept q_s_trace 0 s_status_26 s_lane s_many s_item s_isle s_fresh s_then s_was s_acts s_tape s_taped s_cursor s_start s_token s_value s_fault s_faultAt s_latest s_isKept s_kept s_trace s_traced)) (wr := []) ⟨hx, hb, hml, hown, hts⟩ (m_X9_finding l dC dI cI cZ q_s q_s_lane q_s_many q_s_item q_s_isle q_s_fresh q_s_then q_s_was q_s_tape q_s_isKept q_s_kept q_s_trace 0 s_status s_lane s_many s_item s_isle s_fresh s_then s_was s_acts s_tape s_taped s_cursor s_start s_token s_value s_fault s_faultAt s_latest s_isKept s_kept s_trace s_traced 1 _ (r_26, s_status_26) hc_26) (cwV 1 hts gX9_raised_X9_finding rfl rfl rfl ⟨rfl, ddX9_finding⟩ ⟨Nat.le_of_ble_eq_true rfl, Nat.le_of_ble_eq_true rfl⟩) hK hP hD hS hA [0, 1, 2, 3, 4, 5, 6, 7, 8, 9, 10, 11] [] rfl rfl rfl rfl (by decide) [0, 1, 2, 3, 4, 5, 6, 7, 8, 9, 10, 11] rfl rfl rfl rfl rfl rfl rfl hl.1 (Nat.le_of_ble_eq_true rfl) ⟨Nat.zero_le _, Nat.zero_le _⟩ dX9_raised_48 (fun H locs hP hD hS => ?_)
          have h := Option.some.inj h
          subst h
          rw [hQQ]
          subst hAe
          exact W.iret (v := r_26) hx hb hr (fun t ht hW => ⟨⟨_, (), rfl, rfl, by rw [ht]; exact hP, va_K.moved hW.alike hK, hD⟩, hS.F ht⟩) hS.2.2 dX9_raised_51
      · have h := (if_pos c_6).symm.trans h
        refine lv_ldc hx hb hown w_2 dX9_raised_34 ?_
        have h := Option.some.inj h
        subst h
        rw [hQQ]
        subst hAe
        exact W.iret (v := (-1000001)) hx hb hr (fun t ht hW => ⟨⟨_, (), rfl, rfl, by rw [ht]; exact hP, va_K.moved hW.alike hK, hD⟩, hS.F ht⟩) hS.2.2 dX9_raised_36
  · have h := (if_pos c_2).symm.trans h
    refine lv_ldc hx hb hown w_10 dX9_raised_12 ?_
    have h := Option.some.inj h
    subst h
    rw [hQQ]
    subst hAe
    exact W.iret (v := (-1000002)) hx hb hr (fun t ht hW => ⟨⟨_, (), rfl, rfl, by rw [ht]; exact hP, va_K.moved hW.alike hK, hD⟩, hS.F ht⟩) hS.2.2 dX9_raised_14
def fX9_who_L83 (s_status : Int32) (s_item : (Nat → Int32)) (v1 : Int32) (v2 : Int32) (v3 : Int32) (k83_120 : Option (Int32 × Int32 × Int32)) : Nat → Int32 → Option (Int32 × Int32 × Int32)
  | 0, _ => none
  | n + 1, v4_h83 => (if v3 ≤ v4_h83 then k83_120 else chk (¬ ((((40 * v1) + v2) + (2 * v4_h83)) < 0 ∨ 320 ≤ (((40 * v1) + v2) + (2 * v4_h83)).toNatClampNeg)) (bd1 (fX9_isCell (s_item (((40 * v1) + v2) + (2 * v4_h83)).toNatClampNeg)) (fun r_15 => (if r_15 = 0 then some ((-1000001), 0, s_status) else ((fX9_who_L83 s_status s_item v1 v2 v3 k83_120 n) (v4_h83 + 1))))))
def fX9_who_L143 (s_item : (Nat → Int32)) (s_isle : (Nat → Int32)) (v1 : Int32) (v2 : Int32) (v3 : Int32) (v5_h131 : Int32) (k143_208 : Int32 → Option (Int32 × Int32 × Int32)) : Nat → Int32 → Int32 → Option (Int32 × Int32 × Int32)
  | 0, _, _ => none
  | n + 1, v6_h143, v7_h143 => (if v3 ≤ v7_h143 then (k143_208 v6_h143) else (if v6_h143 = 0 then ((fX9_who_L143 s_item s_isle v1 v2 v3 v5_h131 k143_208 n) 0 (v7_h143 + 1)) else chk (¬ ((((40 * v1) + v2) + (2 * v7_h143)) < 0 ∨ 320 ≤ (((40 * v1) + v2) + (2 * v7_h143)).toNatClampNeg)) (bd1 (fX9_priceBy s_isle v5_h131 (s_item (((40 * v1) + v2) + (2 * v7_h143)).toNatClampNeg)) (fun r_21 => chk (¬ (((((40 * v1) + v2) + (2 * v7_h143)) + 1) < 0 ∨ 320 ≤ ((((40 * v1) + v2) + (2 * v7_h143)) + 1).toNatClampNeg)) ((if r_21 = (s_item ((((40 * v1) + v2) + (2 * v7_h143)) + 1).toNatClampNeg) then ((fX9_who_L143 s_item s_isle v1 v2 v3 v5_h131 k143_208 n) 1 (v7_h143 + 1)) else ((fX9_who_L143 s_item s_isle v1 v2 v3 v5_h131 k143_208 n) 0 (v7_h143 + 1))))))))
def fX9_who_L131 (s_item : (Nat → Int32)) (s_isle : (Nat → Int32)) (v1 : Int32) (v2 : Int32) (v3 : Int32) : Nat → Int32 → Int32 → Option (Int32 × Int32 × Int32)
  | 0, _, _ => none
  | n + 1, v4_h131, v5_h131 => (if 5 < v5_h131 then some (v4_h131, 0, 0) else (fX9_who_L143 s_item s_isle v1 v2 v3 v5_h131 (fun v6_e208 => (if v6_e208 = 0 then ((fX9_who_L131 s_item s_isle v1 v2 v3 n) (v4_h131 ||| 0) (v5_h131 + 1)) else ((fX9_who_L131 s_item s_isle v1 v2 v3 n) (v4_h131 ||| (1 <<< (v5_h131 &&& 31))) (v5_h131 + 1)))) FU 1 0))
def fX9_who (s_status : Int32) (s_lane : (Nat → Int32)) (s_many : (Nat → Int32)) (s_item : (Nat → Int32)) (s_isle : (Nat → Int32)) (v1 : Int32) (v2 : Int32) (v3 : Int32) : Option (Int32 × Int32 × Int32) :=
  bd1 (fX9_isThere s_isle) (fun r_1 => (if r_1 = 0 then some ((-1000002), 0, s_status) else bd1 (fX9_isRow v1) (fun r_3 => (if r_3 = 0 then some ((-1000001), 0, s_status) else bd1 (fX9_in v3.toInt64 1 12) (fun r_5 => (if r_5 = 0 then some ((-1000001), 0, s_status) else chk (¬ (v1 < 0 ∨ 8 ≤ v1.toNatClampNeg)) ((if 0 ≤ (s_lane v1.toNatClampNeg) then (if v2 < 0 then bd2 (fX9_finding 2) (fun r_10 s_status_10 => some (r_10, 0, s_status_10)) else chk (¬ (v1 < 0 ∨ 8 ≤ v1.toNatClampNeg)) ((if (lg_cmp (v2.toInt64 + ((2 * v3).toInt64)) ((s_many v1.toNatClampNeg).toInt64)) ≤ 0 then (fX9_who_L83 s_status s_item v1 v2 v3 ((fX9_who_L131 s_item s_isle v1 v2 v3 FU 0 1)) FU 0) else bd2 (fX9_finding 2) (fun r_25 s_status_25 => some (r_25, 0, s_status_25))))) else bd2 (fX9_finding 1) (fun r_26 s_status_26 => some (r_26, 0, s_status_26))))))))))
abbrev rmX9_who : Room := { frames := 2, cells := 0, slots := 0, locals := 45 }
theorem ddX9_who : yX9_who.cls ≠ "java/lang/invoke/MethodHandle" ∧ yX9_who.cls ≠ "java/lang/invoke/VarHandle" ∧ (parseMethodDescriptor yX9_who.desc).map (fun d => d.parameters.length) = some 3 := by decide +kernel
set_option maxHeartbeats 4000000 in
set_option maxRecDepth 100000 in
theorem m_X9_who (l : Launch) (dC : Nat → ClassId) (dI : Nat → Nat → Nat) (cI cZ : ClassId) (q_s q_s_lane q_s_many q_s_item q_s_isle q_s_fresh q_s_then q_s_was q_s_tape q_s_isKept q_s_kept q_s_trace : Nat) (s_thrown : Int32) (s_status : Int32) (s_lane : (Nat → Int32)) (s_many : (Nat → Int32)) (s_item : (Nat → Int32)) (s_isle : (Nat → Int32)) (s_fresh : (Nat → Int32)) (s_then : (Nat → Int32)) (s_was : (Nat → Int32)) (s_acts : Int32) (s_tape : (Nat → Int32)) (s_taped : Int32) (s_cursor : Int32) (s_start : Int32) (s_token : Int32) (s_value : Int32) (s_fault : Int32) (s_faultAt : Int32) (s_latest : Int32) (s_isKept : (Nat → Int32)) (s_kept : (Nat → Int32)) (s_trace : (Nat → Int32)) (s_traced : Int32) (v1 : Int32) (v2 : Int32) (v3 : Int32) (sz : Nat) (res : Int32 × Int32 × Int32) (hf : fX9_who s_status s_lane s_many s_item s_isle v1 v2 v3 = some res) : Met l yX9_who wsX9_who rmX9_who (mtPc (dC, dI) (tyZ cI cZ) ((W_M cI cZ q_s q_s_lane q_s_many q_s_item q_s_isle q_s_fresh q_s_then q_s_was q_s_tape q_s_isKept q_s_kept q_s_trace s_thrown s_status s_lane s_many s_item s_isle s_fresh s_then s_was s_acts s_tape s_taped s_cursor s_start s_token s_value s_fault s_faultAt s_latest s_isKept s_kept s_trace s_traced)) [.ref q_s, .int v1, .int v2, .int v3] sz) (mtQi (dC, dI) (tyZ cI cZ) ((W_M cI cZ q_s q_s_lane q_s_many q_s_item q_s_isle q_s_fresh q_s_then q_s_was q_s_tape q_s_isKept q_s_kept q_s_trace s_thrown s_status s_lane s_many s_item s_isle s_fresh s_then s_was s_acts s_tape s_taped s_cursor s_start s_token s_value s_fault s_faultAt s_latest s_isKept s_kept s_trace s_traced)) ((W_M cI cZ q_s q_s_lane q_s_many q_s_item q_s_isle q_s_fresh q_s_then q_s_was q_s_tape q_s_isKept q_s_kept q_s_trace res.2.1 res.2.2 s_lane s_many s_item s_isle s_fresh s_then s_was s_acts s_tape s_taped s_cursor s_start s_token s_value s_fault s_faultAt s_latest s_isKept s_kept s_trace s_traced)) res.1 sz) 0 0 (va_A ((W_M cI cZ q_s q_s_lane q_s_many q_s_item q_s_isle q_s_fresh q_s_then q_s_was q_s_tape q_s_isKept q_s_kept q_s_trace s_thrown s_status s_lane s_many s_item s_isle s_fresh s_then s_was s_acts s_tape s_taped s_cursor s_start s_token s_value s_fault s_faultAt s_latest s_isKept s_kept s_trace s_traced)) sz) := by
  refine Met.ofW (cc := cX9_who) (maxL := 9) (ret := (some .int)) (by decide) rfl ?_
  intro p e s m args below meth c s₁ B hml hv
  obtain ⟨rfl, hsz, hP, hK, hD0⟩ := hv
  have hx := B.exec
  have hb := B.bytes
  have hr := B.returns
  have hts := atoms_spec (ws := wsX9_who) B.pre
  have hown : s.vm.findClass RX9 = some m.cls := findClass_of_methodNamed B.named
  have hlocks := B.notSynchronized
  subst hsz
  have hD := hD0.self (sz := s.heap.size)
  obtain ⟨A, hAe⟩ : ∃ A, A = va_A ((W_M cI cZ q_s q_s_lane q_s_many q_s_item q_s_isle q_s_fresh q_s_then q_s_was q_s_tape q_s_isKept q_s_kept q_s_trace s_thrown s_status s_lane s_many s_item s_isle s_fresh s_then s_was s_acts s_tape s_taped s_cursor s_start s_token s_value s_fault s_faultAt s_latest s_isKept s_kept s_trace s_traced)) s.heap.size := ⟨_, rfl⟩
  rw [← hAe] at hD
  have hA : ∀ q : Nat, s.heap.size ≤ q → A q := fun q h => by rw [hAe]; exact Or.inr h
  have hS : va_S A s.heap s.heap [] := va_S.rf
  have hl := lv_entry ([.ref q_s, .int v1, .int v2, .int v3]) (n := 9) (Nat.le_of_ble_eq_true rfl)
  rw [lg_entry_eq]
  generalize (lg_sl ([.ref q_s, .int v1, .int v2, .int v3]) ++ List.replicate (9 - (lg_sl ([.ref q_s, .int v1, .int v2, .int v3])).length) Slot.unset).toArray = ls at hl ⊢
  have hl : lv_has ls 9 [(0, .ref q_s), (1, .int v1), (2, .int v2), (3, .int v3)] := hl
  obtain ⟨QQ, hQQ⟩ : ∃ Q, Q = MQ below (mtQi (dC, dI) (tyZ cI cZ) ((W_M cI cZ q_s q_s_lane q_s_many q_s_item q_s_isle q_s_fresh q_s_then q_s_was q_s_tape q_s_isKept q_s_kept q_s_trace s_thrown s_status s_lane s_many s_item s_isle s_fresh s_then s_was s_acts s_tape s_taped s_cursor s_start s_token s_value s_fault s_faultAt s_latest s_isKept s_kept s_trace s_traced)) ((W_M cI cZ q_s q_s_lane q_s_many q_s_item q_s_isle q_s_fresh q_s_then q_s_was q_s_tape q_s_isKept q_s_kept q_s_trace res.2.1 res.2.2 s_lane s_many s_item s_isle s_fresh s_then s_was s_acts s_tape s_taped s_cursor s_start s_token s_value s_fault s_faultAt s_latest s_isKept s_kept s_trace s_traced)) res.1 s.heap.size) ([.ref q_s, .int v1, .int v2, .int v3] : List Value).toArray s 0 0 (va_A ((W_M cI cZ q_s q_s_lane q_s_many q_s_item q_s_isle q_s_fresh q_s_then q_s_was q_s_tape q_s_isKept q_s_kept q_s_trace s_thrown s_status s_lane s_many s_item s_isle s_fresh s_then s_was s_acts s_tape s_taped s_cursor s_start s_token s_value s_fault s_faultAt s_latest s_isKept s_kept s_trace s_traced)) s.heap.size) := ⟨_, rfl⟩
  rw [← hQQ]
  have w_0 := hts (Cond.fieldLink RX9 44 "TideInchesModel" "thrown" "I") (List.mem_of_getElem? (i := 1) rfl)
  have w_1 := (fun w hw => List.mem_cons_of_mem _ (List.mem_append_right _ hw) : ∀ w ∈ wsX90, w ∈ wsX9_who)
  have w_2 := hts (Cond.constant RX9 64 (-1000001)) (List.mem_of_getElem? (i := 4) rfl)
  have w_3 := hts (Cond.constantLong RX9 231 (12)) (List.mem_of_getElem? (i := 3) rfl)
  have w_4 := hts (Cond.fieldLink RX9 7 "TideInchesModel" "lane" "[I") (List.mem_of_getElem? (i := 5) rfl)
  have w_5 := hts (Cond.fieldLink RX9 13 "TideInchesModel" "many" "[I") (List.mem_of_getElem? (i := 6) rfl)
  have w_6 := hts (Cond.fieldLink RX9 16 "TideInchesModel" "item" "[I") (List.mem_of_getElem? (i := 7) rfl)
  have w_7 := hts (Cond.fieldLink RX9 48 "TideInchesModel" "status" "I") (List.mem_of_getElem? (i := 8) rfl)
  have w_8 := hts (Cond.fieldLink RX9 19 "TideInchesModel" "isle" "[I") (List.mem_of_getElem? (i := 9) rfl)
  have w_9 := hts (Cond.constant RX9 181 (-1000002)) (List.mem_of_getElem? (i := 2) rfl)
  have h := hf
  unfold fX9_who at h
  refine lv_aload_n hx hb dX9_who_0 rfl (lv_at hl 0 rfl) ?_
  refine lv_iconst (v := 0) hx hb dX9_who_1 (by decide) ?_
  refine va_put (D := (dC, dI)) (ci := 7) (v := .int 0) (ty := .int) (C := RX9) (T := TX9) (N := 23) hx hb hts w_1 tyX9 tyX9_ok nmX9 hown hK hP hD hS 0 rfl rfl 0 (by decide) w_0 (fun _ h9 => h9) rfl (by decide +kernel) rfl rfl (Nat.le_of_ble_eq_true rfl) dX9_who_2 (fun H locs hP hD hS => ?_)
  have hP : va_P (dC, dI) vwCl ((W_M cI cZ q_s q_s_lane q_s_many q_s_item q_s_isle q_s_fresh q_s_then q_s_was q_s_tape q_s_isKept q_s_kept q_s_trace 0 s_status s_lane s_many s_item s_isle s_fresh s_then s_was s_acts s_tape s_taped s_cursor s_start s_token s_value s_fault s_faultAt s_latest s_isKept s_kept s_trace s_traced)) H := hP
  have hD : va_D A ((W_M cI cZ q_s q_s_lane q_s_many q_s_item q_s_isle q_s_fresh q_s_then q_s_was q_s_tape q_s_isKept q_s_kept q_s_trace 0 s_status s_lane s_many s_item s_isle s_fresh s_then s_was s_acts s_tape s_taped s_cursor s_start s_token s_value s_fault s_faultAt s_latest s_isKept s_kept s_trace s_traced)) := hD
  refine lv_aload_n hx hb dX9_who_5 rfl (lv_at hl 0 rfl) ?_
  obtain ⟨r_1, hc_1, h⟩ := bd1_of h
  refine cl_rV (As := []) (rest := []) ⟨hx, hb, hml, hown, hts⟩ (m_X9_isThere l dC dI cI cZ q_s q_s_lane q_s_many q_s_item q_s_isle q_s_fresh q_s_then q_s_was q_s_tape q_s_isKept q_s_kept q_s_trace 0 s_status s_lane s_many s_item s_isle s_fresh s_then s_was s_acts s_tape s_taped s_cursor s_start s_token s_value s_fault s_faultAt s_latest s_isKept s_kept s_trace s_traced (r_1) hc_1) (cwV 0 hts gX9_who_X9_isThere rfl rfl rfl ⟨rfl, ddX9_isThere⟩ ⟨Nat.le_of_ble_eq_true rfl, Nat.le_of_ble_eq_true rfl⟩) hK hP [0, 1, 2, 3, 4, 5, 6, 7, 8, 9, 10, 11] rfl rfl rfl rfl rfl hl.1 (Nat.le_of_ble_eq_true rfl) ⟨Nat.zero_le _, Nat.zero_le _⟩ dX9_who_6 ?_
  refine lv_if_ne (tgt := 15) hx hb dX9_who_9 (by decide) (fun c_2 => ?_) (fun c_2 => ?_)
  · have h := (if_neg c_2).symm.trans h
    refine lv_iload_n hx hb dX9_who_15 rfl (lv_at hl 1 rfl) ?_
    obtain ⟨r_3, hc_3, h⟩ := bd1_of h
    refine cl_pS (As := [.int v1]) (rest := []) ⟨hx, hb, hml, hown, hts⟩ (m_X9_isRow l v1 (r_3) hc_3) (va_cwS 1 hts gX9_who_X9_isRow rfl rfl rfl ddX9_isRow ⟨Nat.le_of_ble_eq_true rfl, Nat.le_of_ble_eq_true rfl⟩) rfl rfl hl.1 (Nat.le_of_ble_eq_true rfl) ⟨Nat.zero_le _, Nat.zero_le _⟩ dX9_who_16 ?_
    refine lv_if_eq (tgt := 34) hx hb dX9_who_19 (by decide) (fun c_4 => ?_) (fun c_4 => ?_)
    · have h := (if_pos c_4).symm.trans h
      refine lv_ldc hx hb hown w_2 dX9_who_34 ?_
      have h := Option.some.inj h
      subst h
      rw [hQQ]
      subst hAe
      exact W.iret (v := (-1000001)) hx hb hr (fun t ht hW => ⟨⟨_, (), rfl, rfl, by rw [ht]; exact hP, va_K.moved hW.alike hK, hD⟩, hS.F ht⟩) hS.2.2 dX9_who_36
    · have h := (if_neg c_4).symm.trans h
      refine lv_iload_n hx hb dX9_who_22 rfl (lv_at hl 3 rfl) ?_
      refine lv_i2l hx hb dX9_who_23 rfl ?_
      refine lv_lconst (v := 1) hx hb dX9_who_24 (by decide) ?_
      refine lv_ldc2 hx hb hown w_3 dX9_who_25 ?_
      obtain ⟨r_5, hc_5, h⟩ := bd1_of h
      refine cl_pS (As := [.long v3.toInt64, .long 1, .long 12]) (rest := []) ⟨hx, hb, hml, hown, hts⟩ (m_X9_in l v3.toInt64 1 12 (r_5) hc_5) (va_cwS 3 hts gX9_who_X9_in rfl rfl rfl ddX9_in ⟨Nat.le_of_ble_eq_true rfl, Nat.le_of_ble_eq_true rfl⟩) rfl rfl hl.1 (Nat.le_of_ble_eq_true rfl) ⟨Nat.zero_le _, Nat.zero_le _⟩ dX9_who_28 ?_
      refine lv_if_ne (tgt := 37) hx hb dX9_who_31 (by decide) (fun c_6 => ?_) (fun c_6 => ?_)
      · have h := (if_neg c_6).symm.trans h
        refine lv_aload_n hx hb dX9_who_37 rfl (lv_at hl 0 rfl) ?_
        refine va_get (D := (dC, dI)) (ci := 7) (v := .ref q_s_lane) (C := RX9) (T := TX9) (N := 23) hx hb hts w_1 hown hK hP 0 rfl rfl 2 (by decide) w_4 (fun _ h9 => h9) rfl dX9_who_38 ?_
        refine lv_iload_n hx hb dX9_who_41 rfl (lv_at hl 1 rfl) ?_
        obtain ⟨b_7, h⟩ := chk_of h
        refine va_iald hx hb hK hP 1 0 rfl rfl (i := v1) b_7 dX9_who_42 ?_
        refine lv_if_ge (tgt := 52) hx hb dX9_who_43 (by decide) (fun c_8 => ?_) (fun c_8 => ?_)
        · have h := (if_pos c_8).symm.trans h
          refine lv_iload_n hx hb dX9_who_52 rfl (lv_at hl 2 rfl) ?_
          refine lv_if_lt (tgt := 74) hx hb dX9_who_53 (by decide) (fun c_9 => ?_) (fun c_9 => ?_)
          · have h := (if_pos c_9).symm.trans h
            refine lv_aload_n hx hb dX9_who_74 rfl (lv_at hl 0 rfl) ?_
            refine lv_iconst (v := 2) hx hb dX9_who_75 (by decide) ?_
            obtain ⟨r_10, s_status_10, hc_10, h⟩ := bd2_of h
            refine cl_mVi (As := [.int 2]) (rest := []) (ws' := (W_M cI cZ q_s q_s_lane q_s_many q_s_item q_s_isle q_s_fresh q_s_then q_s_was q_s_tape q_s_isKept q_s_kept q_s_trace 0 s_status_10 s_lane s_many s_item s_isle s_fresh s_then s_was s_acts s_tape s_taped s_cursor s_start s_token s_value s_fault s_faultAt s_latest s_isKept s_kept s_trace s_traced)) (wr := []) ⟨hx, hb, hml, hown, hts⟩ (m_X9_finding l dC dI cI cZ q_s q_s_lane q_s_many q_s_item q_s_isle q_s_fresh q_s_then q_s_was q_s_tape q_s_isKept q_s_kept q_s_trace 0 s_status s_lane s_many s_item s_isle s_fresh s_then s_was s_acts s_tape s_taped s_cursor s_start s_token s_value s_fault s_faultAt s_latest s_isKept s_kept s_trace s_traced 2 _ (r_10, s_status_10) hc_10) (cwV 1 hts gX9_who_X9_finding rfl rfl rfl ⟨rfl, ddX9_finding⟩ ⟨Nat.le_of_ble_eq_true rfl, Nat.le_of_ble_eq_true rfl⟩) hK hP hD hS hA [0, 1, 2, 3, 4, 5, 6, 7, 8, 9, 10, 11] [] rfl rfl rfl rfl (by decide) [0, 1, 2, 3, 4, 5, 6, 7, 8, 9, 10, 11] rfl rfl rfl rfl rfl rfl rfl hl.1 (Nat.le_of_ble_eq_true rfl) ⟨Nat.zero_le _, Nat.zero_le _⟩ dX9_who_76 (fun H locs hP hD hS => ?_)
            have h := Option.some.inj h
            subst h
            rw [hQQ]
            subst hAe
            exact W.iret (v := r_10) hx hb hr (fun t ht hW => ⟨⟨_, (), rfl, rfl, by rw [ht]; exact hP, va_K.moved hW.alike hK, hD⟩, hS.F ht⟩) hS.2.2 dX9_who_79
          · have h := (if_neg c_9).symm.trans h
            refine lv_iload_n hx hb dX9_who_56 rfl (lv_at hl 2 rfl) ?_
            refine lv_i2l hx hb dX9_who_57 rfl ?_
            refine lv_iconst (v := 2) hx hb dX9_who_58 (by decide) ?_
            refine lv_iload_n hx hb dX9_who_59 rfl (lv_at hl 3 rfl) ?_
            refine lv_imul hx hb dX9_who_60 ?_
            refine lv_i2l hx hb dX9_who_61 rfl ?_
            refine lv_ladd hx hb dX9_who_62 ?_
            refine lv_aload_n hx hb dX9_who_63 rfl (lv_at hl 0 rfl) ?_
            refine va_get (D := (dC, dI)) (ci := 7) (v := .ref q_s_many) (C := RX9) (T := TX9) (N := 23) hx hb hts w_1 hown hK hP 0 rfl rfl 3 (by decide) w_5 (fun _ h9 => h9) rfl dX9_who_64 ?_
            refine lv_iload_n hx hb dX9_who_67 rfl (lv_at hl 1 rfl) ?_
            obtain ⟨b_11, h⟩ := chk_of h
            refine va_iald hx hb hK hP 2 0 rfl rfl (i := v1) b_11 dX9_who_68 ?_
            refine lv_i2l hx hb dX9_who_69 rfl ?_
            refine W.lcmp hx hb dX9_who_70 ?_
            refine lv_if_le (tgt := 80) hx hb dX9_who_71 (by decide) (fun c_12 => ?_) (fun c_12 => ?_)
            · have h := (if_pos c_12).symm.trans h
              refine lv_iconst (v := 0) hx hb dX9_who_80 (by decide) ?_
              refine lv_istore (lv' := [(4, .int 0), (0, .ref q_s), (1, .int v1), (2, .int v2), (3, .int v3)]) hx hb dX9_who_81 hl (by decide) rfl (fun ls hl => ?_)
              have KL83 : ∀ (k83_120 : Option (Int32 × Int32 × Int32)) , (∀ (H : Heap) (locs : List Loc) (ls : Array Slot), va_P (dC, dI) vwCl ((W_M cI cZ q_s q_s_lane q_s_many q_s_item q_s_isle q_s_fresh q_s_then q_s_was q_s_tape q_s_isKept q_s_kept q_s_trace 0 s_status s_lane s_many s_item s_isle s_fresh s_then s_was s_acts s_tape s_taped s_cursor s_start s_token s_value s_fault s_faultAt s_latest s_isKept s_kept s_trace s_traced)) H → va_D A ((W_M cI cZ q_s q_s_lane q_s_many q_s_item q_s_isle q_s_fresh q_s_then q_s_was q_s_tape q_s_isKept q_s_kept q_s_trace 0 s_status s_lane s_many s_item s_isle s_fresh s_then s_was s_acts s_tape s_taped s_cursor s_start s_token s_value s_fault s_faultAt s_latest s_isKept s_kept s_trace s_traced)) → va_S A s.heap H locs → lv_has ls 9 [(0, .ref q_s), (1, .int v1), (2, .int v2), (3, .int v3)] → k83_120 = some res → W p l e (headSpec wsX9_who rmX9_who).room s m ([.ref q_s, .int v1, .int v2, .int v3] : List Value).toArray below meth c H locs 0 0 QQ (F0 m 120 ls [])) → ∀ (n : Nat) (v4_h83 : Int32) (H : Heap) (locs : List Loc) (ls : Array Slot), va_P (dC, dI) vwCl ((W_M cI cZ q_s q_s_lane q_s_many q_s_item q_s_isle q_s_fresh q_s_then q_s_was q_s_tape q_s_isKept q_s_kept q_s_trace 0 s_status s_lane s_many s_item s_isle s_fresh s_then s_was s_acts s_tape s_taped s_cursor s_start s_token s_value s_fault s_faultAt s_latest s_isKept s_kept s_trace s_traced)) H → va_D A ((W_M cI cZ q_s q_s_lane q_s_many q_s_item q_s_isle q_s_fresh q_s_then q_s_was q_s_tape q_s_isKept q_s_kept q_s_trace 0 s_status s_lane s_many s_item s_isle s_fresh s_then s_was s_acts s_tape s_taped s_cursor s_start s_token s_value s_fault s_faultAt s_latest s_isKept s_kept s_trace s_traced)) → va_S A s.heap H locs → lv_has ls 9 [(0, .ref q_s), (1, .int v1), (2, .int v2), (3, .int v3), (4, .int v4_h83)] → fX9_who_L83 s_status s_item v1 v2 v3 k83_120 n v4_h83 = some res → W p l e (headSpec wsX9_who rmX9_who).room s m ([.ref q_s, .int v1, .int v2, .int v3] : List Value).toArray below meth c H locs 0 0 QQ (F0 m 83 ls []) := by
                intro k83_120 Kk83_120 n
                induction n with
                | zero => intro v4_h83 H locs ls hP hD hS hl h; rw [fX9_who_L83.eq_1] at h; cases h
                | succ n ih =>
                  intro v4_h83 H locs ls hP hD hS hl h
                  rw [fX9_who_L83.eq_2] at h
                  refine lv_iload hx hb dX9_who_83 (lv_at hl 4 rfl) ?_
                  refine lv_iload_n hx hb dX9_who_85 rfl (lv_at hl 3 rfl) ?_
                  refine lv_icmp_ge (tgt := 120) hx hb dX9_who_86 (by decide) (fun c_13 => ?_) (fun c_13 => ?_)
                  · have h := (if_pos c_13).symm.trans h
                    exact Kk83_120 _ _ _ hP hD hS (lv_sub hl [0, 1, 2, 3] rfl) h
                  · have h := (if_neg c_13).symm.trans h
                    refine lv_aload_n hx hb dX9_who_89 rfl (lv_at hl 0 rfl) ?_
                    refine va_get (D := (dC, dI)) (ci := 7) (v := .ref q_s_item) (C := RX9) (T := TX9) (N := 23) hx hb hts w_1 hown hK hP 0 rfl rfl 4 (by decide) w_6 (fun _ h9 => h9) rfl dX9_who_90 ?_
                    refine lv_bipush (v := 40) hx hb dX9_who_93 (by decide) ?_
                    refine lv_iload_n hx hb dX9_who_95 rfl (lv_at hl 1 rfl) ?_
                    refine lv_imul hx hb dX9_who_96 ?_
                    refine lv_iload_n hx hb dX9_who_97 rfl (lv_at hl 2 rfl) ?_
                    refine lv_iadd hx hb dX9_who_98 ?_
                    refine lv_iconst (v := 2) hx hb dX9_who_99 (by decide) ?_
                    refine lv_iload hx hb dX9_who_100 (lv_at hl 4 rfl) ?_
                    refine lv_imul hx hb dX9_who_102 ?_
                    refine lv_iadd hx hb dX9_who_103 ?_
                    obtain ⟨b_14, h⟩ := chk_of h
                    refine va_iald hx hb hK hP 3 0 rfl rfl (i := (((40 * v1) + v2) + (2 * v4_h83))) b_14 dX9_who_104 ?_
                    obtain ⟨r_15, hc_15, h⟩ := bd1_of h
                    refine cl_pS (As := [.int (s_item (((40 * v1) + v2) + (2 * v4_h83)).toNatClampNeg)]) (rest := []) ⟨hx, hb, hml, hown, hts⟩ (m_X9_isCell l (s_item (((40 * v1) + v2) + (2 * v4_h83)).toNatClampNeg) (r_15) hc_15) (va_cwS 1 hts gX9_who_X9_isCell rfl rfl rfl ddX9_isCell ⟨Nat.le_of_ble_eq_true rfl, Nat.le_of_ble_eq_true rfl⟩) rfl rfl hl.1 (Nat.le_of_ble_eq_true rfl) ⟨Nat.zero_le _, Nat.zero_le _⟩ dX9_who_105 ?_
                    refine lv_if_ne (tgt := 114) hx hb dX9_who_108 (by decide) (fun c_16 => ?_) (fun c_16 => ?_)
                    · have h := (if_neg c_16).symm.trans h
                      refine lv_iinc (v := (v4_h83 + 1)) (lv' := [(4, .int (v4_h83 + 1)), (0, .ref q_s), (1, .int v1), (2, .int v2), (3, .int v3)]) hx hb dX9_who_114 hl (k := 4) rfl rfl (by decide) rfl (fun ls hl => ?_)
                      refine lv_goto (tgt := 83) hx hb dX9_who_117 (by decide) ?_
                      exact ih (v4_h83 + 1) _ _ _ hP hD hS (lv_sub hl [1, 2, 3, 4, 0] rfl) h
                    · have h := (if_pos c_16).symm.trans h
                      refine lv_ldc hx hb hown w_2 dX9_who_111 ?_
                      have h := Option.some.inj h
                      subst h
                      rw [hQQ]
                      subst hAe
                      exact W.iret (v := (-1000001)) hx hb hr (fun t ht hW => ⟨⟨_, (), rfl, rfl, by rw [ht]; exact hP, va_K.moved hW.alike hK, hD⟩, hS.F ht⟩) hS.2.2 dX9_who_113
              refine KL83 _ (fun H locs ls hP hD hS hl h => ?_) FU 0 _ _ _ hP hD hS (lv_sub hl [1, 2, 3, 4, 0] rfl) h
              refine lv_aload_n hx hb dX9_who_120 rfl (lv_at hl 0 rfl) ?_
              refine lv_iconst (v := 0) hx hb dX9_who_121 (by decide) ?_
              refine va_put (D := (dC, dI)) (ci := 7) (v := .int 0) (ty := .int) (C := RX9) (T := TX9) (N := 23) hx hb hts w_1 tyX9 tyX9_ok nmX9 hown hK hP hD hS 0 rfl rfl 1 (by decide) w_7 (fun _ h9 => h9) rfl (by decide +kernel) rfl rfl (Nat.le_of_ble_eq_true rfl) dX9_who_122 (fun H locs hP hD hS => ?_)
              have hP : va_P (dC, dI) vwCl ((W_M cI cZ q_s q_s_lane q_s_many q_s_item q_s_isle q_s_fresh q_s_then q_s_was q_s_tape q_s_isKept q_s_kept q_s_trace 0 0 s_lane s_many s_item s_isle s_fresh s_then s_was s_acts s_tape s_taped s_cursor s_start s_token s_value s_fault s_faultAt s_latest s_isKept s_kept s_trace s_traced)) H := hP
              have hD : va_D A ((W_M cI cZ q_s q_s_lane q_s_many q_s_item q_s_isle q_s_fresh q_s_then q_s_was q_s_tape q_s_isKept q_s_kept q_s_trace 0 0 s_lane s_many s_item s_isle s_fresh s_then s_was s_acts s_tape s_taped s_cursor s_start s_token s_value s_fault s_faultAt s_latest s_isKept s_kept s_trace s_traced)) := hD
              refine lv_iconst (v := 0) hx hb dX9_who_125 (by decide) ?_
              refine lv_istore (lv' := [(4, .int 0), (0, .ref q_s), (1, .int v1), (2, .int v2), (3, .int v3)]) hx hb dX9_who_126 hl (by decide) rfl (fun ls hl => ?_)
              refine lv_iconst (v := 1) hx hb dX9_who_128 (by decide) ?_
              refine lv_istore (lv' := [(5, .int 1), (4, .int 0), (0, .ref q_s), (1, .int v1), (2, .int v2), (3, .int v3)]) hx hb dX9_who_129 hl (by decide) rfl (fun ls hl => ?_)
              have KL131 : ∀ (n : Nat) (v4_h131 : Int32) (v5_h131 : Int32) (H : Heap) (locs : List Loc) (ls : Array Slot), va_P (dC, dI) vwCl ((W_M cI cZ q_s q_s_lane q_s_many q_s_item q_s_isle q_s_fresh q_s_then q_s_was q_s_tape q_s_isKept q_s_kept q_s_trace 0 0 s_lane s_many s_item s_isle s_fresh s_then s_was s_acts s_tape s_taped s_cursor s_start s_token s_value s_fault s_faultAt s_latest s_isKept s_kept s_trace s_traced)) H → va_D A ((W_M cI cZ q_s q_s_lane q_s_many q_s_item q_s_isle q_s_fresh q_s_then q_s_was q_s_tape q_s_isKept q_s_kept q_s_trace 0 0 s_lane s_many s_item s_isle s_fresh s_then s_was s_acts s_tape s_taped s_cursor s_start s_token s_value s_fault s_faultAt s_latest s_isKept s_kept s_trace s_traced)) → va_S A s.heap H locs → lv_has ls 9 [(0, .ref q_s), (1, .int v1), (2, .int v2), (3, .int v3), (4, .int v4_h131), (5, .int v5_h131)] → fX9_who_L131 s_item s_isle v1 v2 v3 n v4_h131 v5_h131 = some res → W p l e (headSpec wsX9_who rmX9_who).room s m ([.ref q_s, .int v1, .int v2, .int v3] : List Value).toArray below meth c H locs 0 0 QQ (F0 m 131 ls []) := by
                intro  n
                induction n with
                | zero => intro v4_h131 v5_h131 H locs ls hP hD hS hl h; rw [fX9_who_L131.eq_1] at h; cases h
                | succ n ih =>
                  intro v4_h131 v5_h131 H locs ls hP hD hS hl h
                  rw [fX9_who_L131.eq_2] at h
                  refine lv_iload hx hb dX9_who_131 (lv_at hl 5 rfl) ?_
                  refine lv_iconst (v := 5) hx hb dX9_who_133 (by decide) ?_
                  refine lv_icmp_gt (tgt := 232) hx hb dX9_who_134 (by decide) (fun c_17 => ?_) (fun c_17 => ?_)
                  · have h := (if_pos c_17).symm.trans h
                    refine lv_iload hx hb dX9_who_232 (lv_at hl 4 rfl) ?_
                    have h := Option.some.inj h
                    subst h
                    rw [hQQ]
                    subst hAe
                    exact W.iret (v := v4_h131) hx hb hr (fun t ht hW => ⟨⟨_, (), rfl, rfl, by rw [ht]; exact hP, va_K.moved hW.alike hK, hD⟩, hS.F ht⟩) hS.2.2 dX9_who_234
                  · have h := (if_neg c_17).symm.trans h
                    refine lv_iconst (v := 1) hx hb dX9_who_137 (by decide) ?_
                    refine lv_istore (lv' := [(6, .int 1), (0, .ref q_s), (1, .int v1), (2, .int v2), (3, .int v3), (4, .int v4_h131), (5, .int v5_h131)]) hx hb dX9_who_138 hl (by decide) rfl (fun ls hl => ?_)
                    refine lv_iconst (v := 0) hx hb dX9_who_140 (by decide) ?_
                    refine lv_istore (lv' := [(7, .int 0), (6, .int 1), (0, .ref q_s), (1, .int v1), (2, .int v2), (3, .int v3), (4, .int v4_h131), (5, .int v5_h131)]) hx hb dX9_who_141 hl (by decide) rfl (fun ls hl => ?_)
                    have KL143 : ∀ (k143_208 : Int32 → Option (Int32 × Int32 × Int32)) , (∀ (v6_e208 : Int32) (H : Heap) (locs : List Loc) (ls : Array Slot), va_P (dC, dI) vwCl ((W_M cI cZ q_s q_s_lane q_s_many q_s_item q_s_isle q_s_fresh q_s_then q_s_was q_s_tape q_s_isKept q_s_kept q_s_trace 0 0 s_lane s_many s_item s_isle s_fresh s_then s_was s_acts s_tape s_taped s_cursor s_start s_token s_value s_fault s_faultAt s_latest s_isKept s_kept s_trace s_traced)) H → va_D A ((W_M cI cZ q_s q_s_lane q_s_many q_s_item q_s_isle q_s_fresh q_s_then q_s_was q_s_tape q_s_isKept q_s_kept q_s_trace 0 0 s_lane s_many s_item s_isle s_fresh s_then s_was s_acts s_tape s_taped s_cursor s_start s_token s_value s_fault s_faultAt s_latest s_isKept s_kept s_trace s_traced)) → va_S A s.heap H locs → lv_has ls 9 [(0, .ref q_s), (1, .int v1), (2, .int v2), (3, .int v3), (4, .int v4_h131), (5, .int v5_h131), (6, .int v6_e208)] → k143_208 v6_e208 = some res → W p l e (headSpec wsX9_who rmX9_who).room s m ([.ref q_s, .int v1, .int v2, .int v3] : List Value).toArray below meth c H locs 0 0 QQ (F0 m 208 ls [])) → ∀ (n : Nat) (v6_h143 : Int32) (v7_h143 : Int32) (H : Heap) (locs : List Loc) (ls : Array Slot), va_P (dC, dI) vwCl ((W_M cI cZ q_s q_s_lane q_s_many q_s_item q_s_isle q_s_fresh q_s_then q_s_was q_s_tape q_s_isKept q_s_kept q_s_trace 0 0 s_lane s_many s_item s_isle s_fresh s_then s_was s_acts s_tape s_taped s_cursor s_start s_token s_value s_fault s_faultAt s_latest s_isKept s_kept s_trace s_traced)) H → va_D A ((W_M cI cZ q_s q_s_lane q_s_many q_s_item q_s_isle q_s_fresh q_s_then q_s_was q_s_tape q_s_isKept q_s_kept q_s_trace 0 0 s_lane s_many s_item s_isle s_fresh s_then s_was s_acts s_tape s_taped s_cursor s_start s_token s_value s_fault s_faultAt s_latest s_isKept s_kept s_trace s_traced)) → va_S A s.heap H locs → lv_has ls 9 [(0, .ref q_s), (1, .int v1), (2, .int v2), (3, .int v3), (4, .int v4_h131), (5, .int v5_h131), (6, .int v6_h143), (7, .int v7_h143)] → fX9_who_L143 s_item s_isle v1 v2 v3 v5_h131 k143_208 n v6_h143 v7_h143 = some res → W p l e (headSpec wsX9_who rmX9_who).room s m ([.ref q_s, .int v1, .int v2, .int v3] : List Value).toArray below meth c H locs 0 0 QQ (F0 m 143 ls []) := by
                      intro k143_208 Kk143_208 n
                      induction n with
                      | zero => intro v6_h143 v7_h143 H locs ls hP hD hS hl h; rw [fX9_who_L143.eq_1] at h; cases h
                      | succ n ih =>
                        intro v6_h143 v7_h143 H locs ls hP hD hS hl h
                        rw [fX9_who_L143.eq_2] at h
                        refine lv_iload hx hb dX9_who_143 (lv_at hl 7 rfl) ?_
                        refine lv_iload_n hx hb dX9_who_145 rfl (lv_at hl 3 rfl) ?_
                        refine lv_icmp_ge (tgt := 208) hx hb dX9_who_146 (by decide) (fun c_18 => ?_) (fun c_18 => ?_)
                        · have h := (if_pos c_18).symm.trans h
                          exact Kk143_208 v6_h143 _ _ _ hP hD hS (lv_sub hl [0, 1, 2, 3, 4, 5, 6] rfl) h
                        · have h := (if_neg c_18).symm.trans h
                          refine lv_bipush (v := 40) hx hb dX9_who_149 (by decide) ?_
                          refine lv_iload_n hx hb dX9_who_151 rfl (lv_at hl 1 rfl) ?_
                          refine lv_imul hx hb dX9_who_152 ?_
                          refine lv_iload_n hx hb dX9_who_153 rfl (lv_at hl 2 rfl) ?_
                          refine lv_iadd hx hb dX9_who_154 ?_
                          refine lv_iconst (v := 2) hx hb dX9_who_155 (by decide) ?_
                          refine lv_iload hx hb dX9_who_156 (lv_at hl 7 rfl) ?_
                          refine lv_imul hx hb dX9_who_158 ?_
                          refine lv_iadd hx hb dX9_who_159 ?_
                          refine lv_istore (lv' := [(8, .int (((40 * v1) + v2) + (2 * v7_h143))), (0, .ref q_s), (1, .int v1), (2, .int v2), (3, .int v3), (4, .int v4_h131), (5, .int v5_h131), (6, .int v6_h143), (7, .int v7_h143)]) hx hb dX9_who_160 hl (by decide) rfl (fun ls hl => ?_)
                          refine lv_iload hx hb dX9_who_162 (lv_at hl 7 rfl) ?_
                          refine lv_if_eq (tgt := 199) hx hb dX9_who_164 (by decide) (fun c_19 => ?_) (fun c_19 => ?_)
                          · have h := (if_pos c_19).symm.trans h
                            refine lv_iconst (v := 0) hx hb dX9_who_199 (by decide) ?_
                            refine lv_istore (lv' := [(6, .int 0), (8, .int (((40 * v1) + v2) + (2 * v7_h143))), (0, .ref q_s), (1, .int v1), (2, .int v2), (3, .int v3), (4, .int v4_h131), (5, .int v5_h131), (7, .int v7_h143)]) hx hb dX9_who_200 hl (by decide) rfl (fun ls hl => ?_)
                            refine lv_iinc (v := (v7_h143 + 1)) (lv' := [(7, .int (v7_h143 + 1)), (6, .int 0), (8, .int (((40 * v1) + v2) + (2 * v7_h143))), (0, .ref q_s), (1, .int v1), (2, .int v2), (3, .int v3), (4, .int v4_h131), (5, .int v5_h131)]) hx hb dX9_who_202 hl (k := 8) rfl rfl (by decide) rfl (fun ls hl => ?_)
                            refine lv_goto (tgt := 143) hx hb dX9_who_205 (by decide) ?_
                            exact ih 0 (v7_h143 + 1) _ _ _ hP hD hS (lv_sub hl [3, 4, 5, 6, 7, 8, 1, 0] rfl) h
                          · have h := (if_neg c_19).symm.trans h
                            refine lv_aload_n hx hb dX9_who_167 rfl (lv_at hl 1 rfl) ?_
                            refine va_get (D := (dC, dI)) (ci := 7) (v := .ref q_s_isle) (C := RX9) (T := TX9) (N := 23) hx hb hts w_1 hown hK hP 0 rfl rfl 5 (by decide) w_8 (fun _ h9 => h9) rfl dX9_who_168 ?_
                            refine lv_iload hx hb dX9_who_171 (lv_at hl 6 rfl) ?_
                            refine lv_aload_n hx hb dX9_who_173 rfl (lv_at hl 1 rfl) ?_
                            refine va_get (D := (dC, dI)) (ci := 7) (v := .ref q_s_item) (C := RX9) (T := TX9) (N := 23) hx hb hts w_1 hown hK hP 0 rfl rfl 4 (by decide) w_6 (fun _ h9 => h9) rfl dX9_who_174 ?_
                            refine lv_iload hx hb dX9_who_177 (lv_at hl 0 rfl) ?_
                            obtain ⟨b_20, h⟩ := chk_of h
                            refine va_iald hx hb hK hP 3 0 rfl rfl (i := (((40 * v1) + v2) + (2 * v7_h143))) b_20 dX9_who_179 ?_
                            obtain ⟨r_21, hc_21, h⟩ := bd1_of h
                            refine cl_rS (As := [.ref q_s_isle, .int v5_h131, .int (s_item (((40 * v1) + v2) + (2 * v7_h143)).toNatClampNeg)]) (rest := []) ⟨hx, hb, hml, hown, hts⟩ (m_X9_priceBy l dC dI cI cZ q_s_isle s_isle v5_h131 (s_item (((40 * v1) + v2) + (2 * v7_h143)).toNatClampNeg) (r_21) hc_21) (va_cwS 3 hts gX9_who_X9_priceBy rfl rfl rfl ddX9_priceBy ⟨Nat.le_of_ble_eq_true rfl, Nat.le_of_ble_eq_true rfl⟩) hK hP [4] rfl rfl rfl hl.1 (Nat.le_of_ble_eq_true rfl) ⟨Nat.zero_le _, Nat.zero_le _⟩ dX9_who_180 ?_
                            refine lv_aload_n hx hb dX9_who_183 rfl (lv_at hl 1 rfl) ?_
                            refine va_get (D := (dC, dI)) (ci := 7) (v := .ref q_s_item) (C := RX9) (T := TX9) (N := 23) hx hb hts w_1 hown hK hP 0 rfl rfl 4 (by decide) w_6 (fun _ h9 => h9) rfl dX9_who_184 ?_
                            refine lv_iload hx hb dX9_who_187 (lv_at hl 0 rfl) ?_
                            refine lv_iconst (v := 1) hx hb dX9_who_189 (by decide) ?_
                            refine lv_iadd hx hb dX9_who_190 ?_
                            obtain ⟨b_22, h⟩ := chk_of h
                            refine va_iald hx hb hK hP 3 0 rfl rfl (i := ((((40 * v1) + v2) + (2 * v7_h143)) + 1)) b_22 dX9_who_191 ?_
                            refine lv_icmp_ne (tgt := 199) hx hb dX9_who_192 (by decide) (fun c_23 => ?_) (fun c_23 => ?_)
                            · have h := (if_neg c_23).symm.trans h
                              refine lv_iconst (v := 0) hx hb dX9_who_199 (by decide) ?_
                              refine lv_istore (lv' := [(6, .int 0), (8, .int (((40 * v1) + v2) + (2 * v7_h143))), (0, .ref q_s), (1, .int v1), (2, .int v2), (3, .int v3), (4, .int v4_h131), (5, .int v5_h131), (7, .int v7_h143)]) hx hb dX9_who_200 hl (by decide) rfl (fun ls hl => ?_)
                              refine lv_iinc (v := (v7_h143 + 1)) (lv' := [(7, .int (v7_h143 + 1)), (6, .int 0), (8, .int (((40 * v1) + v2) + (2 * v7_h143))), (0, .ref q_s), (1, .int v1), (2, .int v2), (3, .int v3), (4, .int v4_h131), (5, .int v5_h131)]) hx hb dX9_who_202 hl (k := 8) rfl rfl (by decide) rfl (fun ls hl => ?_)
                              refine lv_goto (tgt := 143) hx hb dX9_who_205 (by decide) ?_
                              exact ih 0 (v7_h143 + 1) _ _ _ hP hD hS (lv_sub hl [3, 4, 5, 6, 7, 8, 1, 0] rfl) h
                            · have h := (if_pos c_23).symm.trans h
                              refine lv_iconst (v := 1) hx hb dX9_who_195 (by decide) ?_
                              refine lv_goto (tgt := 200) hx hb dX9_who_196 (by decide) ?_
                              refine lv_istore (lv' := [(6, .int 1), (8, .int (((40 * v1) + v2) + (2 * v7_h143))), (0, .ref q_s), (1, .int v1), (2, .int v2), (3, .int v3), (4, .int v4_h131), (5, .int v5_h131), (7, .int v7_h143)]) hx hb dX9_who_200 hl (by decide) rfl (fun ls hl => ?_)
                              refine lv_iinc (v := (v7_h143 + 1)) (lv' := [(7, .int (v7_h143 + 1)), (6, .int 1), (8, .int (((40 * v1) + v2) + (2 * v7_h143))), (0, .ref q_s), (1, .int v1), (2, .int v2), (3, .int v3), (4, .int v4_h131), (5, .int v5_h131)]) hx hb dX9_who_202 hl (k := 8) rfl rfl (by decide) rfl (fun ls hl => ?_)
                              refine lv_goto (tgt := 143) hx hb dX9_who_205 (by decide) ?_
                              exact ih 1 (v7_h143 + 1) _ _ _ hP hD hS (lv_sub hl [3, 4, 5, 6, 7, 8, 1, 0] rfl) h
                    refine KL143 _ (fun v6_e208 H locs ls hP hD hS hl h => ?_) FU 1 0 _ _ _ hP hD hS (lv_sub hl [2, 3, 4, 5, 6, 7, 1, 0] rfl) h
                    refine lv_iload hx hb dX9_who_208 (lv_at hl 4 rfl) ?_
                    refine lv_iload hx hb dX9_who_210 (lv_at hl 6 rfl) ?_
                    refine lv_if_eq (tgt := 222) hx hb dX9_who_212 (by decide) (fun c_24 => ?_) (fun c_24 => ?_)
                    · have h := (if_pos c_24).symm.trans h
                      refine lv_iconst (v := 0) hx hb dX9_who_222 (by decide) ?_
                      refine lv_ior hx hb dX9_who_223 ?_
                      refine lv_istore (lv' := [(4, .int (v4_h131 ||| 0)), (0, .ref q_s), (1, .int v1), (2, .int v2), (3, .int v3), (5, .int v5_h131), (6, .int v6_e208)]) hx hb dX9_who_224 hl (by decide) rfl (fun ls hl => ?_)
                      refine lv_iinc (v := (v5_h131 + 1)) (lv' := [(5, .int (v5_h131 + 1)), (4, .int (v4_h131 ||| 0)), (0, .ref q_s), (1, .int v1), (2, .int v2), (3, .int v3), (6, .int v6_e208)]) hx hb dX9_who_226 hl (k := 5) rfl rfl (by decide) rfl (fun ls hl => ?_)
                      refine lv_goto (tgt := 131) hx hb dX9_who_229 (by decide) ?_
                      exact ih (v4_h131 ||| 0) (v5_h131 + 1) _ _ _ hP hD hS (lv_sub hl [2, 3, 4, 5, 1, 0] rfl) h
                    · have h := (if_neg c_24).symm.trans h
                      refine lv_iconst (v := 1) hx hb dX9_who_215 (by decide) ?_
                      refine lv_iload hx hb dX9_who_216 (lv_at hl 5 rfl) ?_
                      refine lv_ishl hx hb dX9_who_218 ?_
                      refine lv_goto (tgt := 223) hx hb dX9_who_219 (by decide) ?_
                      refine lv_ior hx hb dX9_who_223 ?_
                      refine lv_istore (lv' := [(4, .int (v4_h131 ||| (1 <<< (v5_h131 &&& 31)))), (0, .ref q_s), (1, .int v1), (2, .int v2), (3, .int v3), (5, .int v5_h131), (6, .int v6_e208)]) hx hb dX9_who_224 hl (by decide) rfl (fun ls hl => ?_)
                      refine lv_iinc (v := (v5_h131 + 1)) (lv' := [(5, .int (v5_h131 + 1)), (4, .int (v4_h131 ||| (1 <<< (v5_h131 &&& 31)))), (0, .ref q_s), (1, .int v1), (2, .int v2), (3, .int v3), (6, .int v6_e208)]) hx hb dX9_who_226 hl (k := 5) rfl rfl (by decide) rfl (fun ls hl => ?_)
                      refine lv_goto (tgt := 131) hx hb dX9_who_229 (by decide) ?_
                      exact ih (v4_h131 ||| (1 <<< (v5_h131 &&& 31))) (v5_h131 + 1) _ _ _ hP hD hS (lv_sub hl [2, 3, 4, 5, 1, 0] rfl) h
              exact KL131 FU 0 1 _ _ _ hP hD hS (lv_sub hl [2, 3, 4, 5, 1, 0] rfl) h
            · have h := (if_neg c_12).symm.trans h
              refine lv_aload_n hx hb dX9_who_74 rfl (lv_at hl 0 rfl) ?_
              refine lv_iconst (v := 2) hx hb dX9_who_75 (by decide) ?_
              obtain ⟨r_25, s_status_25, hc_25, h⟩ := bd2_of h
              refine cl_mVi (As := [.int 2]) (rest := []) (ws' := (W_M cI cZ q_s q_s_lane q_s_many q_s_item q_s_isle q_s_fresh q_s_then q_s_was q_s_tape q_s_isKept q_s_kept q_s_trace 0 s_status_25 s_lane s_many s_item s_isle s_fresh s_then s_was s_acts s_tape s_taped s_cursor s_start s_token s_value s_fault s_faultAt s_latest s_isKept s_kept s_trace s_traced)) (wr := []) ⟨hx, hb, hml, hown, hts⟩ (m_X9_finding l dC dI cI cZ q_s q_s_lane q_s_many q_s_item q_s_isle q_s_fresh q_s_then q_s_was q_s_tape q_s_isKept q_s_kept q_s_trace 0 s_status s_lane s_many s_item s_isle s_fresh s_then s_was s_acts s_tape s_taped s_cursor s_start s_token s_value s_fault s_faultAt s_latest s_isKept s_kept s_trace s_traced 2 _ (r_25, s_status_25) hc_25) (cwV 1 hts gX9_who_X9_finding rfl rfl rfl ⟨rfl, ddX9_finding⟩ ⟨Nat.le_of_ble_eq_true rfl, Nat.le_of_ble_eq_true rfl⟩) hK hP hD hS hA [0, 1, 2, 3, 4, 5, 6, 7, 8, 9, 10, 11] [] rfl rfl rfl rfl (by decide) [0, 1, 2, 3, 4, 5, 6, 7, 8, 9, 10, 11] rfl rfl rfl rfl rfl rfl rfl hl.1 (Nat.le_of_ble_eq_true rfl) ⟨Nat.zero_le _, Nat.zero_le _⟩ dX9_who_76 (fun H locs hP hD hS => ?_)
              have h := Option.some.inj h
              subst h
              rw [hQQ]
              subst hAe
              exact W.iret (v := r_25) hx hb hr (fun t ht hW => ⟨⟨_, (), rfl, rfl, by rw [ht]; exact hP, va_K.moved hW.alike hK, hD⟩, hS.F ht⟩) hS.2.2 dX9_who_79
        · have h := (if_neg c_8).symm.trans h
          refine lv_aload_n hx hb dX9_who_46 rfl (lv_at hl 0 rfl) ?_
          refine lv_iconst (v := 1) hx hb dX9_who_47 (by decide) ?_
          obtain ⟨r_26, s_status_26, hc_26, h⟩ := bd2_of h
          refine cl_mVi (As := [.int 1]) (rest := []) (ws' := (W_M cI cZ q_s q_s_lane q_s_many q_s_item q_s_isle q_s_fresh q_s_then q_s_was q_s_tape q_s_isKept q_s_kept q_s_trace 0 s_status_26 s_lane s_many s_item s_isle s_fresh s_then s_was s_acts s_tape s_taped s_cursor s_start s_token s_value s_fault s_faultAt s_latest s_isKept s_kept s_trace s_traced)) (wr := []) ⟨hx, hb, hml, hown, hts⟩ (m_X9_finding l dC dI cI cZ q_s q_s_lane q_s_many q_s_item q_s_isle q_s_fresh q_s_then q_s_was q_s_tape q_s_isKept q_s_kept q_s_trace 0 s_status s_lane s_many s_item s_isle s_fresh s_then s_was s_acts s_tape s_taped s_cursor s_start s_token s_value s_fault s_faultAt s_latest s_isKept s_kept s_trace s_traced 1 _ (r_26, s_status_26) hc_26) (cwV 1 hts gX9_who_X9_finding rfl rfl rfl ⟨rfl, ddX9_finding⟩ ⟨Nat.le_of_ble_eq_true rfl, Nat.le_of_ble_eq_true rfl⟩) hK hP hD hS hA [0, 1, 2, 3, 4, 5, 6, 7, 8, 9, 10, 11] [] rfl rfl rfl rfl (by decide) [0, 1, 2, 3, 4, 5, 6, 7, 8, 9, 10, 11] rfl rfl rfl rfl rfl rfl rfl hl.1 (Nat.le_of_ble_eq_true rfl) ⟨Nat.zero_le _, Nat.zero_le _⟩ dX9_who_48 (fun H locs hP hD hS => ?_)
          have h := Option.some.inj h
          subst h
          rw [hQQ]
          subst hAe
          exact W.iret (v := r_26) hx hb hr (fun t ht hW => ⟨⟨_, (), rfl, rfl, by rw [ht]; exact hP, va_K.moved hW.alike hK, hD⟩, hS.F ht⟩) hS.2.2 dX9_who_51
      · have h := (if_pos c_6).symm.trans h
        refine lv_ldc hx hb hown w_2 dX9_who_34 ?_
        have h := Option.some.inj h
        subst h
        rw [hQQ]
        subst hAe
        exact W.iret (v := (-1000001)) hx hb hr (fun t ht hW => ⟨⟨_, (), rfl, rfl, by rw [ht]; exact hP, va_K.moved hW.alike hK, hD⟩, hS.F ht⟩) hS.2.2 dX9_who_36
  · have h := (if_pos c_2).symm.trans h
    refine lv_ldc hx hb hown w_9 dX9_who_12 ?_
    have h := Option.some.inj h
    subst h
    rw [hQQ]
    subst hAe
    exact W.iret (v := (-1000002)) hx hb hr (fun t ht hW => ⟨⟨_, (), rfl, rfl, by rw [ht]; exact hP, va_K.moved hW.alike hK, hD⟩, hS.F ht⟩) hS.2.2 dX9_who_14
def fX9_ring_L48 (v1 : Int32) (r_7 : Int32) (k48_96 : Int32 → Option (Int32 × Int32)) : Nat → Int32 → Int32 → Option (Int32 × Int32)
  | 0, _, _ => none
  | n + 1, v4_h48, v5_h48 => (if 15 ≤ v5_h48 then (k48_96 v4_h48) else (if v5_h48 = v1 then ((fX9_ring_L48 v1 r_7 k48_96 n) (v4_h48 ||| 0) (v5_h48 + 1)) else bd1 (fX9_beside (1 <<< (v5_h48 &&& 31))) (fun r_10 => bd1 (fX9_bits (r_10 &&& r_7)) (fun r_11 => (if r_11 ≤ 1 then ((fX9_ring_L48 v1 r_7 k48_96 n) (v4_h48 ||| 0) (v5_h48 + 1)) else ((fX9_ring_L48 v1 r_7 k48_96 n) (v4_h48 ||| (1 <<< (v5_h48 &&& 31))) (v5_h48 + 1)))))))
def fX9_ring_L102 (s_isle : (Nat → Int32)) (v4_e96 : Int32) (k102_158 : Int32 → Option (Int32 × Int32)) : Nat → Int32 → Int32 → Option (Int32 × Int32)
  | 0, _, _ => none
  | n + 1, v5_h102, v6_h102 => (if 15 ≤ v6_h102 then (k102_158 v5_h102) else (if ((v4_e96 >>> (v6_h102 &&& 31)) &&& 1) = 1 then chk (¬ ((21 + v6_h102) < 0 ∨ 51 ≤ (21 + v6_h102).toNatClampNeg)) ((if (s_isle (21 + v6_h102).toNatClampNeg) = 0 then bd1 (fX9_priceBy s_isle 1 v6_h102) (fun r_17 => ((fX9_ring_L102 s_isle v4_e96 k102_158 n) (v5_h102 + r_17) (v6_h102 + 1))) else ((fX9_ring_L102 s_isle v4_e96 k102_158 n) (v5_h102 + 0) (v6_h102 + 1)))) else ((fX9_ring_L102 s_isle v4_e96 k102_158 n) (v5_h102 + 0) (v6_h102 + 1))))
def fX9_ring (s_isle : (Nat → Int32)) (v1 : Int32) (v2 : Int32) : Option (Int32 × Int32) :=
  bd1 (fX9_isThere s_isle) (fun r_1 => (if r_1 = 0 then some ((-1000002), 0) else bd1 (fX9_isCell v1) (fun r_3 => (if r_3 = 0 then some ((-1000001), 0) else bd1 (fX9_in v2.toInt64 0 1) (fun r_5 => (if r_5 = 0 then some ((-1000001), 0) else bd1 (fX9_beside (1 <<< (v1 &&& 31))) (fun r_7 => (fX9_ring_L48 v1 r_7 (fun v4_e96 => (fX9_ring_L102 s_isle v4_e96 (fun v5_e158 => (if v2 = 0 then some (v5_e158, 0) else bd1 (fX9_bits v4_e96) (fun r_19 => some (r_19, 0)))) FU 0 0)) FU r_7 0))))))))
abbrev rmX9_ring : Room := { frames := 2, cells := 0, slots := 0, locals := 45 }
theorem ddX9_ring : yX9_ring.cls ≠ "java/lang/invoke/MethodHandle" ∧ yX9_ring.cls ≠ "java/lang/invoke/VarHandle" ∧ (parseMethodDescriptor yX9_ring.desc).map (fun d => d.parameters.length) = some 2 := by decide +kernel
set_option maxHeartbeats 4000000 in
set_option maxRecDepth 100000 in
theorem m_X9_ring (l : Launch) (dC : Nat → ClassId) (dI : Nat → Nat → Nat) (cI cZ : ClassId) (q_s q_s_lane q_s_many q_s_item q_s_isle q_s_fresh q_s_then q_s_was q_s_tape q_s_isKept q_s_kept q_s_trace : Nat) (s_thrown : Int32) (s_status : Int32) (s_lane : (Nat → Int32)) (s_many : (Nat → Int32)) (s_item : (Nat → Int32)) (s_isle : (Nat → Int32)) (s_fresh : (Nat → Int32)) (s_then : (Nat → Int32)) (s_was : (Nat → Int32)) (s_acts : Int32) (s_tape : (Nat → Int32)) (s_taped : Int32) (s_cursor : Int32) (s_start : Int32) (s_token : Int32) (s_value : Int32) (s_fault : Int32) (s_faultAt : Int32) (s_latest : Int32) (s_isKept : (Nat → Int32)) (s_kept : (Nat → Int32)) (s_trace : (Nat → Int32)) (s_traced : Int32) (v1 : Int32) (v2 : Int32) (sz : Nat) (res : Int32 × Int32) (hf : fX9_ring s_isle v1 v2 = some res) : Met l yX9_ring wsX9_ring rmX9_ring (mtPc (dC, dI) (tyZ cI cZ) ((W_M cI cZ q_s q_s_lane q_s_many q_s_item q_s_isle q_s_fresh q_s_then q_s_was q_s_tape q_s_isKept q_s_kept q_s_trace s_thrown s_status s_lane s_many s_item s_isle s_fresh s_then s_was s_acts s_tape s_taped s_cursor s_start s_token s_value s_fault s_faultAt s_latest s_isKept s_kept s_trace s_traced)) [.ref q_s, .int v1, .int v2] sz) (mtQi (dC, dI) (tyZ cI cZ) ((W_M cI cZ q_s q_s_lane q_s_many q_s_item q_s_isle q_s_fresh q_s_then q_s_was q_s_tape q_s_isKept q_s_kept q_s_trace s_thrown s_status s_lane s_many s_item s_isle s_fresh s_then s_was s_acts s_tape s_taped s_cursor s_start s_token s_value s_fault s_faultAt s_latest s_isKept s_kept s_trace s_traced)) ((W_M cI cZ q_s q_s_lane q_s_many q_s_item q_s_isle q_s_fresh q_s_then q_s_was q_s_tape q_s_isKept q_s_kept q_s_trace res.2 s_status s_lane s_many s_item s_isle s_fresh s_then s_was s_acts s_tape s_taped s_cursor s_start s_token s_value s_fault s_faultAt s_latest s_isKept s_kept s_trace s_traced)) res.1 sz) 0 0 (va_A ((W_M cI cZ q_s q_s_lane q_s_many q_s_item q_s_isle q_s_fresh q_s_then q_s_was q_s_tape q_s_isKept q_s_kept q_s_trace s_thrown s_status s_lane s_many s_item s_isle s_fresh s_then s_was s_acts s_tape s_taped s_cursor s_start s_token s_value s_fault s_faultAt s_latest s_isKept s_kept s_trace s_traced)) sz) := by
  refine Met.ofW (cc := cX9_ring) (maxL := 7) (ret := (some .int)) (by decide) rfl ?_
  intro p e s m args below meth c s₁ B hml hv
  obtain ⟨rfl, hsz, hP, hK, hD0⟩ := hv
  have hx := B.exec
  have hb := B.bytes
  have hr := B.returns
  have hts := atoms_spec (ws := wsX9_ring) B.pre
  have hown : s.vm.findClass RX9 = some m.cls := findClass_of_methodNamed B.named
  have hlocks := B.notSynchronized
  subst hsz
  have hD := hD0.self (sz := s.heap.size)
  obtain ⟨A, hAe⟩ : ∃ A, A = va_A ((W_M cI cZ q_s q_s_lane q_s_many q_s_item q_s_isle q_s_fresh q_s_then q_s_was q_s_tape q_s_isKept q_s_kept q_s_trace s_thrown s_status s_lane s_many s_item s_isle s_fresh s_then s_was s_acts s_tape s_taped s_cursor s_start s_token s_value s_fault s_faultAt s_latest s_isKept s_kept s_trace s_traced)) s.heap.size := ⟨_, rfl⟩
  rw [← hAe] at hD
  have hA : ∀ q : Nat, s.heap.size ≤ q → A q := fun q h => by rw [hAe]; exact Or.inr h
  have hS : va_S A s.heap s.heap [] := va_S.rf
  have hl := lv_entry ([.ref q_s, .int v1, .int v2]) (n := 7) (Nat.le_of_ble_eq_true rfl)
  rw [lg_entry_eq]
  generalize (lg_sl ([.ref q_s, .int v1, .int v2]) ++ List.replicate (7 - (lg_sl ([.ref q_s, .int v1, .int v2])).length) Slot.unset).toArray = ls at hl ⊢
  have hl : lv_has ls 7 [(0, .ref q_s), (1, .int v1), (2, .int v2)] := hl
  obtain ⟨QQ, hQQ⟩ : ∃ Q, Q = MQ below (mtQi (dC, dI) (tyZ cI cZ) ((W_M cI cZ q_s q_s_lane q_s_many q_s_item q_s_isle q_s_fresh q_s_then q_s_was q_s_tape q_s_isKept q_s_kept q_s_trace s_thrown s_status s_lane s_many s_item s_isle s_fresh s_then s_was s_acts s_tape s_taped s_cursor s_start s_token s_value s_fault s_faultAt s_latest s_isKept s_kept s_trace s_traced)) ((W_M cI cZ q_s q_s_lane q_s_many q_s_item q_s_isle q_s_fresh q_s_then q_s_was q_s_tape q_s_isKept q_s_kept q_s_trace res.2 s_status s_lane s_many s_item s_isle s_fresh s_then s_was s_acts s_tape s_taped s_cursor s_start s_token s_value s_fault s_faultAt s_latest s_isKept s_kept s_trace s_traced)) res.1 s.heap.size) ([.ref q_s, .int v1, .int v2] : List Value).toArray s 0 0 (va_A ((W_M cI cZ q_s q_s_lane q_s_many q_s_item q_s_isle q_s_fresh q_s_then q_s_was q_s_tape q_s_isKept q_s_kept q_s_trace s_thrown s_status s_lane s_many s_item s_isle s_fresh s_then s_was s_acts s_tape s_taped s_cursor s_start s_token s_value s_fault s_faultAt s_latest s_isKept s_kept s_trace s_traced)) s.heap.size) := ⟨_, rfl⟩
  rw [← hQQ]
  have w_0 := hts (Cond.fieldLink RX9 44 "TideInchesModel" "thrown" "I") (List.mem_of_getElem? (i := 1) rfl)
  have w_1 := (fun w hw => List.mem_cons_of_mem _ (List.mem_append_right _ hw) : ∀ w ∈ wsX90, w ∈ wsX9_ring)
  have w_2 := hts (Cond.constant RX9 64 (-1000001)) (List.mem_of_getElem? (i := 3) rfl)
  have w_3 := hts (Cond.fieldLink RX9 19 "TideInchesModel" "isle" "[I") (List.mem_of_getElem? (i := 4) rfl)
  have w_4 := hts (Cond.constant RX9 181 (-1000002)) (List.mem_of_getElem? (i := 2) rfl)
  have h := hf
  unfold fX9_ring at h
  refine lv_aload_n hx hb dX9_ring_0 rfl (lv_at hl 0 rfl) ?_
  refine lv_iconst (v := 0) hx hb dX9_ring_1 (by decide) ?_
  refine va_put (D := (dC, dI)) (ci := 7) (v := .int 0) (ty := .int) (C := RX9) (T := TX9) (N := 23) hx hb hts w_1 tyX9 tyX9_ok nmX9 hown hK hP hD hS 0 rfl rfl 0 (by decide) w_0 (fun _ h9 => h9) rfl (by decide +kernel) rfl rfl (Nat.le_of_ble_eq_true rfl) dX9_ring_2 (fun H locs hP hD hS => ?_)
  have hP : va_P (dC, dI) vwCl ((W_M cI cZ q_s q_s_lane q_s_many q_s_item q_s_isle q_s_fresh q_s_then q_s_was q_s_tape q_s_isKept q_s_kept q_s_trace 0 s_status s_lane s_many s_item s_isle s_fresh s_then s_was s_acts s_tape s_taped s_cursor s_start s_token s_value s_fault s_faultAt s_latest s_isKept s_kept s_trace s_traced)) H := hP
  have hD : va_D A ((W_M cI cZ q_s q_s_lane q_s_many q_s_item q_s_isle q_s_fresh q_s_then q_s_was q_s_tape q_s_isKept q_s_kept q_s_trace 0 s_status s_lane s_many s_item s_isle s_fresh s_then s_was s_acts s_tape s_taped s_cursor s_start s_token s_value s_fault s_faultAt s_latest s_isKept s_kept s_trace s_traced)) := hD
  refine lv_aload_n hx hb dX9_ring_5 rfl (lv_at hl 0 rfl) ?_
  obtain ⟨r_1, hc_1, h⟩ := bd1_of h
  refine cl_rV (As := []) (rest := []) ⟨hx, hb, hml, hown, hts⟩ (m_X9_isThere l dC dI cI cZ q_s q_s_lane q_s_many q_s_item q_s_isle q_s_fresh q_s_then q_s_was q_s_tape q_s_isKept q_s_kept q_s_trace 0 s_status s_lane s_many s_item s_isle s_fresh s_then s_was s_acts s_tape s_taped s_cursor s_start s_token s_value s_fault s_faultAt s_latest s_isKept s_kept s_trace s_traced (r_1) hc_1) (cwV 0 hts gX9_ring_X9_isThere rfl rfl rfl ⟨rfl, ddX9_isThere⟩ ⟨Nat.le_of_ble_eq_true rfl, Nat.le_of_ble_eq_true rfl⟩) hK hP [0, 1, 2, 3, 4, 5, 6, 7, 8, 9, 10, 11] rfl rfl rfl rfl rfl hl.1 (Nat.le_of_ble_eq_true rfl) ⟨Nat.zero_le _, Nat.zero_le _⟩ dX9_ring_6 ?_
  refine lv_if_ne (tgt := 15) hx hb dX9_ring_9 (by decide) (fun c_2 => ?_) (fun c_2 => ?_)
  · have h := (if_neg c_2).symm.trans h
    refine lv_iload_n hx hb dX9_ring_15 rfl (lv_at hl 1 rfl) ?_
    obtain ⟨r_3, hc_3, h⟩ := bd1_of h
    refine cl_pS (As := [.int v1]) (rest := []) ⟨hx, hb, hml, hown, hts⟩ (m_X9_isCell l v1 (r_3) hc_3) (va_cwS 1 hts gX9_ring_X9_isCell rfl rfl rfl ddX9_isCell ⟨Nat.le_of_ble_eq_true rfl, Nat.le_of_ble_eq_true rfl⟩) rfl rfl hl.1 (Nat.le_of_ble_eq_true rfl) ⟨Nat.zero_le _, Nat.zero_le _⟩ dX9_ring_16 ?_
    refine lv_if_eq (tgt := 32) hx hb dX9_ring_19 (by decide) (fun c_4 => ?_) (fun c_4 => ?_)
    · have h := (if_pos c_4).symm.trans h
      refine lv_ldc hx hb hown w_2 dX9_ring_32 ?_
      have h := Option.some.inj h
      subst h
      rw [hQQ]
      subst hAe
      exact W.iret (v := (-1000001)) hx hb hr (fun t ht hW => ⟨⟨_, (), rfl, rfl, by rw [ht]; exact hP, va_K.moved hW.alike hK, hD⟩, hS.F ht⟩) hS.2.2 dX9_ring_34
    · have h := (if_neg c_4).symm.trans h
      refine lv_iload_n hx hb dX9_ring_22 rfl (lv_at hl 2 rfl) ?_
      refine lv_i2l hx hb dX9_ring_23 rfl ?_
      refine lv_lconst (v := 0) hx hb dX9_ring_24 (by decide) ?_
      refine lv_lconst (v := 1) hx hb dX9_ring_25 (by decide) ?_
      obtain ⟨r_5, hc_5, h⟩ := bd1_of h
      refine cl_pS (As := [.long v2.toInt64, .long 0, .long 1]) (rest := []) ⟨hx, hb, hml, hown, hts⟩ (m_X9_in l v2.toInt64 0 1 (r_5) hc_5) (va_cwS 3 hts gX9_ring_X9_in rfl rfl rfl ddX9_in ⟨Nat.le_of_ble_eq_true rfl, Nat.le_of_ble_eq_true rfl⟩) rfl rfl hl.1 (Nat.le_of_ble_eq_true rfl) ⟨Nat.zero_le _, Nat.zero_le _⟩ dX9_ring_26 ?_
      refine lv_if_ne (tgt := 35) hx hb dX9_ring_29 (by decide) (fun c_6 => ?_) (fun c_6 => ?_)
      · have h := (if_neg c_6).symm.trans h
        refine lv_iconst (v := 1) hx hb dX9_ring_35 (by decide) ?_
        refine lv_iload_n hx hb dX9_ring_36 rfl (lv_at hl 1 rfl) ?_
        refine lv_ishl hx hb dX9_ring_37 ?_
        obtain ⟨r_7, hc_7, h⟩ := bd1_of h
        refine cl_pS (As := [.int (1 <<< (v1 &&& 31))]) (rest := []) ⟨hx, hb, hml, hown, hts⟩ (m_X9_beside l (1 <<< (v1 &&& 31)) (r_7) hc_7) (va_cwS 1 hts gX9_ring_X9_beside rfl rfl rfl ddX9_beside ⟨Nat.le_of_ble_eq_true rfl, Nat.le_of_ble_eq_true rfl⟩) rfl rfl hl.1 (Nat.le_of_ble_eq_true rfl) ⟨Nat.zero_le _, Nat.zero_le _⟩ dX9_ring_38 ?_
        refine lv_istore_n (lv' := [(3, .int r_7), (0, .ref q_s), (1, .int v1), (2, .int v2)]) hx hb dX9_ring_41 rfl hl (by decide) rfl (fun ls hl => ?_)
        refine lv_iload_n hx hb dX9_ring_42 rfl (lv_at hl 0 rfl) ?_
        refine lv_istore (lv' := [(4, .int r_7), (3, .int r_7), (0, .ref q_s), (1, .int v1), (2, .int v2)]) hx hb dX9_ring_43 hl (by decide) rfl (fun ls hl => ?_)
        refine lv_iconst (v := 0) hx hb dX9_ring_45 (by decide) ?_
        refine lv_istore (lv' := [(5, .int 0), (4, .int r_7), (3, .int r_7), (0, .ref q_s), (1, .int v1), (2, .int v2)]) hx hb dX9_ring_46 hl (by decide) rfl (fun ls hl => ?_)
        have KL48 : ∀ (k48_96 : Int32 → Option (Int32 × Int32)) , (∀ (v4_e96 : Int32) (H : Heap) (locs : List Loc) (ls : Array Slot), va_P (dC, dI) vwCl ((W_M cI cZ q_s q_s_lane q_s_many q_s_item q_s_isle q_s_fresh q_s_then q_s_was q_s_tape q_s_isKept q_s_kept q_s_trace 0 s_status s_lane s_many s_item s_isle s_fresh s_then s_was s_acts s_tape s_taped s_cursor s_start s_token s_value s_fault s_faultAt s_latest s_isKept s_kept s_trace s_traced)) H → va_D A ((W_M cI cZ q_s q_s_lane q_s_many q_s_item q_s_isle q_s_fresh q_s_then q_s_was q_s_tape q_s_isKept q_s_kept q_s_trace 0 s_status s_lane s_many s_item s_isle s_fresh s_then s_was s_acts s_tape s_taped s_cursor s_start s_token s_value s_fault s_faultAt s_latest s_isKept s_kept s_trace s_traced)) → va_S A s.heap H locs → lv_has ls 7 [(0, .ref q_s), (2, .int v2), (4, .int v4_e96)] → k48_96 v4_e96 = some res → W p l e (headSpec wsX9_ring rmX9_ring).room s m ([.ref q_s, .int v1, .int v2] : List Value).toArray below meth c H locs 0 0 QQ (F0 m 96 ls [])) → ∀ (n : Nat) (v4_h48 : Int32) (v5_h48 : Int32) (H : Heap) (locs : List Loc) (ls : Array Slot), va_P (dC, dI) vwCl ((W_M cI cZ q_s q_s_lane q_s_many q_s_item q_s_isle q_s_fresh q_s_then q_s_was q_s_tape q_s_isKept q_s_kept q_s_trace 0 s_status s_lane s_many s_item s_isle s_fresh s_then s_was s_acts s_tape s_taped s_cursor s_start s_token s_value s_fault s_faultAt s_latest s_isKept s_kept s_trace s_traced)) H → va_D A ((W_M cI cZ q_s q_s_lane q_s_many q_s_item q_s_isle q_s_fresh q_s_then q_s_was q_s_tape q_s_isKept q_s_kept q_s_trace 0 s_status s_lane s_many s_item s_isle s_fresh s_then s_was s_acts s_tape s_taped s_cursor s_start s_token s_value s_fault s_faultAt s_latest s_isKept s_kept s_trace s_traced)) → va_S A s.heap H locs → lv_has ls 7 [(0, .ref q_s), (1, .int v1), (2, .int v2), (3, .int r_7), (4, .int v4_h48), (5, .int v5_h48)] → fX9_ring_L48 v1 r_7 k48_96 n v4_h48 v5_h48 = some res → W p l e (headSpec wsX9_ring rmX9_ring).room s m ([.ref q_s, .int v1, .int v2] : List Value).toArray below meth c H locs 0 0 QQ (F0 m 48 ls []) := by
          intro k48_96 Kk48_96 n
          induction n with
          | zero => intro v4_h48 v5_h48 H locs ls hP hD hS hl h; rw [fX9_ring_L48.eq_1] at h; cases h
          | succ n ih =>
            intro v4_h48 v5_h48 H locs ls hP hD hS hl h
            rw [fX9_ring_L48.eq_2] at h
            refine lv_iload hx hb dX9_ring_48 (lv_at hl 5 rfl) ?_
            refine lv_bipush (v := 15) hx hb dX9_ring_50 (by decide) ?_
            refine lv_icmp_ge (tgt := 96) hx hb dX9_ring_52 (by decide) (fun c_8 => ?_) (fun c_8 => ?_)
            · have h := (if_pos c_8).symm.trans h
              exact Kk48_96 v4_h48 _ _ _ hP hD hS (lv_sub hl [0, 2, 4] rfl) h
            · have h := (if_neg c_8).symm.trans h
              refine lv_iload hx hb dX9_ring_55 (lv_at hl 4 rfl) ?_
              refine lv_iload hx hb dX9_ring_57 (lv_at hl 5 rfl) ?_
              refine lv_iload_n hx hb dX9_ring_59 rfl (lv_at hl 1 rfl) ?_
              refine lv_icmp_eq (tgt := 86) hx hb dX9_ring_60 (by decide) (fun c_9 => ?_) (fun c_9 => ?_)
              · have h := (if_pos c_9).symm.trans h
                refine lv_iconst (v := 0) hx hb dX9_ring_86 (by decide) ?_
                refine lv_ior hx hb dX9_ring_87 ?_
                refine lv_istore (lv' := [(4, .int (v4_h48 ||| 0)), (0, .ref q_s), (1, .int v1), (2, .int v2), (3, .int r_7), (5, .int v5_h48)]) hx hb dX9_ring_88 hl (by decide) rfl (fun ls hl => ?_)
                refine lv_iinc (v := (v5_h48 + 1)) (lv' := [(5, .int (v5_h48 + 1)), (4, .int (v4_h48 ||| 0)), (0, .ref q_s), (1, .int v1), (2, .int v2), (3, .int r_7)]) hx hb dX9_ring_90 hl (k := 5) rfl rfl (by decide) rfl (fun ls hl => ?_)
                refine lv_goto (tgt := 48) hx hb dX9_ring_93 (by decide) ?_
                exact ih (v4_h48 ||| 0) (v5_h48 + 1) _ _ _ hP hD hS (lv_sub hl [2, 3, 4, 5, 1, 0] rfl) h
              · have h := (if_neg c_9).symm.trans h
                refine lv_iconst (v := 1) hx hb dX9_ring_63 (by decide) ?_
                refine lv_iload hx hb dX9_ring_64 (lv_at hl 5 rfl) ?_
                refine lv_ishl hx hb dX9_ring_66 ?_
                obtain ⟨r_10, hc_10, h⟩ := bd1_of h
                refine cl_pS (As := [.int (1 <<< (v5_h48 &&& 31))]) (rest := [.int v4_h48]) ⟨hx, hb, hml, hown, hts⟩ (m_X9_beside l (1 <<< (v5_h48 &&& 31)) (r_10) hc_10) (va_cwS 1 hts gX9_ring_X9_beside rfl rfl rfl ddX9_beside ⟨Nat.le_of_ble_eq_true rfl, Nat.le_of_ble_eq_true rfl⟩) rfl rfl hl.1 (Nat.le_of_ble_eq_true rfl) ⟨Nat.zero_le _, Nat.zero_le _⟩ dX9_ring_67 ?_
                refine lv_iload_n hx hb dX9_ring_70 rfl (lv_at hl 3 rfl) ?_
                refine lv_iand hx hb dX9_ring_71 ?_
                obtain ⟨r_11, hc_11, h⟩ := bd1_of h
                refine cl_pS (As := [.int (r_10 &&& r_7)]) (rest := [.int v4_h48]) ⟨hx, hb, hml, hown, hts⟩ (m_X9_bits l (r_10 &&& r_7) (r_11) hc_11) (va_cwS 1 hts gX9_ring_X9_bits rfl rfl rfl ddX9_bits ⟨Nat.le_of_ble_eq_true rfl, Nat.le_of_ble_eq_true rfl⟩) rfl rfl hl.1 (Nat.le_of_ble_eq_true rfl) ⟨Nat.zero_le _, Nat.zero_le _⟩ dX9_ring_72 ?_
                refine lv_iconst (v := 1) hx hb dX9_ring_75 (by decide) ?_
                refine lv_icmp_le (tgt := 86) hx hb dX9_ring_76 (by decide) (fun c_12 => ?_) (fun c_12 => ?_)
                · have h := (if_pos c_12).symm.trans h
                  refine lv_iconst (v := 0) hx hb dX9_ring_86 (by decide) ?_
                  refine lv_ior hx hb dX9_ring_87 ?_
                  refine lv_istore (lv' := [(4, .int (v4_h48 ||| 0)), (0, .ref q_s), (1, .int v1), (2, .int v2), (3, .int r_7), (5, .int v5_h48)]) hx hb dX9_ring_88 hl (by decide) rfl (fun ls hl => ?_)
                  refine lv_iinc (v := (v5_h48 + 1)) (lv' := [(5, .int (v5_h48 + 1)), (4, .int (v4_h48 ||| 0)), (0, .ref q_s), (1, .int v1), (2, .int v2), (3, .int r_7)]) hx hb dX9_ring_90 hl (k := 5) rfl rfl (by decide) rfl (fun ls hl => ?_)
                  refine lv_goto (tgt := 48) hx hb dX9_ring_93 (by decide) ?_
                  exact ih (v4_h48 ||| 0) (v5_h48 + 1) _ _ _ hP hD hS (lv_sub hl [2, 3, 4, 5, 1, 0] rfl) h
                · have h := (if_neg c_12).symm.trans h
                  refine lv_iconst (v := 1) hx hb dX9_ring_79 (by decide) ?_
                  refine lv_iload hx hb dX9_ring_80 (lv_at hl 5 rfl) ?_
                  refine lv_ishl hx hb dX9_ring_82 ?_
                  refine lv_goto (tgt := 87) hx hb dX9_ring_83 (by decide) ?_
                  refine lv_ior hx hb dX9_ring_87 ?_
                  refine lv_istore (lv' := [(4, .int (v4_h48 ||| (1 <<< (v5_h48 &&& 31)))), (0, .ref q_s), (1, .int v1), (2, .int v2), (3, .int r_7), (5, .int v5_h48)]) hx hb dX9_ring_88 hl (by decide) rfl (fun ls hl => ?_)
                  refine lv_iinc (v := (v5_h48 + 1)) (lv' := [(5, .int (v5_h48 + 1)), (4, .int (v4_h48 ||| (1 <<< (v5_h48 &&& 31)))), (0, .ref q_s), (1, .int v1), (2, .int v2), (3, .int r_7)]) hx hb dX9_ring_90 hl (k := 5) rfl rfl (by decide) rfl (fun ls hl => ?_)
                  refine lv_goto (tgt := 48) hx hb dX9_ring_93 (by decide) ?_
                  exact ih (v4_h48 ||| (1 <<< (v5_h48 &&& 31))) (v5_h48 + 1) _ _ _ hP hD hS (lv_sub hl [2, 3, 4, 5, 1, 0] rfl) h
        refine KL48 _ (fun v4_e96 H locs ls hP hD hS hl h => ?_) FU r_7 0 _ _ _ hP hD hS (lv_sub hl [3, 4, 5, 2, 1, 0] rfl) h
        refine lv_iconst (v := 0) hx hb dX9_ring_96 (by decide) ?_
        refine lv_istore (lv' := [(5, .int 0), (0, .ref q_s), (2, .int v2), (4, .int v4_e96)]) hx hb dX9_ring_97 hl (by decide) rfl (fun ls hl => ?_)
        refine lv_iconst (v := 0) hx hb dX9_ring_99 (by decide) ?_
        refine lv_istore (lv' := [(6, .int 0), (5, .int 0), (0, .ref q_s), (2, .int v2), (4, .int v4_e96)]) hx hb dX9_ring_100 hl (by decide) rfl (fun ls hl => ?_)
        have KL102 : ∀ (k102_158 : Int32 → Option (Int32 × Int32)) , (∀ (v5_e158 : Int32) (H : Heap) (locs : List Loc) (ls : Array Slot), va_P (dC, dI) vwCl ((W_M cI cZ q_s q_s_lane q_s_many q_s_item q_s_isle q_s_fresh q_s_then q_s_was q_s_tape q_s_isKept q_s_kept q_s_trace 0 s_status s_lane s_many s_item s_isle s_fresh s_then s_was s_acts s_tape s_taped s_cursor s_start s_token s_value s_fault s_faultAt s_latest s_isKept s_kept s_trace s_traced)) H → va_D A ((W_M cI cZ q_s q_s_lane q_s_many q_s_item q_s_isle q_s_fresh q_s_then q_s_was q_s_tape q_s_isKept q_s_kept q_s_trace 0 s_status s_lane s_many s_item s_isle s_fresh s_then s_was s_acts s_tape s_taped s_cursor s_start s_token s_value s_fault s_faultAt s_latest s_isKept s_kept s_trace s_traced)) → va_S A s.heap H locs → lv_has ls 7 [(2, .int v2), (4, .int v4_e96), (5, .int v5_e158)] → k102_158 v5_e158 = some res → W p l e (headSpec wsX9_ring rmX9_ring).room s m ([.ref q_s, .int v1, .int v2] : List Value).toArray below meth c H locs 0 0 QQ (F0 m 158 ls [])) → ∀ (n : Nat) (v5_h102 : Int32) (v6_h102 : Int32) (H : Heap) (locs : List Loc) (ls : Array Slot), va_P (dC, dI) vwCl ((W_M cI cZ q_s q_s_lane q_s_many q_s_item q_s_isle q_s_fresh q_s_then q_s_was q_s_tape q_s_isKept q_s_kept q_s_trace 0 s_status s_lane s_many s_item s_isle s_fresh s_then s_was s_acts s_tape s_taped s_cursor s_start s_token s_value s_fault s_faultAt s_latest s_isKept s_kept s_trace s_traced)) H → va_D A ((W_M cI cZ q_s q_s_lane q_s_many q_s_item q_s_isle q_s_fresh q_s_then q_s_was q_s_tape q_s_isKept q_s_kept q_s_trace 0 s_status s_lane s_many s_item s_isle s_fresh s_then s_was s_acts s_tape s_taped s_cursor s_start s_token s_value s_fault s_faultAt s_latest s_isKept s_kept s_trace s_traced)) → va_S A s.heap H locs → lv_has ls 7 [(0, .ref q_s), (2, .int v2), (4, .int v4_e96), (5, .int v5_h102), (6, .int v6_h102)] → fX9_ring_L102 s_isle v4_e96 k102_158 n v5_h102 v6_h102 = some res → W p l e (headSpec wsX9_ring rmX9_ring).room s m ([.ref q_s, .int v1, .int v2] : List Value).toArray below meth c H locs 0 0 QQ (F0 m 102 ls []) := by
          intro k102_158 Kk102_158 n
          induction n with
          | zero => intro v5_h102 v6_h102 H locs ls hP hD hS hl h; rw [fX9_ring_L102.eq_1] at h; cases h
          | succ n ih =>
            intro v5_h102 v6_h102 H locs ls hP hD hS hl h
            rw [fX9_ring_L102.eq_2] at h
            refine lv_iload hx hb dX9_ring_102 (lv_at hl 4 rfl) ?_
            refine lv_bipush (v := 15) hx hb dX9_ring_104 (by decide) ?_
            refine lv_icmp_ge (tgt := 158) hx hb dX9_ring_106 (by decide) (fun c_13 => ?_) (fun c_13 => ?_)
            · have h := (if_pos c_13).symm.trans h
              exact Kk102_158 v5_h102 _ _ _ hP hD hS (lv_sub hl [1, 2, 3] rfl) h
            · have h := (if_neg c_13).symm.trans h
              refine lv_iload hx hb dX9_ring_109 (lv_at hl 3 rfl) ?_
              refine lv_iload hx hb dX9_ring_111 (lv_at hl 2 rfl) ?_
              refine lv_iload hx hb dX9_ring_113 (lv_at hl 4 rfl) ?_
              refine lv_ishr hx hb dX9_ring_115 ?_
              refine lv_iconst (v := 1) hx hb dX9_ring_116 (by decide) ?_
              refine lv_iand hx hb dX9_ring_117 ?_
              refine lv_iconst (v := 1) hx hb dX9_ring_118 (by decide) ?_
              refine lv_icmp_ne (tgt := 148) hx hb dX9_ring_119 (by decide) (fun c_14 => ?_) (fun c_14 => ?_)
              · have h := (if_neg c_14).symm.trans h
                refine lv_iconst (v := 0) hx hb dX9_ring_148 (by decide) ?_
                refine lv_iadd hx hb dX9_ring_149 ?_
                refine lv_istore (lv' := [(5, .int (v5_h102 + 0)), (0, .ref q_s), (2, .int v2), (4, .int v4_e96), (6, .int v6_h102)]) hx hb dX9_ring_150 hl (by decide) rfl (fun ls hl => ?_)
                refine lv_iinc (v := (v6_h102 + 1)) (lv' := [(6, .int (v6_h102 + 1)), (5, .int (v5_h102 + 0)), (0, .ref q_s), (2, .int v2), (4, .int v4_e96)]) hx hb dX9_ring_152 hl (k := 4) rfl rfl (by decide) rfl (fun ls hl => ?_)
                refine lv_goto (tgt := 102) hx hb dX9_ring_155 (by decide) ?_
                exact ih (v5_h102 + 0) (v6_h102 + 1) _ _ _ hP hD hS (lv_sub hl [2, 3, 4, 1, 0] rfl) h
              · have h := (if_pos c_14).symm.trans h
                refine lv_aload_n hx hb dX9_ring_122 rfl (lv_at hl 0 rfl) ?_
                refine va_get (D := (dC, dI)) (ci := 7) (v := .ref q_s_isle) (C := RX9) (T := TX9) (N := 23) hx hb hts w_1 hown hK hP 0 rfl rfl 5 (by decide) w_3 (fun _ h9 => h9) rfl dX9_ring_123 ?_
                refine lv_bipush (v := 21) hx hb dX9_ring_126 (by decide) ?_
                refine lv_iload hx hb dX9_ring_128 (lv_at hl 4 rfl) ?_
                refine lv_iadd hx hb dX9_ring_130 ?_
                obtain ⟨b_15, h⟩ := chk_of h
                refine va_iald hx hb hK hP 4 0 rfl rfl (i := (21 + v6_h102)) b_15 dX9_ring_131 ?_
                refine lv_if_ne (tgt := 148) hx hb dX9_ring_132 (by decide) (fun c_16 => ?_) (fun c_16 => ?_)
                · have h := (if_neg c_16).symm.trans h
                  refine lv_iconst (v := 0) hx hb dX9_ring_148 (by decide) ?_
                  refine lv_iadd hx hb dX9_ring_149 ?_
                  refine lv_istore (lv' := [(5, .int (v5_h102 + 0)), (0, .ref q_s), (2, .int v2), (4, .int v4_e96), (6, .int v6_h102)]) hx hb dX9_ring_150 hl (by decide) rfl (fun ls hl => ?_)
                  refine lv_iinc (v := (v6_h102 + 1)) (lv' := [(6, .int (v6_h102 + 1)), (5, .int (v5_h102 + 0)), (0, .ref q_s), (2, .int v2), (4, .int v4_e96)]) hx hb dX9_ring_152 hl (k := 4) rfl rfl (by decide) rfl (fun ls hl => ?_)
                  refine lv_goto (tgt := 102) hx hb dX9_ring_155 (by decide) ?_
                  exact ih (v5_h102 + 0) (v6_h102 + 1) _ _ _ hP hD hS (lv_sub hl [2, 3, 4, 1, 0] rfl) h
                · have h := (if_pos c_16).symm.trans h
                  refine lv_aload_n hx hb dX9_ring_135 rfl (lv_at hl 0 rfl) ?_
                  refine va_get (D := (dC, dI)) (ci := 7) (v := .ref q_s_isle) (C := RX9) (T := TX9) (N := 23) hx hb hts w_1 hown hK hP 0 rfl rfl 5 (by decide) w_3 (fun _ h9 => h9) rfl dX9_ring_136 ?_
                  refine lv_iconst (v := 1) hx hb dX9_ring_139 (by decide) ?_
                  refine lv_iload hx hb dX9_ring_140 (lv_at hl 4 rfl) ?_
                  obtain ⟨r_17, hc_17, h⟩ := bd1_of h
                  refine cl_rS (As := [.ref q_s_isle, .int 1, .int v6_h102]) (rest := [.int v5_h102]) ⟨hx, hb, hml, hown, hts⟩ (m_X9_priceBy l dC dI cI cZ q_s_isle s_isle 1 v6_h102 (r_17) hc_17) (va_cwS 3 hts gX9_ring_X9_priceBy rfl rfl rfl ddX9_priceBy ⟨Nat.le_of_ble_eq_true rfl, Nat.le_of_ble_eq_true rfl⟩) hK hP [4] rfl rfl rfl hl.1 (Nat.le_of_ble_eq_true rfl) ⟨Nat.zero_le _, Nat.zero_le _⟩ dX9_ring_142 ?_
                  refine lv_goto (tgt := 149) hx hb dX9_ring_145 (by decide) ?_
                  refine lv_iadd hx hb dX9_ring_149 ?_
                  refine lv_istore (lv' := [(5, .int (v5_h102 + r_17)), (0, .ref q_s), (2, .int v2), (4, .int v4_e96), (6, .int v6_h102)]) hx hb dX9_ring_150 hl (by decide) rfl (fun ls hl => ?_)
                  refine lv_iinc (v := (v6_h102 + 1)) (lv' := [(6, .int (v6_h102 + 1)), (5, .int (v5_h102 + r_17)), (0, .ref q_s), (2, .int v2), (4, .int v4_e96)]) hx hb dX9_ring_152 hl (k := 4) rfl rfl (by decide) rfl (fun ls hl => ?_)
                  refine lv_goto (tgt := 102) hx hb dX9_ring_155 (by decide) ?_
                  exact ih (v5_h102 + r_17) (v6_h102 + 1) _ _ _ hP hD hS (lv_sub hl [2, 3, 4, 1, 0] rfl) h
        refine KL102 _ (fun v5_e158 H locs ls hP hD hS hl h => ?_) FU 0 0 _ _ _ hP hD hS (lv_sub hl [2, 3, 4, 1, 0] rfl) h
        refine lv_iload_n hx hb dX9_ring_158 rfl (lv_at hl 0 rfl) ?_
        refine lv_if_ne (tgt := 167) hx hb dX9_ring_159 (by decide) (fun c_18 => ?_) (fun c_18 => ?_)
        · have h := (if_neg c_18).symm.trans h
          refine lv_iload hx hb dX9_ring_167 (lv_at hl 1 rfl) ?_
          obtain ⟨r_19, hc_19, h⟩ := bd1_of h
          refine cl_pS (As := [.int v4_e96]) (rest := []) ⟨hx, hb, hml, hown, hts⟩ (m_X9_bits l v4_e96 (r_19) hc_19) (va_cwS 1 hts gX9_ring_X9_bits rfl rfl rfl ddX9_bits ⟨Nat.le_of_ble_eq_true rfl, Nat.le_of_ble_eq_true rfl⟩) rfl rfl hl.1 (Nat.le_of_ble_eq_true rfl) ⟨Nat.zero_le _, Nat.zero_le _⟩ dX9_ring_169 ?_
          have h := Option.some.inj h
          subst h
          rw [hQQ]
          subst hAe
          exact W.iret (v := r_19) hx hb hr (fun t ht hW => ⟨⟨_, (), rfl, rfl, by rw [ht]; exact hP, va_K.moved hW.alike hK, hD⟩, hS.F ht⟩) hS.2.2 dX9_ring_172
        · have h := (if_pos c_18).symm.trans h
          refine lv_iload hx hb dX9_ring_162 (lv_at hl 2 rfl) ?_
          refine lv_goto (tgt := 172) hx hb dX9_ring_164 (by decide) ?_
          have h := Option.some.inj h
          subst h
          rw [hQQ]
          subst hAe
          exact W.iret (v := v5_e158) hx hb hr (fun t ht hW => ⟨⟨_, (), rfl, rfl, by rw [ht]; exact hP, va_K.moved hW.alike hK, hD⟩, hS.F ht⟩) hS.2.2 dX9_ring_172
      · have h := (if_pos c_6).symm.trans h
        refine lv_ldc hx hb hown w_2 dX9_ring_32 ?_
        have h := Option.some.inj h
        subst h
        rw [hQQ]
        subst hAe
        exact W.iret (v := (-1000001)) hx hb hr (fun t ht hW => ⟨⟨_, (), rfl, rfl, by rw [ht]; exact hP, va_K.moved hW.alike hK, hD⟩, hS.F ht⟩) hS.2.2 dX9_ring_34
  · have h := (if_pos c_2).symm.trans h
    refine lv_ldc hx hb hown w_4 dX9_ring_12 ?_
    have h := Option.some.inj h
    subst h
    rw [hQQ]
    subst hAe
    exact W.iret (v := (-1000002)) hx hb hr (fun t ht hW => ⟨⟨_, (), rfl, rfl, by rw [ht]; exact hP, va_K.moved hW.alike hK, hD⟩, hS.F ht⟩) hS.2.2 dX9_ring_14
def fX9_purses_L98 (s_status : Int32) (s_item : (Nat → Int32)) (s_isle : (Nat → Int32)) (v1 : Int32) (v2 : Int32) (v3 : Int32) (v4 : Int32) (k98_165 : Int32 → Int32 → Option (Int32 × Int32 × Int32)) : Nat → Int32 → Int32 → Int32 → Option (Int32 × Int32 × Int32)
  | 0, _, _, _ => none
  | n + 1, v6_h98, v7_h98, v8_h98 => (if v4 ≤ v8_h98 then (k98_165 v6_h98 v7_h98) else chk (¬ ((((40 * v2) + v3) + v8_h98) < 0 ∨ 320 ≤ (((40 * v2) + v3) + v8_h98).toNatClampNeg)) (bd1 (fX9_isCell (s_item (((40 * v2) + v3) + v8_h98).toNatClampNeg)) (fun r_17 => (if r_17 = 0 then some ((-1000001), 0, s_status) else bd1 (fX9_of s_isle v1 0) (fun r_19 => bd1 (fX9_priceBy s_isle r_19 (s_item (((40 * v2) + v3) + v8_h98).toNatClampNeg)) (fun r_20 => ((fX9_purses_L98 s_status s_item s_isle v1 v2 v3 v4 k98_165 n) v7_h98 (v7_h98 + r_20) (v8_h98 + 1))))))))
def fX9_purses_J219 (r181 : Int32 → Int32 → Int32 → Option (Int32 × Int32 × Int32)) (v8_h181 : Int32) (v9_h181 : Int32) (v10_h181 : Int32) (w0_j205 : Int32) (w0_j219 : Int32) : Option (Int32 × Int32 × Int32) :=
  (if w0_j205 = 0 then (r181 (v8_h181 + w0_j219) v9_h181 (v10_h181 + (-1))) else (r181 (v8_h181 + w0_j219) v10_h181 (v10_h181 + (-1))))
def fX9_purses_J205 (r181 : Int32 → Int32 → Int32 → Option (Int32 × Int32 × Int32)) (v8_h181 : Int32) (v9_h181 : Int32) (v10_h181 : Int32) (w0_j205 : Int32) : Option (Int32 × Int32 × Int32) :=
  (if w0_j205 = 0 then (fX9_purses_J219 r181 v8_h181 v9_h181 v10_h181 w0_j205 0) else (fX9_purses_J219 r181 v8_h181 v9_h181 v10_h181 w0_j205 1))
def fX9_purses_L181 (v6_e165 : Int32) (v7_e165 : Int32) (k181_242 : Int32 → Int32 → Option (Int32 × Int32 × Int32)) : Nat → Int32 → Int32 → Int32 → Option (Int32 × Int32 × Int32)
  | 0, _, _, _ => none
  | n + 1, v8_h181, v9_h181, v10_h181 => (if v10_h181 < 0 then (k181_242 v8_h181 v9_h181) else (if v10_h181 < v6_e165 then (fX9_purses_J205 (fX9_purses_L181 v6_e165 v7_e165 k181_242 n) v8_h181 v9_h181 v10_h181 0) else (if v7_e165 ≤ v10_h181 then (fX9_purses_J205 (fX9_purses_L181 v6_e165 v7_e165 k181_242 n) v8_h181 v9_h181 v10_h181 0) else (fX9_purses_J205 (fX9_purses_L181 v6_e165 v7_e165 k181_242 n) v8_h181 v9_h181 v10_h181 1))))
def fX9_purses (s_status : Int32) (s_lane : (Nat → Int32)) (s_many : (Nat → Int32)) (s_item : (Nat → Int32)) (s_isle : (Nat → Int32)) (v1 : Int32) (v2 : Int32) (v3 : Int32) (v4 : Int32) (v5 : Int32) : Option (Int32 × Int32 × Int32) :=
  bd1 (fX9_isBidder s_isle v1) (fun r_1 => (if r_1 = 0 then some ((-1000001), 0, s_status) else bd1 (fX9_isRow v2) (fun r_3 => (if r_3 = 0 then some ((-1000001), 0, s_status) else bd1 (fX9_in v4.toInt64 1 12) (fun r_5 => (if r_5 = 0 then some ((-1000001), 0, s_status) else bd1 (fX9_in v5.toInt64 0 1) (fun r_7 => (if r_7 = 0 then some ((-1000001), 0, s_status) else chk (¬ (v2 < 0 ∨ 8 ≤ v2.toNatClampNeg)) ((if 0 ≤ (s_lane v2.toNatClampNeg) then (if v3 < 0 then bd2 (fX9_finding 2) (fun r_12 s_status_12 => some (r_12, 0, s_status_12)) else chk (¬ (v2 < 0 ∨ 8 ≤ v2.toNatClampNeg)) ((if (lg_cmp (v3.toInt64 + v4.toInt64) ((s_many v2.toNatClampNeg).toInt64)) ≤ 0 then (fX9_purses_L98 s_status s_item s_isle v1 v2 v3 v4 (fun v6_e165 v7_e165 => (fX9_purses_L181 v6_e165 v7_e165 (fun v8_e242 v9_e242 => (if v5 = 0 then some (v8_e242, 0, 0) else some (v9_e242, 0, 0))) FU 0 (-1000000) 99)) FU 0 0 0) else bd2 (fX9_finding 2) (fun r_27 s_status_27 => some (r_27, 0, s_status_27))))) else bd2 (fX9_finding 1) (fun r_28 s_status_28 => some (r_28, 0, s_status_28))))))))))))
abbrev rmX9_purses : Room := { frames := 2, cells := 0, slots := 0, locals := 46 }
theorem ddX9_purses : yX9_purses.cls ≠ "java/lang/invoke/MethodHandle" ∧ yX9_purses.cls ≠ "java/lang/invoke/VarHandle" ∧ (parseMethodDescriptor yX9_purses.desc).map (fun d => d.parameters.length) = some 5 := by decide +kernel
set_option maxHeartbeats 4000000 in
set_option maxRecDepth 100000 in
theorem m_X9_purses (l : Launch) (dC : Nat → ClassId) (dI : Nat → Nat → Nat) (cI cZ : ClassId) (q_s q_s_lane q_s_many q_s_item q_s_isle q_s_fresh q_s_then q_s_was q_s_tape q_s_isKept q_s_kept q_s_trace : Nat) (s_thrown : Int32) (s_status : Int32) (s_lane : (Nat → Int32)) (s_many : (Nat → Int32)) (s_item : (Nat → Int32)) (s_isle : (Nat → Int32)) (s_fresh : (Nat → Int32)) (s_then : (Nat → Int32)) (s_was : (Nat → Int32)) (s_acts : Int32) (s_tape : (Nat → Int32)) (s_taped : Int32) (s_cursor : Int32) (s_start : Int32) (s_token : Int32) (s_value : Int32) (s_fault : Int32) (s_faultAt : Int32) (s_latest : Int32) (s_isKept : (Nat → Int32)) (s_kept : (Nat → Int32)) (s_trace : (Nat → Int32)) (s_traced : Int32) (v1 : Int32) (v2 : Int32) (v3 : Int32) (v4 : Int32) (v5 : Int32) (sz : Nat) (res : Int32 × Int32 × Int32) (hf : fX9_purses s_status s_lane s_many s_item s_isle v1 v2 v3 v4 v5 = some res) : Met l yX9_purses wsX9_purses rmX9_purses (mtPc (dC, dI) (tyZ cI cZ) ((W_M cI cZ q_s q_s_lane q_s_many q_s_item q_s_isle q_s_fresh q_s_then q_s_was q_s_tape q_s_isKept q_s_kept q_s_trace s_thrown s_status s_lane s_many s_item s_isle s_fresh s_then s_was s_acts s_tape s_taped s_cursor s_start s_token s_value s_fault s_faultAt s_latest s_isKept s_kept s_trace s_traced)) [.ref q_s, .int v1, .int v2, .int v3, .int v4, .int v5] sz) (mtQi (dC, dI) (tyZ cI cZ) ((W_M cI cZ q_s q_s_lane q_s_many q_s_item q_s_isle q_s_fresh q_s_then q_s_was q_s_tape q_s_isKept q_s_kept q_s_trace s_thrown s_status s_lane s_many s_item s_isle s_fresh s_then s_was s_acts s_tape s_taped s_cursor s_start s_token s_value s_fault s_faultAt s_latest s_isKept s_kept s_trace s_traced)) ((W_M cI cZ q_s q_s_lane q_s_many q_s_item q_s_isle q_s_fresh q_s_then q_s_was q_s_tape q_s_isKept q_s_kept q_s_trace res.2.1 res.2.2 s_lane s_many s_item s_isle s_fresh s_then s_was s_acts s_tape s_taped s_cursor s_start s_token s_value s_fault s_faultAt s_latest s_isKept s_kept s_trace s_traced)) res.1 sz) 0 0 (va_A ((W_M cI cZ q_s q_s_lane q_s_many q_s_item q_s_isle q_s_fresh q_s_then q_s_was q_s_tape q_s_isKept q_s_kept q_s_trace s_thrown s_status s_lane s_many s_item s_isle s_fresh s_then s_was s_acts s_tape s_taped s_cursor s_start s_token s_value s_fault s_faultAt s_latest s_isKept s_kept s_trace s_traced)) sz) := by
  refine Met.ofW (cc := cX9_purses) (maxL := 12) (ret := (some .int)) (by decide) rfl ?_
  intro p e s m args below meth c s₁ B hml hv
  obtain ⟨rfl, hsz, hP, hK, hD0⟩ := hv
  have hx := B.exec
  have hb := B.bytes
  have hr := B.returns
  have hts := atoms_spec (ws := wsX9_purses) B.pre
  have hown : s.vm.findClass RX9 = some m.cls := findClass_of_methodNamed B.named
  have hlocks := B.notSynchronized
  subst hsz
  have hD := hD0.self (sz := s.heap.size)
  obtain ⟨A, hAe⟩ : ∃ A, A = va_A ((W_M cI cZ q_s q_s_lane q_s_many q_s_item q_s_isle q_s_fresh q_s_then q_s_was q_s_tape q_s_isKept q_s_kept q_s_trace s_thrown s_status s_lane s_many s_item s_isle s_fresh s_then s_was s_acts s_tape s_taped s_cursor s_start s_token s_value s_fault s_faultAt s_latest s_isKept s_kept s_trace s_traced)) s.heap.size := ⟨_, rfl⟩
  rw [← hAe] at hD
  have hA : ∀ q : Nat, s.heap.size ≤ q → A q := fun q h => by rw [hAe]; exact Or.inr h
  have hS : va_S A s.heap s.heap [] := va_S.rf
  have hl := lv_entry ([.ref q_s, .int v1, .int v2, .int v3, .int v4, .int v5]) (n := 12) (Nat.le_of_ble_eq_true rfl)
  rw [lg_entry_eq]
  generalize (lg_sl ([.ref q_s, .int v1, .int v2, .int v3, .int v4, .int v5]) ++ List.replicate (12 - (lg_sl ([.ref q_s, .int v1, .int v2, .int v3, .int v4, .int v5])).length) Slot.unset).toArray = ls at hl ⊢
  have hl : lv_has ls 12 [(0, .ref q_s), (1, .int v1), (2, .int v2), (3, .int v3), (4, .int v4), (5, .int v5)] := hl
  obtain ⟨QQ, hQQ⟩ : ∃ Q, Q = MQ below (mtQi (dC, dI) (tyZ cI cZ) ((W_M cI cZ q_s q_s_lane q_s_many q_s_item q_s_isle q_s_fresh q_s_then q_s_was q_s_tape q_s_isKept q_s_kept q_s_trace s_thrown s_status s_lane s_many s_item s_isle s_fresh s_then s_was s_acts s_tape s_taped s_cursor s_start s_token s_value s_fault s_faultAt s_latest s_isKept s_kept s_trace s_traced)) ((W_M cI cZ q_s q_s_lane q_s_many q_s_item q_s_isle q_s_fresh q_s_then q_s_was q_s_tape q_s_isKept q_s_kept q_s_trace res.2.1 res.2.2 s_lane s_many s_item s_isle s_fresh s_then s_was s_acts s_tape s_taped s_cursor s_start s_token s_value s_fault s_faultAt s_latest s_isKept s_kept s_trace s_traced)) res.1 s.heap.size) ([.ref q_s, .int v1, .int v2, .int v3, .int v4, .int v5] : List Value).toArray s 0 0 (va_A ((W_M cI cZ q_s q_s_lane q_s_many q_s_item q_s_isle q_s_fresh q_s_then q_s_was q_s_tape q_s_isKept q_s_kept q_s_trace s_thrown s_status s_lane s_many s_item s_isle s_fresh s_then s_was s_acts s_tape s_taped s_cursor s_start s_token s_value s_fault s_faultAt s_latest s_isKept s_kept s_trace s_traced)) s.heap.size) := ⟨_, rfl⟩
  rw [← hQQ]
  have w_0 := hts (Cond.fieldLink RX9 44 "TideInchesModel" "thrown" "I") (List.mem_of_getElem? (i := 1) rfl)
  have w_1 := (fun w hw => List.mem_cons_of_mem _ (List.mem_append_right _ hw) : ∀ w ∈ wsX90, w ∈ wsX9_purses)
  have w_2 := hts (Cond.constant RX9 64 (-1000001)) (List.mem_of_getElem? (i := 3) rfl)
  have w_3 := hts (Cond.constantLong RX9 231 (12)) (List.mem_of_getElem? (i := 2) rfl)
  have w_4 := hts (Cond.fieldLink RX9 7 "TideInchesModel" "lane" "[I") (List.mem_of_getElem? (i := 4) rfl)
  have w_5 := hts (Cond.fieldLink RX9 13 "TideInchesModel" "many" "[I") (List.mem_of_getElem? (i := 5) rfl)
  have w_6 := hts (Cond.fieldLink RX9 16 "TideInchesModel" "item" "[I") (List.mem_of_getElem? (i := 6) rfl)
  have w_7 := hts (Cond.fieldLink RX9 19 "TideInchesModel" "isle" "[I") (List.mem_of_getElem? (i := 7) rfl)
  have w_8 := hts (Cond.fieldLink RX9 48 "TideInchesModel" "status" "I") (List.mem_of_getElem? (i := 8) rfl)
  have w_9 := hts (Cond.constant RX9 87 (-1000000)) (List.mem_of_getElem? (i := 9) rfl)
  have h := hf
  unfold fX9_purses at h
  refine lv_aload_n hx hb dX9_purses_0 rfl (lv_at hl 0 rfl) ?_
  refine lv_iconst (v := 0) hx hb dX9_purses_1 (by decide) ?_
  refine va_put (D := (dC, dI)) (ci := 7) (v := .int 0) (ty := .int) (C := RX9) (T := TX9) (N := 23) hx hb hts w_1 tyX9 tyX9_ok nmX9 hown hK hP hD hS 0 rfl rfl 0 (by decide) w_0 (fun _ h9 => h9) rfl (by decide +kernel) rfl rfl (Nat.le_of_ble_eq_true rfl) dX9_purses_2 (fun H locs hP hD hS => ?_)
  have hP : va_P (dC, dI) vwCl ((W_M cI cZ q_s q_s_lane q_s_many q_s_item q_s_isle q_s_fresh q_s_then q_s_was q_s_tape q_s_isKept q_s_kept q_s_trace 0 s_status s_lane s_many s_item s_isle s_fresh s_then s_was s_acts s_tape s_taped s_cursor s_start s_token s_value s_fault s_faultAt s_latest s_isKept s_kept s_trace s_traced)) H := hP
  have hD : va_D A ((W_M cI cZ q_s q_s_lane q_s_many q_s_item q_s_isle q_s_fresh q_s_then q_s_was q_s_tape q_s_isKept q_s_kept q_s_trace 0 s_status s_lane s_many s_item s_isle s_fresh s_then s_was s_acts s_tape s_taped s_cursor s_start s_token s_value s_fault s_faultAt s_latest s_isKept s_kept s_trace s_traced)) := hD
  refine lv_aload_n hx hb dX9_purses_5 rfl (lv_at hl 0 rfl) ?_
  refine lv_iload_n hx hb dX9_purses_6 rfl (lv_at hl 1 rfl) ?_
  obtain ⟨r_1, hc_1, h⟩ := bd1_of h
  refine cl_rV (As := [.int v1]) (rest := []) ⟨hx, hb, hml, hown, hts⟩ (m_X9_isBidder l dC dI cI cZ q_s q_s_lane q_s_many q_s_item q_s_isle q_s_fresh q_s_then q_s_was q_s_tape q_s_isKept q_s_kept q_s_trace 0 s_status s_lane s_many s_item s_isle s_fresh s_then s_was s_acts s_tape s_taped s_cursor s_start s_token s_value s_fault s_faultAt s_latest s_isKept s_kept s_trace s_traced v1 (r_1) hc_1) (cwV 1 hts gX9_purses_X9_isBidder rfl rfl rfl ⟨rfl, ddX9_isBidder⟩ ⟨Nat.le_of_ble_eq_true rfl, Nat.le_of_ble_eq_true rfl⟩) hK hP [0, 1, 2, 3, 4, 5, 6, 7, 8, 9, 10, 11] rfl rfl rfl rfl rfl hl.1 (Nat.le_of_ble_eq_true rfl) ⟨Nat.zero_le _, Nat.zero_le _⟩ dX9_purses_7 ?_
  refine lv_if_eq (tgt := 44) hx hb dX9_purses_10 (by decide) (fun c_2 => ?_) (fun c_2 => ?_)
  · have h := (if_pos c_2).symm.trans h
    refine lv_ldc hx hb hown w_2 dX9_purses_44 ?_
    have h := Option.some.inj h
    subst h
    rw [hQQ]
    subst hAe
    exact W.iret (v := (-1000001)) hx hb hr (fun t ht hW => ⟨⟨_, (), rfl, rfl, by rw [ht]; exact hP, va_K.moved hW.alike hK, hD⟩, hS.F ht⟩) hS.2.2 dX9_purses_46
  · have h := (if_neg c_2).symm.trans h
    refine lv_iload_n hx hb dX9_purses_13 rfl (lv_at hl 2 rfl) ?_
    obtain ⟨r_3, hc_3, h⟩ := bd1_of h
    refine cl_pS (As := [.int v2]) (rest := []) ⟨hx, hb, hml, hown, hts⟩ (m_X9_isRow l v2 (r_3) hc_3) (va_cwS 1 hts gX9_purses_X9_isRow rfl rfl rfl ddX9_isRow ⟨Nat.le_of_ble_eq_true rfl, Nat.le_of_ble_eq_true rfl⟩) rfl rfl hl.1 (Nat.le_of_ble_eq_true rfl) ⟨Nat.zero_le _, Nat.zero_le _⟩ dX9_purses_14 ?_
    refine lv_if_eq (tgt := 44) hx hb dX9_purses_17 (by decide) (fun c_4 => ?_) (fun c_4 => ?_)
    · have h := (if_pos c_4).symm.trans h
      refine lv_ldc hx hb hown w_2 dX9_purses_44 ?_
      have h := Option.some.inj h
      subst h
      rw [hQQ]
      subst hAe
      exact W.iret (v := (-1000001)) hx hb hr (fun t ht hW => ⟨⟨_, (), rfl, rfl, by rw [ht]; exact hP, va_K.moved hW.alike hK, hD⟩, hS.F ht⟩) hS.2.2 dX9_purses_46
    · have h := (if_neg c_4).symm.trans h
      refine lv_iload hx hb dX9_purses_20 (lv_at hl 4 rfl) ?_
      refine lv_i2l hx hb dX9_purses_22 rfl ?_
      refine lv_lconst (v := 1) hx hb dX9_purses_23 (by decide) ?_
      refine lv_ldc2 hx hb hown w_3 dX9_purses_24 ?_
      obtain ⟨r_5, hc_5, h⟩ := bd1_of h
      refine cl_pS (As := [.long v4.toInt64, .long 1, .long 12]) (rest := []) ⟨hx, hb, hml, hown, hts⟩ (m_X9_in l v4.toInt64 1 12 (r_5) hc_5) (va_cwS 3 hts gX9_purses_X9_in rfl rfl rfl ddX9_in ⟨Nat.le_of_ble_eq_true rfl, Nat.le_of_ble_eq_true rfl⟩) rfl rfl hl.1 (Nat.le_of_ble_eq_true rfl) ⟨Nat.zero_le _, Nat.zero_le _⟩ dX9_purses_27 ?_
      refine lv_if_eq (tgt := 44) hx hb dX9_purses_30 (by decide) (fun c_6 => ?_) (fun c_6 => ?_)
      · have h := (if_pos c_6).symm.trans h
        refine lv_ldc hx hb hown w_2 dX9_purses_44 ?_
        have h := Option.some.inj h
        subst h
        rw [hQQ]
        subst hAe
        exact W.iret (v := (-1000001)) hx hb hr (fun t ht hW => ⟨⟨_, (), rfl, rfl, by rw [ht]; exact hP, va_K.moved hW.alike hK, hD⟩, hS.F ht⟩) hS.2.2 dX9_purses_46
      · have h := (if_neg c_6).symm.trans h
        refine lv_iload hx hb dX9_purses_33 (lv_at hl 5 rfl) ?_
        refine lv_i2l hx hb dX9_purses_35 rfl ?_
        refine lv_lconst (v := 0) hx hb dX9_purses_36 (by decide) ?_
        refine lv_lconst (v := 1) hx hb dX9_purses_37 (by decide) ?_
        obtain ⟨r_7, hc_7, h⟩ := bd1_of h
        refine cl_pS (As := [.long v5.toInt64, .long 0, .long 1]) (rest := []) ⟨hx, hb, hml, hown, hts⟩ (m_X9_in l v5.toInt64 0 1 (r_7) hc_7) (va_cwS 3 hts gX9_purses_X9_in rfl rfl rfl ddX9_in ⟨Nat.le_of_ble_eq_true rfl, Nat.le_of_ble_eq_true rfl⟩) rfl rfl hl.1 (Nat.le_of_ble_eq_true rfl) ⟨Nat.zero_le _, Nat.zero_le _⟩ dX9_purses_38 ?_
        refine lv_if_ne (tgt := 47) hx hb dX9_purses_41 (by decide) (fun c_8 => ?_) (fun c_8 => ?_)
        · have h := (if_neg c_8).symm.trans h
          refine lv_aload_n hx hb dX9_purses_47 rfl (lv_at hl 0 rfl) ?_
          refine va_get (D := (dC, dI)) (ci := 7) (v := .ref q_s_lane) (C := RX9) (T := TX9) (N := 23) hx hb hts w_1 hown hK hP 0 rfl rfl 2 (by decide) w_4 (fun _ h9 => h9) rfl dX9_purses_48 ?_
          refine lv_iload_n hx hb dX9_purses_51 rfl (lv_at hl 2 rfl) ?_
          obtain ⟨b_9, h⟩ := chk_of h
          refine va_iald hx hb hK hP 1 0 rfl rfl (i := v2) b_9 dX9_purses_52 ?_
          refine lv_if_ge (tgt := 62) hx hb dX9_purses_53 (by decide) (fun c_10 => ?_) (fun c_10 => ?_)
          · have h := (if_pos c_10).symm.trans h
            refine lv_iload_n hx hb dX9_purses_62 rfl (lv_at hl 3 rfl) ?_
            refine lv_if_lt (tgt := 83) hx hb dX9_purses_63 (by decide) (fun c_11 => ?_) (fun c_11 => ?_)
            · have h := (if_pos c_11).symm.trans h
              refine lv_aload_n hx hb dX9_purses_83 rfl (lv_at hl 0 rfl) ?_
              refine lv_iconst (v := 2) hx hb dX9_purses_84 (by decide) ?_
              obtain ⟨r_12, s_status_12, hc_12, h⟩ := bd2_of h
              refine cl_mVi (As := [.int 2]) (rest := []) (ws' := (W_M cI cZ q_s q_s_lane q_s_many q_s_item q_s_isle q_s_fresh q_s_then q_s_was q_s_tape q_s_isKept q_s_kept q_s_trace 0 s_status_12 s_lane s_many s_item s_isle s_fresh s_then s_was s_acts s_tape s_taped s_cursor s_start s_token s_value s_fault s_faultAt s_latest s_isKept s_kept s_trace s_traced)) (wr := []) ⟨hx, hb, hml, hown, hts⟩ (m_X9_finding l dC dI cI cZ q_s q_s_lane q_s_many q_s_item q_s_isle q_s_fresh q_s_then q_s_was q_s_tape q_s_isKept q_s_kept q_s_trace 0 s_status s_lane s_many s_item s_isle s_fresh s_then s_was s_acts s_tape s_taped s_cursor s_start s_token s_value s_fault s_faultAt s_latest s_isKept s_kept s_trace s_traced 2 _ (r_12, s_status_12) hc_12) (cwV 1 hts gX9_purses_X9_finding rfl rfl rfl ⟨rfl, ddX9_finding⟩ ⟨Nat.le_of_ble_eq_true rfl, Nat.le_of_ble_eq_true rfl⟩) hK hP hD hS hA [0, 1, 2, 3, 4, 5, 6, 7, 8, 9, 10, 11] [] rfl rfl rfl rfl (by decide) [0, 1, 2, 3, 4, 5, 6, 7, 8, 9, 10, 11] rfl rfl rfl rfl rfl rfl rfl hl.1 (Nat.le_of_ble_eq_true rfl) ⟨Nat.zero_le _, Nat.zero_le _⟩ dX9_purses_85 (fun H locs hP hD hS => ?_)
              have h := Option.some.inj h
              subst h
              rw [hQQ]
              subst hAe
              exact W.iret (v := r_12) hx hb hr (fun t ht hW => ⟨⟨_, (), rfl, rfl, by rw [ht]; exact hP, va_K.moved hW.alike hK, hD⟩, hS.F ht⟩) hS.2.2 dX9_purses_88
            · have h := (if_neg c_11).symm.trans h
              refine lv_iload_n hx hb dX9_purses_66 rfl (lv_at hl 3 rfl) ?_
              refine lv_i2l hx hb dX9_purses_67 rfl ?_
              refine lv_iload hx hb dX9_purses_68 (lv_at hl 4 rfl) ?_
              refine lv_i2l hx hb dX9_purses_70 rfl ?_
              refine lv_ladd hx hb dX9_purses_71 ?_
              refine lv_aload_n hx hb dX9_purses_72 rfl (lv_at hl 0 rfl) ?_
              refine va_get (D := (dC, dI)) (ci := 7) (v := .ref q_s_many) (C := RX9) (T := TX9) (N := 23) hx hb hts w_1 hown hK hP 0 rfl rfl 3 (by decide) w_5 (fun _ h9 => h9) rfl dX9_purses_73 ?_
              refine lv_iload_n hx hb dX9_purses_76 rfl (lv_at hl 2 rfl) ?_
              obtain ⟨b_13, h⟩ := chk_of h
              refine va_iald hx hb hK hP 2 0 rfl rfl (i := v2) b_13 dX9_purses_77 ?_
              refine lv_i2l hx hb dX9_purses_78 rfl ?_
              refine W.lcmp hx hb dX9_purses_79 ?_
              refine lv_if_le (tgt := 89) hx hb dX9_purses_80 (by decide) (fun c_14 => ?_) (fun c_14 => ?_)
              · have h := (if_pos c_14).symm.trans h
                refine lv_iconst (v := 0) hx hb dX9_purses_89 (by decide) ?_
                refine lv_istore (lv' := [(6, .int 0), (0, .ref q_s), (1, .int v1), (2, .int v2), (3, .int v3), (4, .int v4), (5, .int v5)]) hx hb dX9_purses_90 hl (by decide) rfl (fun ls hl => ?_)
                refine lv_iconst (v := 0) hx hb dX9_purses_92 (by decide) ?_
                refine lv_istore (lv' := [(7, .int 0), (6, .int 0), (0, .ref q_s), (1, .int v1), (2, .int v2), (3, .int v3), (4, .int v4), (5, .int v5)]) hx hb dX9_purses_93 hl (by decide) rfl (fun ls hl => ?_)
                refine lv_iconst (v := 0) hx hb dX9_purses_95 (by decide) ?_
                refine lv_istore (lv' := [(8, .int 0), (7, .int 0), (6, .int 0), (0, .ref q_s), (1, .int v1), (2, .int v2), (3, .int v3), (4, .int v4), (5, .int v5)]) hx hb dX9_purses_96 hl (by decide) rfl (fun ls hl => ?_)
                have KL98 : ∀ (k98_165 : Int32 → Int32 → Option (Int32 × Int32 × Int32)) , (∀ (v6_e165 : Int32) (v7_e165 : Int32) (H : Heap) (locs : List Loc) (ls : Array Slot), va_P (dC, dI) vwCl ((W_M cI cZ q_s q_s_lane q_s_many q_s_item q_s_isle q_s_fresh q_s_then q_s_was q_s_tape q_s_isKept q_s_kept q_s_trace 0 s_status s_lane s_many s_item s_isle s_fresh s_then s_was s_acts s_tape s_taped s_cursor s_start s_token s_value s_fault s_faultAt s_latest s_isKept s_kept s_trace s_traced)) H → va_D A ((W_M cI cZ q_s q_s_lane q_s_many q_s_item q_s_isle q_s_fresh q_s_then q_s_was q_s_tape q_s_isKept q_s_kept q_s_trace 0 s_status s_lane s_many s_item s_isle s_fresh s_then s_was s_acts s_tape s_taped s_cursor s_start s_token s_value s_fault s_faultAt s_latest s_isKept s_kept s_trace s_traced)) → va_S A s.heap H locs → lv_has ls 12 [(0, .ref q_s), (5, .int v5), (6, .int v6_e165), (7, .int v7_e165)] → k98_165 v6_e165 v7_e165 = some res → W p l e (headSpec wsX9_purses rmX9_purses).room s m ([.ref q_s, .int v1, .int v2, .int v3, .int v4, .int v5] : List Value).toArray below meth c H locs 0 0 QQ (F0 m 165 ls [])) → ∀ (n : Nat) (v6_h98 : Int32) (v7_h98 : Int32) (v8_h98 : Int32) (H : Heap) (locs : List Loc) (ls : Array Slot), va_P (dC, dI) vwCl ((W_M cI cZ q_s q_s_lane q_s_many q_s_item q_s_isle q_s_fresh q_s_then q_s_was q_s_tape q_s_isKept q_s_kept q_s_trace 0 s_status s_lane s_many s_item s_isle s_fresh s_then s_was s_acts s_tape s_taped s_cursor s_start s_token s_value s_fault s_faultAt s_latest s_isKept s_kept s_trace s_traced)) H → va_D A ((W_M cI cZ q_s q_s_lane q_s_many q_s_item q_s_isle q_s_fresh q_s_then q_s_was q_s_tape q_s_isKept q_s_kept q_s_trace 0 s_status s_lane s_many s_item s_isle s_fresh s_then s_was s_acts s_tape s_taped s_cursor s_start s_token s_value s_fault s_faultAt s_latest s_isKept s_kept s_trace s_traced)) → va_S A s.heap H locs → lv_has ls 12 [(0, .ref q_s), (1, .int v1), (2, .int v2), (3, .int v3), (4, .int v4), (5, .int v5), (6, .int v6_h98), (7, .int v7_h98), (8, .int v8_h98)] → fX9_purses_L98 s_status s_item s_isle v1 v2 v3 v4 k98_165 n v6_h98 v7_h98 v8_h98 = some res → W p l e (headSpec wsX9_purses rmX9_purses).room s m ([.ref q_s, .int v1, .int v2, .int v3, .int v4, .int v5] : List Value).toArray below meth c H locs 0 0 QQ (F0 m 98 ls []) := by
                  intro k98_165 Kk98_165 n
                  induction n with
                  | zero => intro v6_h98 v7_h98 v8_h98 H locs ls hP hD hS hl h; rw [fX9_purses_L98.eq_1] at h; cases h
                  | succ n ih =>
                    intro v6_h98 v7_h98 v8_h98 H locs ls hP hD hS hl h
                    rw [fX9_purses_L98.eq_2] at h
                    refine lv_iload hx hb dX9_purses_98 (lv_at hl 8 rfl) ?_
                    refine lv_iload hx hb dX9_purses_100 (lv_at hl 4 rfl) ?_
                    refine lv_icmp_ge (tgt := 165) hx hb dX9_purses_102 (by decide) (fun c_15 => ?_) (fun c_15 => ?_)
                    · have h := (if_pos c_15).symm.trans h
                      exact Kk98_165 v6_h98 v7_h98 _ _ _ hP hD hS (lv_sub hl [0, 5, 6, 7] rfl) h
                    · have h := (if_neg c_15).symm.trans h
                      refine lv_aload_n hx hb dX9_purses_105 rfl (lv_at hl 0 rfl) ?_
                      refine va_get (D := (dC, dI)) (ci := 7) (v := .ref q_s_item) (C := RX9) (T := TX9) (N := 23) hx hb hts w_1 hown hK hP 0 rfl rfl 4 (by decide) w_6 (fun _ h9 => h9) rfl dX9_purses_106 ?_
                      refine lv_bipush (v := 40) hx hb dX9_purses_109 (by decide) ?_
                      refine lv_iload_n hx hb dX9_purses_111 rfl (lv_at hl 2 rfl) ?_
                      refine lv_imul hx hb dX9_purses_112 ?_
                      refine lv_iload_n hx hb dX9_purses_113 rfl (lv_at hl 3 rfl) ?_
                      refine lv_iadd hx hb dX9_purses_114 ?_
                      refine lv_iload hx hb dX9_purses_115 (lv_at hl 8 rfl) ?_
                      refine lv_iadd hx hb dX9_purses_117 ?_
                      obtain ⟨b_16, h⟩ := chk_of h
                      refine va_iald hx hb hK hP 3 0 rfl rfl (i := (((40 * v2) + v3) + v8_h98)) b_16 dX9_purses_118 ?_
                      refine lv_istore (lv' := [(9, .int (s_item (((40 * v2) + v3) + v8_h98).toNatClampNeg)), (0, .ref q_s), (1, .int v1), (2, .int v2), (3, .int v3), (4, .int v4), (5, .int v5), (6, .int v6_h98), (7, .int v7_h98), (8, .int v8_h98)]) hx hb dX9_purses_119 hl (by decide) rfl (fun ls hl => ?_)
                      refine lv_iload hx hb dX9_purses_121 (lv_at hl 0 rfl) ?_
                      obtain ⟨r_17, hc_17, h⟩ := bd1_of h
                      refine cl_pS (As := [.int (s_item (((40 * v2) + v3) + v8_h98).toNatClampNeg)]) (rest := []) ⟨hx, hb, hml, hown, hts⟩ (m_X9_isCell l (s_item (((40 * v2) + v3) + v8_h98).toNatClampNeg) (r_17) hc_17) (va_cwS 1 hts gX9_purses_X9_isCell rfl rfl rfl ddX9_isCell ⟨Nat.le_of_ble_eq_true rfl, Nat.le_of_ble_eq_true rfl⟩) rfl rfl hl.1 (Nat.le_of_ble_eq_true rfl) ⟨Nat.zero_le _, Nat.zero_le _⟩ dX9_purses_123 ?_
                      refine lv_if_ne (tgt := 132) hx hb dX9_purses_126 (by decide) (fun c_18 => ?_) (fun c_18 => ?_)
                      · have h := (if_neg c_18).symm.trans h
                        refine lv_iload hx hb dX9_purses_132 (lv_at hl 8 rfl) ?_
                        refine lv_istore (lv' := [(6, .int v7_h98), (9, .int (s_item (((40 * v2) + v3) + v8_h98).toNatClampNeg)), (0, .ref q_s), (1, .int v1), (2, .int v2), (3, .int v3), (4, .int v4), (5, .int v5), (7, .int v7_h98), (8, .int v8_h98)]) hx hb dX9_purses_134 hl (by decide) rfl (fun ls hl => ?_)
                        refine lv_iload hx hb dX9_purses_136 (lv_at hl 8 rfl) ?_
                        refine lv_aload_n hx hb dX9_purses_138 rfl (lv_at hl 2 rfl) ?_
                        refine va_get (D := (dC, dI)) (ci := 7) (v := .ref q_s_isle) (C := RX9) (T := TX9) (N := 23) hx hb hts w_1 hown hK hP 0 rfl rfl 5 (by decide) w_7 (fun _ h9 => h9) rfl dX9_purses_139 ?_
                        refine lv_aload_n hx hb dX9_purses_142 rfl (lv_at hl 2 rfl) ?_
                        refine va_get (D := (dC, dI)) (ci := 7) (v := .ref q_s_isle) (C := RX9) (T := TX9) (N := 23) hx hb hts w_1 hown hK hP 0 rfl rfl 5 (by decide) w_7 (fun _ h9 => h9) rfl dX9_purses_143 ?_
                        refine lv_iload_n hx hb dX9_purses_146 rfl (lv_at hl 3 rfl) ?_
                        refine lv_iconst (v := 0) hx hb dX9_purses_147 (by decide) ?_
                        obtain ⟨r_19, hc_19, h⟩ := bd1_of h
                        refine cl_rS (As := [.ref q_s_isle, .int v1, .int 0]) (rest := [.ref q_s_isle, .int v7_h98]) ⟨hx, hb, hml, hown, hts⟩ (m_X9_of l dC dI cI cZ q_s_isle s_isle v1 0 (r_19) hc_19) (va_cwS 3 hts gX9_purses_X9_of rfl rfl rfl ddX9_of ⟨Nat.le_of_ble_eq_true rfl, Nat.le_of_ble_eq_true rfl⟩) hK hP [4] rfl rfl rfl hl.1 (Nat.le_of_ble_eq_true rfl) ⟨Nat.zero_le _, Nat.zero_le _⟩ dX9_purses_148 ?_
                        refine lv_iload hx hb dX9_purses_151 (lv_at hl 1 rfl) ?_
                        obtain ⟨r_20, hc_20, h⟩ := bd1_of h
                        refine cl_rS (As := [.ref q_s_isle, .int r_19, .int (s_item (((40 * v2) + v3) + v8_h98).toNatClampNeg)]) (rest := [.int v7_h98]) ⟨hx, hb, hml, hown, hts⟩ (m_X9_priceBy l dC dI cI cZ q_s_isle s_isle r_19 (s_item (((40 * v2) + v3) + v8_h98).toNatClampNeg) (r_20) hc_20) (va_cwS 3 hts gX9_purses_X9_priceBy rfl rfl rfl ddX9_priceBy ⟨Nat.le_of_ble_eq_true rfl, Nat.le_of_ble_eq_true rfl⟩) hK hP [4] rfl rfl rfl hl.1 (Nat.le_of_ble_eq_true rfl) ⟨Nat.zero_le _, Nat.zero_le _⟩ dX9_purses_153 ?_
                        refine lv_iadd hx hb dX9_purses_156 ?_
                        refine lv_istore (lv' := [(7, .int (v7_h98 + r_20)), (6, .int v7_h98), (9, .int (s_item (((40 * v2) + v3) + v8_h98).toNatClampNeg)), (0, .ref q_s), (1, .int v1), (2, .int v2), (3, .int v3), (4, .int v4), (5, .int v5), (8, .int v8_h98)]) hx hb dX9_purses_157 hl (by decide) rfl (fun ls hl => ?_)
                        refine lv_iinc (v := (v8_h98 + 1)) (lv' := [(8, .int (v8_h98 + 1)), (7, .int (v7_h98 + r_20)), (6, .int v7_h98), (9, .int (s_item (((40 * v2) + v3) + v8_h98).toNatClampNeg)), (0, .ref q_s), (1, .int v1), (2, .int v2), (3, .int v3), (4, .int v4), (5, .int v5)]) hx hb dX9_purses_159 hl (k := 9) rfl rfl (by decide) rfl (fun ls hl => ?_)
                        refine lv_goto (tgt := 98) hx hb dX9_purses_162 (by decide) ?_
                        exact ih v7_h98 (v7_h98 + r_20) (v8_h98 + 1) _ _ _ hP hD hS (lv_sub hl [4, 5, 6, 7, 8, 9, 2, 1, 0] rfl) h
                      · have h := (if_pos c_18).symm.trans h
                        refine lv_ldc hx hb hown w_2 dX9_purses_129 ?_
                        have h := Option.some.inj h
                        subst h
                        rw [hQQ]
                        subst hAe
                        exact W.iret (v := (-1000001)) hx hb hr (fun t ht hW => ⟨⟨_, (), rfl, rfl, by rw [ht]; exact hP, va_K.moved hW.alike hK, hD⟩, hS.F ht⟩) hS.2.2 dX9_purses_131
                refine KL98 _ (fun v6_e165 v7_e165 H locs ls hP hD hS hl h => ?_) FU 0 0 0 _ _ _ hP hD hS (lv_sub hl [3, 4, 5, 6, 7, 8, 2, 1, 0] rfl) h
                refine lv_aload_n hx hb dX9_purses_165 rfl (lv_at hl 0 rfl) ?_
                refine lv_iconst (v := 0) hx hb dX9_purses_166 (by decide) ?_
                refine va_put (D := (dC, dI)) (ci := 7) (v := .int 0) (ty := .int) (C := RX9) (T := TX9) (N := 23) hx hb hts w_1 tyX9 tyX9_ok nmX9 hown hK hP hD hS 0 rfl rfl 1 (by decide) w_8 (fun _ h9 => h9) rfl (by decide +kernel) rfl rfl (Nat.le_of_ble_eq_true rfl) dX9_purses_167 (fun H locs hP hD hS => ?_)
                have hP : va_P (dC, dI) vwCl ((W_M cI cZ q_s q_s_lane q_s_many q_s_item q_s_isle q_s_fresh q_s_then q_s_was q_s_tape q_s_isKept q_s_kept q_s_trace 0 0 s_lane s_many s_item s_isle s_fresh s_then s_was s_acts s_tape s_taped s_cursor s_start s_token s_value s_fault s_faultAt s_latest s_isKept s_kept s_trace s_traced)) H := hP
                have hD : va_D A ((W_M cI cZ q_s q_s_lane q_s_many q_s_item q_s_isle q_s_fresh q_s_then q_s_was q_s_tape q_s_isKept q_s_kept q_s_trace 0 0 s_lane s_many s_item s_isle s_fresh s_then s_was s_acts s_tape s_taped s_cursor s_start s_token s_value s_fault s_faultAt s_latest s_isKept s_kept s_trace s_traced)) := hD
                refine lv_iconst (v := 0) hx hb dX9_purses_170 (by decide) ?_
                refine lv_istore (lv' := [(8, .int 0), (0, .ref q_s), (5, .int v5), (6, .int v6_e165), (7, .int v7_e165)]) hx hb dX9_purses_171 hl (by decide) rfl (fun ls hl => ?_)
                refine lv_ldc hx hb hown w_9 dX9_purses_173 ?_
                refine lv_istore (lv' := [(9, .int (-1000000)), (8, .int 0), (0, .ref q_s), (5, .int v5), (6, .int v6_e165), (7, .int v7_e165)]) hx hb dX9_purses_175 hl (by decide) rfl (fun ls hl => ?_)
                refine lv_bipush (v := 99) hx hb dX9_purses_177 (by decide) ?_
                refine lv_istore (lv' := [(10, .int 99), (9, .int (-1000000)), (8, .int 0), (0, .ref q_s), (5, .int v5), (6, .int v6_e165), (7, .int v7_e165)]) hx hb dX9_purses_179 hl (by decide) rfl (fun ls hl => ?_)
                have KL181 : ∀ (k181_242 : Int32 → Int32 → Option (Int32 × Int32 × Int32)) , (∀ (v8_e242 : Int32) (v9_e242 : Int32) (H : Heap) (locs : List Loc) (ls : Array Slot), va_P (dC, dI) vwCl ((W_M cI cZ q_s q_s_lane q_s_many q_s_item q_s_isle q_s_fresh q_s_then q_s_was q_s_tape q_s_isKept q_s_kept q_s_trace 0 0 s_lane s_many s_item s_isle s_fresh s_then s_was s_acts s_tape s_taped s_cursor s_start s_token s_value s_fault s_faultAt s_latest s_isKept s_kept s_trace s_traced)) H → va_D A ((W_M cI cZ q_s q_s_lane q_s_many q_s_item q_s_isle q_s_fresh q_s_then q_s_was q_s_tape q_s_isKept q_s_kept q_s_trace 0 0 s_lane s_many s_item s_isle s_fresh s_then s_was s_acts s_tape s_taped s_cursor s_start s_token s_value s_fault s_faultAt s_latest s_isKept s_kept s_trace s_traced)) → va_S A s.heap H locs → lv_has ls 12 [(5, .int v5), (8, .int v8_e242), (9, .int v9_e242)] → k181_242 v8_e242 v9_e242 = some res → W p l e (headSpec wsX9_purses rmX9_purses).room s m ([.ref q_s, .int v1, .int v2, .int v3, .int v4, .int v5] : List Value).toArray below meth c H locs 0 0 QQ (F0 m 242 ls [])) → ∀ (n : Nat) (v8_h181 : Int32) (v9_h181 : Int32) (v10_h181 : Int32) (H : Heap) (locs : List Loc) (ls : Array Slot), va_P (dC, dI) vwCl ((W_M cI cZ q_s q_s_lane q_s_many q_s_item q_s_isle q_s_fresh q_s_then q_s_was q_s_tape q_s_isKept q_s_kept q_s_trace 0 0 s_lane s_many s_item s_isle s_fresh s_then s_was s_acts s_tape s_taped s_cursor s_start s_token s_value s_fault s_faultAt s_latest s_isKept s_kept s_trace s_traced)) H → va_D A ((W_M cI cZ q_s q_s_lane q_s_many q_s_item q_s_isle q_s_fresh q_s_then q_s_was q_s_tape q_s_isKept q_s_kept q_s_trace 0 0 s_lane s_many s_item s_isle s_fresh s_then s_was s_acts s_tape s_taped s_cursor s_start s_token s_value s_fault s_faultAt s_latest s_isKept s_kept s_trace s_traced)) → va_S A s.heap H locs → lv_has ls 12 [(5, .int v5), (6, .int v6_e165), (7, .int v7_e165), (8, .int v8_h181), (9, .int v9_h181), (10, .int v10_h181)] → fX9_purses_L181 v6_e165 v7_e165 k181_242 n v8_h181 v9_h181 v10_h181 = some res → W p l e (headSpec wsX9_purses rmX9_purses).room s m ([.ref q_s, .int v1, .int v2, .int v3, .int v4, .int v5] : List Value).toArray below meth c H locs 0 0 QQ (F0 m 181 ls []) := by
                  intro k181_242 Kk181_242 n
                  induction n with
                  | zero => intro v8_h181 v9_h181 v10_h181 H locs ls hP hD hS hl h; rw [fX9_purses_L181.eq_1] at h; cases h
                  | succ n ih =>
                    intro v8_h181 v9_h181 v10_h181 H locs ls hP hD hS hl h
                    rw [fX9_purses_L181.eq_2] at h
                    refine lv_iload hx hb dX9_purses_181 (lv_at hl 5 rfl) ?_
                    refine lv_if_lt (tgt := 242) hx hb dX9_purses_183 (by decide) (fun c_21 => ?_) (fun c_21 => ?_)
                    · have h := (if_pos c_21).symm.trans h
                      exact Kk181_242 v8_h181 v9_h181 _ _ _ hP hD hS (lv_sub hl [0, 3, 4] rfl) h
                    · have h := (if_neg c_21).symm.trans h
                      refine lv_iload hx hb dX9_purses_186 (lv_at hl 1 rfl) ?_
                      refine lv_iload hx hb dX9_purses_188 (lv_at hl 5 rfl) ?_
                      have KJ205 : ∀ (w0_j205 : Int32) (H : Heap) (locs : List Loc) (ls : Array Slot), va_P (dC, dI) vwCl ((W_M cI cZ q_s q_s_lane q_s_many q_s_item q_s_isle q_s_fresh q_s_then q_s_was q_s_tape q_s_isKept q_s_kept q_s_trace 0 0 s_lane s_many s_item s_isle s_fresh s_then s_was s_acts s_tape s_taped s_cursor s_start s_token s_value s_fault s_faultAt s_latest s_isKept s_kept s_trace s_traced)) H → va_D A ((W_M cI cZ q_s q_s_lane q_s_many q_s_item q_s_isle q_s_fresh q_s_then q_s_was q_s_tape q_s_isKept q_s_kept q_s_trace 0 0 s_lane s_many s_item s_isle s_fresh s_then s_was s_acts s_tape s_taped s_cursor s_start s_token s_value s_fault s_faultAt s_latest s_isKept s_kept s_trace s_traced)) → va_S A s.heap H locs → lv_has ls 12 [(5, .int v5), (6, .int v6_e165), (7, .int v7_e165), (8, .int v8_h181), (9, .int v9_h181), (10, .int v10_h181)] → fX9_purses_J205 (fX9_purses_L181 v6_e165 v7_e165 k181_242 n) v8_h181 v9_h181 v10_h181 w0_j205 = some res → W p l e (headSpec wsX9_purses rmX9_purses).room s m ([.ref q_s, .int v1, .int v2, .int v3, .int v4, .int v5] : List Value).toArray below meth c H locs 0 0 QQ (F0 m 205 ls [.int w0_j205]) := by
                        intro w0_j205 H locs ls hP hD hS hl h
                        unfold fX9_purses_J205 at h
                        refine lv_istore (lv' := [(11, .int w0_j205), (5, .int v5), (6, .int v6_e165), (7, .int v7_e165), (8, .int v8_h181), (9, .int v9_h181), (10, .int v10_h181)]) hx hb dX9_purses_205 hl (by decide) rfl (fun ls hl => ?_)
                        refine lv_iload hx hb dX9_purses_207 (lv_at hl 4 rfl) ?_
                        refine lv_iload hx hb dX9_purses_209 (lv_at hl 0 rfl) ?_
                        have KJ219 : ∀ (w0_j219 : Int32) (H : Heap) (locs : List Loc) (ls : Array Slot), va_P (dC, dI) vwCl ((W_M cI cZ q_s q_s_lane q_s_many q_s_item q_s_isle q_s_fresh q_s_then q_s_was q_s_tape q_s_isKept q_s_kept q_s_trace 0 0 s_lane s_many s_item s_isle s_fresh s_then s_was s_acts s_tape s_taped s_cursor s_start s_token s_value s_fault s_faultAt s_latest s_isKept s_kept s_trace s_traced)) H → va_D A ((W_M cI cZ q_s q_s_lane q_s_many q_s_item q_s_isle q_s_fresh q_s_then q_s_was q_s_tape q_s_isKept q_s_kept q_s_trace 0 0 s_lane s_many s_item s_isle s_fresh s_then s_was s_acts s_tape s_taped s_cursor s_start s_token s_value s_fault s_faultAt s_latest s_isKept s_kept s_trace s_traced)) → va_S A s.heap H locs → lv_has ls 12 [(5, .int v5), (6, .int v6_e165), (7, .int v7_e165), (9, .int v9_h181), (10, .int v10_h181), (11, .int w0_j205)] → fX9_purses_J219 (fX9_purses_L181 v6_e165 v7_e165 k181_242 n) v8_h181 v9_h181 v10_h181 w0_j205 w0_j219 = some res → W p l e (headSpec wsX9_purses rmX9_purses).room s m ([.ref q_s, .int v1, .int v2, .int v3, .int v4, .int v5] : List Value).toArray below meth c H locs 0 0 QQ (F0 m 219 ls [.int w0_j219, .int v8_h181]) := by
                          intro w0_j219 H locs ls hP hD hS hl h
                          unfold fX9_purses_J219 at h
                          refine lv_iadd hx hb dX9_purses_219 ?_
                          refine lv_istore (lv' := [(8, .int (v8_h181 + w0_j219)), (5, .int v5), (6, .int v6_e165), (7, .int v7_e165), (9, .int v9_h181), (10, .int v10_h181), (11, .int w0_j205)]) hx hb dX9_purses_220 hl (by decide) rfl (fun ls hl => ?_)
                          refine lv_iload hx hb dX9_purses_222 (lv_at hl 6 rfl) ?_
                          refine lv_if_eq (tgt := 232) hx hb dX9_purses_224 (by decide) (fun c_22 => ?_) (fun c_22 => ?_)
                          · have h := (if_pos c_22).symm.trans h
                            refine lv_iload hx hb dX9_purses_232 (lv_at hl 4 rfl) ?_
                            refine lv_istore (lv' := [(9, .int v9_h181), (8, .int (v8_h181 + w0_j219)), (5, .int v5), (6, .int v6_e165), (7, .int v7_e165), (10, .int v10_h181), (11, .int w0_j205)]) hx hb dX9_purses_234 hl (by decide) rfl (fun ls hl => ?_)
                            refine lv_iinc (v := (v10_h181 + (-1))) (lv' := [(10, .int (v10_h181 + (-1))), (9, .int v9_h181), (8, .int (v8_h181 + w0_j219)), (5, .int v5), (6, .int v6_e165), (7, .int v7_e165), (11, .int w0_j205)]) hx hb dX9_purses_236 hl (k := 5) rfl rfl (by decide) rfl (fun ls hl => ?_)
                            refine lv_goto (tgt := 181) hx hb dX9_purses_239 (by decide) ?_
                            exact ih (v8_h181 + w0_j219) v9_h181 (v10_h181 + (-1)) _ _ _ hP hD hS (lv_sub hl [3, 4, 5, 2, 1, 0] rfl) h
                          · have h := (if_neg c_22).symm.trans h
                            refine lv_iload hx hb dX9_purses_227 (lv_at hl 5 rfl) ?_
                            refine lv_goto (tgt := 234) hx hb dX9_purses_229 (by decide) ?_
                            refine lv_istore (lv' := [(9, .int v10_h181), (8, .int (v8_h181 + w0_j219)), (5, .int v5), (6, .int v6_e165), (7, .int v7_e165), (10, .int v10_h181), (11, .int w0_j205)]) hx hb dX9_purses_234 hl (by decide) rfl (fun ls hl => ?_)
                            refine lv_iinc (v := (v10_h181 + (-1))) (lv' := [(10, .int (v10_h181 + (-1))), (9, .int v10_h181), (8, .int (v8_h181 + w0_j219)), (5, .int v5), (6, .int v6_e165), (7, .int v7_e165), (11, .int w0_j205)]) hx hb dX9_purses_236 hl (k := 5) rfl rfl (by decide) rfl (fun ls hl => ?_)
                            refine lv_goto (tgt := 181) hx hb dX9_purses_239 (by decide) ?_
                            exact ih (v8_h181 + w0_j219) v10_h181 (v10_h181 + (-1)) _ _ _ hP hD hS (lv_sub hl [3, 4, 5, 2, 1, 0] rfl) h
                        refine lv_if_eq (tgt := 218) hx hb dX9_purses_211 (by decide) (fun c_23 => ?_) (fun c_23 => ?_)
                        · have h := (if_pos c_23).symm.trans h
                          refine lv_iconst (v := 0) hx hb dX9_purses_218 (by decide) ?_
                          exact KJ219 0 _ _ _ hP hD hS (lv_sub hl [1, 2, 3, 5, 6, 0] rfl) h
                        · have h := (if_neg c_23).symm.trans h
                          refine lv_iconst (v := 1) hx hb dX9_purses_214 (by decide) ?_
                          refine lv_goto (tgt := 219) hx hb dX9_purses_215 (by decide) ?_
                          exact KJ219 1 _ _ _ hP hD hS (lv_sub hl [1, 2, 3, 5, 6, 0] rfl) h
                      refine lv_icmp_gt (tgt := 204) hx hb dX9_purses_190 (by decide) (fun c_24 => ?_) (fun c_24 => ?_)
                      · have h := (if_pos c_24).symm.trans h
                        refine lv_iconst (v := 0) hx hb dX9_purses_204 (by decide) ?_
                        exact KJ205 0 _ _ _ hP hD hS (lv_sub hl [0, 1, 2, 3, 4, 5] rfl) h
                      · have h := (if_neg c_24).symm.trans h
                        refine lv_iload hx hb dX9_purses_193 (lv_at hl 5 rfl) ?_
                        refine lv_iload hx hb dX9_purses_195 (lv_at hl 2 rfl) ?_
                        refine lv_icmp_ge (tgt := 204) hx hb dX9_purses_197 (by decide) (fun c_25 => ?_) (fun c_25 => ?_)
                        · have h := (if_pos c_25).symm.trans h
                          refine lv_iconst (v := 0) hx hb dX9_purses_204 (by decide) ?_
                          exact KJ205 0 _ _ _ hP hD hS (lv_sub hl [0, 1, 2, 3, 4, 5] rfl) h
                        · have h := (if_neg c_25).symm.trans h
                          refine lv_iconst (v := 1) hx hb dX9_purses_200 (by decide) ?_
                          refine lv_goto (tgt := 205) hx hb dX9_purses_201 (by decide) ?_
                          exact KJ205 1 _ _ _ hP hD hS (lv_sub hl [0, 1, 2, 3, 4, 5] rfl) h
                refine KL181 _ (fun v8_e242 v9_e242 H locs ls hP hD hS hl h => ?_) FU 0 (-1000000) 99 _ _ _ hP hD hS (lv_sub hl [4, 5, 6, 2, 1, 0] rfl) h
                refine lv_iload hx hb dX9_purses_242 (lv_at hl 0 rfl) ?_
                refine lv_if_ne (tgt := 252) hx hb dX9_purses_244 (by decide) (fun c_26 => ?_) (fun c_26 => ?_)
                · have h := (if_neg c_26).symm.trans h
                  refine lv_iload hx hb dX9_purses_252 (lv_at hl 2 rfl) ?_
                  have h := Option.some.inj h
                  subst h
                  rw [hQQ]
                  subst hAe
                  exact W.iret (v := v9_e242) hx hb hr (fun t ht hW => ⟨⟨_, (), rfl, rfl, by rw [ht]; exact hP, va_K.moved hW.alike hK, hD⟩, hS.F ht⟩) hS.2.2 dX9_purses_254
                · have h := (if_pos c_26).symm.trans h
                  refine lv_iload hx hb dX9_purses_247 (lv_at hl 1 rfl) ?_
                  refine lv_goto (tgt := 254) hx hb dX9_purses_249 (by decide) ?_
                  have h := Option.some.inj h
                  subst h
                  rw [hQQ]
                  subst hAe
                  exact W.iret (v := v8_e242) hx hb hr (fun t ht hW => ⟨⟨_, (), rfl, rfl, by rw [ht]; exact hP, va_K.moved hW.alike hK, hD⟩, hS.F ht⟩) hS.2.2 dX9_purses_254
              · have h := (if_neg c_14).symm.trans h
                refine lv_aload_n hx hb dX9_purses_83 rfl (lv_at hl 0 rfl) ?_
                refine lv_iconst (v := 2) hx hb dX9_purses_84 (by decide) ?_
                obtain ⟨r_27, s_status_27, hc_27, h⟩ := bd2_of h
                refine cl_mVi (As := [.int 2]) (rest := []) (ws' := (W_M cI cZ q_s q_s_lane q_s_many q_s_item q_s_isle q_s_fresh q_s_then q_s_was q_s_tape q_s_isKept q_s_kept q_s_trace 0 s_status_27 s_lane s_many s_item s_isle s_fresh s_then s_was s_acts s_tape s_taped s_cursor s_start s_token s_value s_fault s_faultAt s_latest s_isKept s_kept s_trace s_traced)) (wr := []) ⟨hx, hb, hml, hown, hts⟩ (m_X9_finding l dC dI cI cZ q_s q_s_lane q_s_many q_s_item q_s_isle q_s_fresh q_s_then q_s_was q_s_tape q_s_isKept q_s_kept q_s_trace 0 s_status s_lane s_many s_item s_isle s_fresh s_then s_was s_acts s_tape s_taped s_cursor s_start s_token s_value s_fault s_faultAt s_latest s_isKept s_kept s_trace s_traced 2 _ (r_27, s_status_27) hc_27) (cwV 1 hts gX9_purses_X9_finding rfl rfl rfl ⟨rfl, ddX9_finding⟩ ⟨Nat.le_of_ble_eq_true rfl, Nat.le_of_ble_eq_true rfl⟩) hK hP hD hS hA [0, 1, 2, 3, 4, 5, 6, 7, 8, 9, 10, 11] [] rfl rfl rfl rfl (by decide) [0, 1, 2, 3, 4, 5, 6, 7, 8, 9, 10, 11] rfl rfl rfl rfl rfl rfl rfl hl.1 (Nat.le_of_ble_eq_true rfl) ⟨Nat.zero_le _, Nat.zero_le _⟩ dX9_purses_85 (fun H locs hP hD hS => ?_)
                have h := Option.some.inj h
                subst h
                rw [hQQ]
                subst hAe
                exact W.iret (v := r_27) hx hb hr (fun t ht hW => ⟨⟨_, (), rfl, rfl, by rw [ht]; exact hP, va_K.moved hW.alike hK, hD⟩, hS.F ht⟩) hS.2.2 dX9_purses_88
          · have h := (if_neg c_10).symm.trans h
            refine lv_aload_n hx hb dX9_purses_56 rfl (lv_at hl 0 rfl) ?_
            refine lv_iconst (v := 1) hx hb dX9_purses_57 (by decide) ?_
            obtain ⟨r_28, s_status_28, hc_28, h⟩ := bd2_of h
            refine cl_mVi (As := [.int 1]) (rest := []) (ws' := (W_M cI cZ q_s q_s_lane q_s_many q_s_item q_s_isle q_s_fresh q_s_then q_s_was q_s_tape q_s_isKept q_s_kept q_s_trace 0 s_status_28 s_lane s_many s_item s_isle s_fresh s_then s_was s_acts s_tape s_taped s_cursor s_start s_token s_value s_fault s_faultAt s_latest s_isKept s_kept s_trace s_traced)) (wr := []) ⟨hx, hb, hml, hown, hts⟩ (m_X9_finding l dC dI cI cZ q_s q_s_lane q_s_many q_s_item q_s_isle q_s_fresh q_s_then q_s_was q_s_tape q_s_isKept q_s_kept q_s_trace 0 s_status s_lane s_many s_item s_isle s_fresh s_then s_was s_acts s_tape s_taped s_cursor s_start s_token s_value s_fault s_faultAt s_latest s_isKept s_kept s_trace s_traced 1 _ (r_28, s_status_28) hc_28) (cwV 1 hts gX9_purses_X9_finding rfl rfl rfl ⟨rfl, ddX9_finding⟩ ⟨Nat.le_of_ble_eq_true rfl, Nat.le_of_ble_eq_true rfl⟩) hK hP hD hS hA [0, 1, 2, 3, 4, 5, 6, 7, 8, 9, 10, 11] [] rfl rfl rfl rfl (by decide) [0, 1, 2, 3, 4, 5, 6, 7, 8, 9, 10, 11] rfl rfl rfl rfl rfl rfl rfl hl.1 (Nat.le_of_ble_eq_true rfl) ⟨Nat.zero_le _, Nat.zero_le _⟩ dX9_purses_58 (fun H locs hP hD hS => ?_)
            have h := Option.some.inj h
            subst h
            rw [hQQ]
            subst hAe
            exact W.iret (v := r_28) hx hb hr (fun t ht hW => ⟨⟨_, (), rfl, rfl, by rw [ht]; exact hP, va_K.moved hW.alike hK, hD⟩, hS.F ht⟩) hS.2.2 dX9_purses_61
        · have h := (if_pos c_8).symm.trans h
          refine lv_ldc hx hb hown w_2 dX9_purses_44 ?_
          have h := Option.some.inj h
          subst h
          rw [hQQ]
          subst hAe
          exact W.iret (v := (-1000001)) hx hb hr (fun t ht hW => ⟨⟨_, (), rfl, rfl, by rw [ht]; exact hP, va_K.moved hW.alike hK, hD⟩, hS.F ht⟩) hS.2.2 dX9_purses_46
def fX9_drawn_L63 (v1 : Int32) (k63_173 : (Nat → Int32) → Option (Int32 × Int32 × (Nat → Int32))) : Nat → Int64 → Int32 → (Nat → Int32) → Option (Int32 × Int32 × (Nat → Int32))
  | 0, _, _, _ => none
  | n + 1, v4_h63, v6_h63, s_then_h63 => (if v1 ≤ v6_h63 then (k63_173 s_then_h63) else chk (¬ ((s_then_h63 (4 : Int32).toNatClampNeg).toInt64) = 0) (bd1 (fX9_mayBid s_then_h63 ((((v4_h63 * 16807) - (v4_h63 * 16807) / 2147483647 * 2147483647) - ((v4_h63 * 16807) - (v4_h63 * 16807) / 2147483647 * 2147483647) / ((s_then_h63 (4 : Int32).toNatClampNeg).toInt64) * ((s_then_h63 (4 : Int32).toNatClampNeg).toInt64)).toInt32) ((((v4_h63 * 16807) - (v4_h63 * 16807) / 2147483647 * 2147483647) - ((v4_h63 * 16807) - (v4_h63 * 16807) / 2147483647 * 2147483647) / 15 * 15).toInt32)) (fun r_12 => (if r_12 = 0 then bd1 (fX9_hour s_then_h63) (fun s_then_14 => ((fX9_drawn_L63 v1 k63_173 n) ((v4_h63 * 16807) - (v4_h63 * 16807) / 2147483647 * 2147483647) (v6_h63 + 1) s_then_14)) else bd1 (fX9_of s_then_h63 ((((v4_h63 * 16807) - (v4_h63 * 16807) / 2147483647 * 2147483647) - ((v4_h63 * 16807) - (v4_h63 * 16807) / 2147483647 * 2147483647) / ((s_then_h63 (4 : Int32).toNatClampNeg).toInt64) * ((s_then_h63 (4 : Int32).toNatClampNeg).toInt64)).toInt32) 1) (fun r_15 => bd1 (fX9_of s_then_h63 ((((v4_h63 * 16807) - (v4_h63 * 16807) / 2147483647 * 2147483647) - ((v4_h63 * 16807) - (v4_h63 * 16807) / 2147483647 * 2147483647) / ((s_then_h63 (4 : Int32).toNatClampNeg).toInt64) * ((s_then_h63 (4 : Int32).toNatClampNeg).toInt64)).toInt32) 0) (fun r_16 => bd1 (fX9_priceBy s_then_h63 r_16 ((((v4_h63 * 16807) - (v4_h63 * 16807) / 2147483647 * 2147483647) - ((v4_h63 * 16807) - (v4_h63 * 16807) / 2147483647 * 2147483647) / 15 * 15).toInt32)) (fun r_17 => (if r_15 < r_17 then bd1 (fX9_hour s_then_h63) (fun s_then_19 => ((fX9_drawn_L63 v1 k63_173 n) ((v4_h63 * 16807) - (v4_h63 * 16807) / 2147483647 * 2147483647) (v6_h63 + 1) s_then_19)) else bd1 (fX9_buys s_then_h63 ((((v4_h63 * 16807) - (v4_h63 * 16807) / 2147483647 * 2147483647) - ((v4_h63 * 16807) - (v4_h63 * 16807) / 2147483647 * 2147483647) / ((s_then_h63 (4 : Int32).toNatClampNeg).toInt64) * ((s_then_h63 (4 : Int32).toNatClampNeg).toInt64)).toInt32) ((((v4_h63 * 16807) - (v4_h63 * 16807) / 2147483647 * 2147483647) - ((v4_h63 * 16807) - (v4_h63 * 16807) / 2147483647 * 2147483647) / 15 * 15).toInt32)) (fun s_then_20 => bd1 (fX9_hour s_then_20) (fun s_then_21 => ((fX9_drawn_L63 v1 k63_173 n) ((v4_h63 * 16807) - (v4_h63 * 16807) / 2147483647 * 2147483647) (v6_h63 + 1) s_then_21)))))))))))
def fX9_drawn_L179 (s_then_e173 : (Nat → Int32)) (k179_211 : Int32 → Option (Int32 × Int32 × (Nat → Int32))) : Nat → Int32 → Int32 → Option (Int32 × Int32 × (Nat → Int32))
  | 0, _, _ => none
  | n + 1, v6_h179, v7_h179 => (if (s_then_e173 (4 : Int32).toNatClampNeg) ≤ v7_h179 then (k179_211 v6_h179) else bd1 (fX9_of s_then_e173 v7_h179 1) (fun r_23 => ((fX9_drawn_L179 s_then_e173 k179_211 n) (v6_h179 + r_23) (v7_h179 + 1))))
def fX9_drawn (s_isle : (Nat → Int32)) (s_then : (Nat → Int32)) (v1 : Int32) (v2 : Int32) (v3 : Int32) : Option (Int32 × Int32 × (Nat → Int32)) :=
  bd1 (fX9_isThere s_isle) (fun r_1 => (if r_1 = 0 then some ((-1000002), 0, s_then) else bd1 (fX9_in v1.toInt64 0 60) (fun r_3 => (if r_3 = 0 then some ((-1000001), 0, s_then) else bd1 (fX9_in v2.toInt64 1 999999) (fun r_5 => (if r_5 = 0 then some ((-1000001), 0, s_then) else bd1 (fX9_in v3.toInt64 0 1) (fun r_7 => (if r_7 = 0 then some ((-1000001), 0, s_then) else bd1 (fX9_layThen s_isle s_then) (fun s_then_9 => (fX9_drawn_L63 v1 (fun s_then_e173 => (fX9_drawn_L179 s_then_e173 (fun v6_e211 => (if v3 = 0 then bd1 (fX9_heldOf s_then_e173) (fun r_25 => bd1 (fX9_bits r_25) (fun r_26 => some (r_26, 0, s_then_e173))) else some (v6_e211, 0, s_then_e173))) FU 0 0)) FU v2.toInt64 0 s_then_9))))))))))
abbrev rmX9_drawn : Room := { frames := 5, cells := 0, slots := 0, locals := 109 }
theorem ddX9_drawn : yX9_drawn.cls ≠ "java/lang/invoke/MethodHandle" ∧ yX9_drawn.cls ≠ "java/lang/invoke/VarHandle" ∧ (parseMethodDescriptor yX9_drawn.desc).map (fun d => d.parameters.length) = some 3 := by decide +kernel
set_option maxHeartbeats 4000000 in
set_option maxRecDepth 100000 in
theorem m_X9_drawn (l : Launch) (dC : Nat → ClassId) (dI : Nat → Nat → Nat) (cI cZ : ClassId) (q_s q_s_lane q_s_many q_s_item q_s_isle q_s_fresh q_s_then q_s_was q_s_tape q_s_isKept q_s_kept q_s_trace : Nat) (s_thrown : Int32) (s_status : Int32) (s_lane : (Nat → Int32)) (s_many : (Nat → Int32)) (s_item : (Nat → Int32)) (s_isle : (Nat → Int32)) (s_fresh : (Nat → Int32)) (s_then : (Nat → Int32)) (s_was : (Nat → Int32)) (s_acts : Int32) (s_tape : (Nat → Int32)) (s_taped : Int32) (s_cursor : Int32) (s_start : Int32) (s_token : Int32) (s_value : Int32) (s_fault : Int32) (s_faultAt : Int32) (s_latest : Int32) (s_isKept : (Nat → Int32)) (s_kept : (Nat → Int32)) (s_trace : (Nat → Int32)) (s_traced : Int32) (v1 : Int32) (v2 : Int32) (v3 : Int32) (sz : Nat) (res : Int32 × Int32 × (Nat → Int32)) (hf : fX9_drawn s_isle s_then v1 v2 v3 = some res) : Met l yX9_drawn wsX9_drawn rmX9_drawn (mtPc (dC, dI) (tyZ cI cZ) ((W_M cI cZ q_s q_s_lane q_s_many q_s_item q_s_isle q_s_fresh q_s_then q_s_was q_s_tape q_s_isKept q_s_kept q_s_trace s_thrown s_status s_lane s_many s_item s_isle s_fresh s_then s_was s_acts s_tape s_taped s_cursor s_start s_token s_value s_fault s_faultAt s_latest s_isKept s_kept s_trace s_traced)) [.ref q_s, .int v1, .int v2, .int v3] sz) (mtQi (dC, dI) (tyZ cI cZ) ((W_M cI cZ q_s q_s_lane q_s_many q_s_item q_s_isle q_s_fresh q_s_then q_s_was q_s_tape q_s_isKept q_s_kept q_s_trace s_thrown s_status s_lane s_many s_item s_isle s_fresh s_then s_was s_acts s_tape s_taped s_cursor s_start s_token s_value s_fault s_faultAt s_latest s_isKept s_kept s_trace s_traced)) ((W_M cI cZ q_s q_s_lane q_s_many q_s_item q_s_isle q_s_fresh q_s_then q_s_was q_s_tape q_s_isKept q_s_kept q_s_trace res.2.1 s_status s_lane s_many s_item s_isle s_fresh res.2.2 s_was s_acts s_tape s_taped s_cursor s_start s_token s_value s_fault s_faultAt s_latest s_isKept s_kept s_trace s_traced)) res.1 sz) 0 0 (va_A ((W_M cI cZ q_s q_s_lane q_s_many q_s_item q_s_isle q_s_fresh q_s_then q_s_was q_s_tape q_s_isKept q_s_kept q_s_trace s_thrown s_status s_lane s_many s_item s_isle s_fresh s_then s_was s_acts s_tape s_taped s_cursor s_start s_token s_value s_fault s_faultAt s_latest s_isKept s_kept s_trace s_traced)) sz) := by
  refine Met.ofW (cc := cX9_drawn) (maxL := 9) (ret := (some .int)) (by decide) rfl ?_
  intro p e s m args below meth c s₁ B hml hv
  obtain ⟨rfl, hsz, hP, hK, hD0⟩ := hv
  have hx := B.exec
  have hb := B.bytes
  have hr := B.returns
  have hts := atoms_spec (ws := wsX9_drawn) B.pre
  have hown : s.vm.findClass RX9 = some m.cls := findClass_of_methodNamed B.named
  have hlocks := B.notSynchronized
  subst hsz
  have hD := hD0.self (sz := s.heap.size)
  obtain ⟨A, hAe⟩ : ∃ A, A = va_A ((W_M cI cZ q_s q_s_lane q_s_many q_s_item q_s_isle q_s_fresh q_s_then q_s_was q_s_tape q_s_isKept q_s_kept q_s_trace s_thrown s_status s_lane s_many s_item s_isle s_fresh s_then s_was s_acts s_tape s_taped s_cursor s_start s_token s_value s_fault s_faultAt s_latest s_isKept s_kept s_trace s_traced)) s.heap.size := ⟨_, rfl⟩
  rw [← hAe] at hD
  have hA : ∀ q : Nat, s.heap.size ≤ q → A q := fun q h => by rw [hAe]; exact Or.inr h
  have hS : va_S A s.heap s.heap [] := va_S.rf
  have hl := lv_entry ([.ref q_s, .int v1, .int v2, .int v3]) (n := 9) (Nat.le_of_ble_eq_true rfl)
  rw [lg_entry_eq]
  generalize (lg_sl ([.ref q_s, .int v1, .int v2, .int v3]) ++ List.replicate (9 - (lg_sl ([.ref q_s, .int v1, .int v2, .int v3])).length) Slot.unset).toArray = ls at hl ⊢
  have hl : lv_has ls 9 [(0, .ref q_s), (1, .int v1), (2, .int v2), (3, .int v3)] := hl
  obtain ⟨QQ, hQQ⟩ : ∃ Q, Q = MQ below (mtQi (dC, dI) (tyZ cI cZ) ((W_M cI cZ q_s q_s_lane q_s_many q_s_item q_s_isle q_s_fresh q_s_then q_s_was q_s_tape q_s_isKept q_s_kept q_s_trace s_thrown s_status s_lane s_many s_item s_isle s_fresh s_then s_was s_acts s_tape s_taped s_cursor s_start s_token s_value s_fault s_faultAt s_latest s_isKept s_kept s_trace s_traced)) ((W_M cI cZ q_s q_s_lane q_s_many q_s_item q_s_isle q_s_fresh q_s_then q_s_was q_s_tape q_s_isKept q_s_kept q_s_trace res.2.1 s_status s_lane s_many s_item s_isle s_fresh res.2.2 s_was s_acts s_tape s_taped s_cursor s_start s_token s_value s_fault s_faultAt s_latest s_isKept s_kept s_trace s_traced)) res.1 s.heap.size) ([.ref q_s, .int v1, .int v2, .int v3] : List Value).toArray s 0 0 (va_A ((W_M cI cZ q_s q_s_lane q_s_many q_s_item q_s_isle q_s_fresh q_s_then q_s_was q_s_tape q_s_isKept q_s_kept q_s_trace s_thrown s_status s_lane s_many s_item s_isle s_fresh s_then s_was s_acts s_tape s_taped s_cursor s_start s_token s_value s_fault s_faultAt s_latest s_isKept s_kept s_trace s_traced)) s.heap.size) := ⟨_, rfl⟩
  rw [← hQQ]
  have w_0 := hts (Cond.fieldLink RX9 44 "TideInchesModel" "thrown" "I") (List.mem_of_getElem? (i := 1) rfl)
  have w_1 := (fun w hw => List.mem_cons_of_mem _ (List.mem_append_right _ hw) : ∀ w ∈ wsX90, w ∈ wsX9_drawn)
  have w_2 := hts (Cond.constantLong RX9 214 (60)) (List.mem_of_getElem? (i := 3) rfl)
  have w_3 := hts (Cond.constant RX9 64 (-1000001)) (List.mem_of_getElem? (i := 5) rfl)
  have w_4 := hts (Cond.constantLong RX9 236 (999999)) (List.mem_of_getElem? (i := 4) rfl)
  have w_5 := hts (Cond.constantLong RX9 238 (16807)) (List.mem_of_getElem? (i := 6) rfl)
  have w_6 := hts (Cond.constantLong RX9 240 (2147483647)) (List.mem_of_getElem? (i := 7) rfl)
  have w_7 := hts (Cond.fieldLink RX9 25 "TideInchesModel" "then" "[I") (List.mem_of_getElem? (i := 8) rfl)
  have w_8 := hts (Cond.constantLong RX9 229 (15)) (List.mem_of_getElem? (i := 9) rfl)
  have w_9 := hts (Cond.constant RX9 181 (-1000002)) (List.mem_of_getElem? (i := 2) rfl)
  have h := hf
  unfold fX9_drawn at h
  refine lv_aload_n hx hb dX9_drawn_0 rfl (lv_at hl 0 rfl) ?_
  refine lv_iconst (v := 0) hx hb dX9_drawn_1 (by decide) ?_
  refine va_put (D := (dC, dI)) (ci := 7) (v := .int 0) (ty := .int) (C := RX9) (T := TX9) (N := 23) hx hb hts w_1 tyX9 tyX9_ok nmX9 hown hK hP hD hS 0 rfl rfl 0 (by decide) w_0 (fun _ h9 => h9) rfl (by decide +kernel) rfl rfl (Nat.le_of_ble_eq_true rfl) dX9_drawn_2 (fun H locs hP hD hS => ?_)
  have hP : va_P (dC, dI) vwCl ((W_M cI cZ q_s q_s_lane q_s_many q_s_item q_s_isle q_s_fresh q_s_then q_s_was q_s_tape q_s_isKept q_s_kept q_s_trace 0 s_status s_lane s_many s_item s_isle s_fresh s_then s_was s_acts s_tape s_taped s_cursor s_start s_token s_value s_fault s_faultAt s_latest s_isKept s_kept s_trace s_traced)) H := hP
  have hD : va_D A ((W_M cI cZ q_s q_s_lane q_s_many q_s_item q_s_isle q_s_fresh q_s_then q_s_was q_s_tape q_s_isKept q_s_kept q_s_trace 0 s_status s_lane s_many s_item s_isle s_fresh s_then s_was s_acts s_tape s_taped s_cursor s_start s_token s_value s_fault s_faultAt s_latest s_isKept s_kept s_trace s_traced)) := hD
  refine lv_aload_n hx hb dX9_drawn_5 rfl (lv_at hl 0 rfl) ?_
  obtain ⟨r_1, hc_1, h⟩ := bd1_of h
  refine cl_rV (As := []) (rest := []) ⟨hx, hb, hml, hown, hts⟩ (m_X9_isThere l dC dI cI cZ q_s q_s_lane q_s_many q_s_item q_s_isle q_s_fresh q_s_then q_s_was q_s_tape q_s_isKept q_s_kept q_s_trace 0 s_status s_lane s_many s_item s_isle s_fresh s_then s_was s_acts s_tape s_taped s_cursor s_start s_token s_value s_fault s_faultAt s_latest s_isKept s_kept s_trace s_traced (r_1) hc_1) (cwV 0 hts gX9_drawn_X9_isThere rfl rfl rfl ⟨rfl, ddX9_isThere⟩ ⟨Nat.le_of_ble_eq_true rfl, Nat.le_of_ble_eq_true rfl⟩) hK hP [0, 1, 2, 3, 4, 5, 6, 7, 8, 9, 10, 11] rfl rfl rfl rfl rfl hl.1 (Nat.le_of_ble_eq_true rfl) ⟨Nat.zero_le _, Nat.zero_le _⟩ dX9_drawn_6 ?_
  refine lv_if_ne (tgt := 15) hx hb dX9_drawn_9 (by decide) (fun c_2 => ?_) (fun c_2 => ?_)
  · have h := (if_neg c_2).symm.trans h
    refine lv_iload_n hx hb dX9_drawn_15 rfl (lv_at hl 1 rfl) ?_
    refine lv_i2l hx hb dX9_drawn_16 rfl ?_
    refine lv_lconst (v := 0) hx hb dX9_drawn_17 (by decide) ?_
    refine lv_ldc2 hx hb hown w_2 dX9_drawn_18 ?_
    obtain ⟨r_3, hc_3, h⟩ := bd1_of h
    refine cl_pS (As := [.long v1.toInt64, .long 0, .long 60]) (rest := []) ⟨hx, hb, hml, hown, hts⟩ (m_X9_in l v1.toInt64 0 60 (r_3) hc_3) (va_cwS 3 hts gX9_drawn_X9_in rfl rfl rfl ddX9_in ⟨Nat.le_of_ble_eq_true rfl, Nat.le_of_ble_eq_true rfl⟩) rfl rfl hl.1 (Nat.le_of_ble_eq_true rfl) ⟨Nat.zero_le _, Nat.zero_le _⟩ dX9_drawn_21 ?_
    refine lv_if_eq (tgt := 49) hx hb dX9_drawn_24 (by decide) (fun c_4 => ?_) (fun c_4 => ?_)
    · have h := (if_pos c_4).symm.trans h
      refine lv_ldc hx hb hown w_3 dX9_drawn_49 ?_
      have h := Option.some.inj h
      subst h
      rw [hQQ]
      subst hAe
      exact W.iret (v := (-1000001)) hx hb hr (fun t ht hW => ⟨⟨_, (), rfl, rfl, by rw [ht]; exact hP, va_K.moved hW.alike hK, hD⟩, hS.F ht⟩) hS.2.2 dX9_drawn_51
    · have h := (if_neg c_4).symm.trans h
      refine lv_iload_n hx hb dX9_drawn_27 rfl (lv_at hl 2 rfl) ?_
      refine lv_i2l hx hb dX9_drawn_28 rfl ?_
      refine lv_lconst (v := 1) hx hb dX9_drawn_29 (by decide) ?_
      refine lv_ldc2 hx hb hown w_4 dX9_drawn_30 ?_
      obtain ⟨r_5, hc_5, h⟩ := bd1_of h
      refine cl_pS (As := [.long v2.toInt64, .long 1, .long 999999]) (rest := []) ⟨hx, hb, hml, hown, hts⟩ (m_X9_in l v2.toInt64 1 999999 (r_5) hc_5) (va_cwS 3 hts gX9_drawn_X9_in rfl rfl rfl ddX9_in ⟨Nat.le_of_ble_eq_true rfl, Nat.le_of_ble_eq_true rfl⟩) rfl rfl hl.1 (Nat.le_of_ble_eq_true rfl) ⟨Nat.zero_le _, Nat.zero_le _⟩ dX9_drawn_33 ?_
      refine lv_if_eq (tgt := 49) hx hb dX9_drawn_36 (by decide) (fun c_6 => ?_) (fun c_6 => ?_)
      · have h := (if_pos c_6).symm.trans h
        refine lv_ldc hx hb hown w_3 dX9_drawn_49 ?_
        have h := Option.some.inj h
        subst h
        rw [hQQ]
        subst hAe
        exact W.iret (v := (-1000001)) hx hb hr (fun t ht hW => ⟨⟨_, (), rfl, rfl, by rw [ht]; exact hP, va_K.moved hW.alike hK, hD⟩, hS.F ht⟩) hS.2.2 dX9_drawn_51
      · have h := (if_neg c_6).symm.trans h
        refine lv_iload_n hx hb dX9_drawn_39 rfl (lv_at hl 3 rfl) ?_
        refine lv_i2l hx hb dX9_drawn_40 rfl ?_
        refine lv_lconst (v := 0) hx hb dX9_drawn_41 (by decide) ?_
        refine lv_lconst (v := 1) hx hb dX9_drawn_42 (by decide) ?_
        obtain ⟨r_7, hc_7, h⟩ := bd1_of h
        refine cl_pS (As := [.long v3.toInt64, .long 0, .long 1]) (rest := []) ⟨hx, hb, hml, hown, hts⟩ (m_X9_in l v3.toInt64 0 1 (r_7) hc_7) (va_cwS 3 hts gX9_drawn_X9_in rfl rfl rfl ddX9_in ⟨Nat.le_of_ble_eq_true rfl, Nat.le_of_ble_eq_true rfl⟩) rfl rfl hl.1 (Nat.le_of_ble_eq_true rfl) ⟨Nat.zero_le _, Nat.zero_le _⟩ dX9_drawn_43 ?_
        refine lv_if_ne (tgt := 52) hx hb dX9_drawn_46 (by decide) (fun c_8 => ?_) (fun c_8 => ?_)
        · have h := (if_neg c_8).symm.trans h
          refine lv_aload_n hx hb dX9_drawn_52 rfl (lv_at hl 0 rfl) ?_
          obtain ⟨s_then_9, hc_9, h⟩ := bd1_of h
          refine cl_mVv (As := []) (rest := []) (ws' := (W_M cI cZ q_s q_s_lane q_s_many q_s_item q_s_isle q_s_fresh q_s_then q_s_was q_s_tape q_s_isKept q_s_kept q_s_trace 0 s_status s_lane s_many s_item s_isle s_fresh s_then_9 s_was s_acts s_tape s_taped s_cursor s_start s_token s_value s_fault s_faultAt s_latest s_isKept s_kept s_trace s_traced)) (wr := []) ⟨hx, hb, hml, hown, hts⟩ (m_X9_layThen l dC dI cI cZ q_s q_s_lane q_s_many q_s_item q_s_isle q_s_fresh q_s_then q_s_was q_s_tape q_s_isKept q_s_kept q_s_trace 0 s_status s_lane s_many s_item s_isle s_fresh s_then s_was s_acts s_tape s_taped s_cursor s_start s_token s_value s_fault s_faultAt s_latest s_isKept s_kept s_trace s_traced _ (s_then_9) hc_9) (cwV 0 hts gX9_drawn_X9_layThen rfl rfl rfl ⟨rfl, ddX9_layThen⟩ ⟨Nat.le_of_ble_eq_true rfl, Nat.le_of_ble_eq_true rfl⟩) hK hP hD hS hA [0, 1, 2, 3, 4, 5, 6, 7, 8, 9, 10, 11] [] rfl rfl rfl rfl (by decide) [0, 1, 2, 3, 4, 5, 6, 7, 8, 9, 10, 11] rfl rfl rfl rfl rfl rfl rfl hl.1 (Nat.le_of_ble_eq_true rfl) ⟨Nat.zero_le _, Nat.zero_le _⟩ dX9_drawn_53 (fun H locs hP hD hS => ?_)
          refine lv_iload_n hx hb dX9_drawn_56 rfl (lv_at hl 2 rfl) ?_
          refine lv_i2l hx hb dX9_drawn_57 rfl ?_
          refine lv_lstore (lv' := [(4, .long v2.toInt64), (0, .ref q_s), (1, .int v1), (2, .int v2), (3, .int v3)]) hx hb dX9_drawn_58 hl (by decide) rfl (fun ls hl => ?_)
          refine lv_iconst (v := 0) hx hb dX9_drawn_60 (by decide) ?_
          refine lv_istore (lv' := [(6, .int 0), (4, .long v2.toInt64), (0, .ref q_s), (1, .int v1), (2, .int v2), (3, .int v3)]) hx hb dX9_drawn_61 hl (by decide) rfl (fun ls hl => ?_)
          have KL63 : ∀ (k63_173 : (Nat → Int32) → Option (Int32 × Int32 × (Nat → Int32))) , (∀ (s_then_e173 : (Nat → Int32)) (H : Heap) (locs : List Loc) (ls : Array Slot), va_P (dC, dI) vwCl ((W_M cI cZ q_s q_s_lane q_s_many q_s_item q_s_isle q_s_fresh q_s_then q_s_was q_s_tape q_s_isKept q_s_kept q_s_trace 0 s_status s_lane s_many s_item s_isle s_fresh s_then_e173 s_was s_acts s_tape s_taped s_cursor s_start s_token s_value s_fault s_faultAt s_latest s_isKept s_kept s_trace s_traced)) H → va_D A ((W_M cI cZ q_s q_s_lane q_s_many q_s_item q_s_isle q_s_fresh q_s_then q_s_was q_s_tape q_s_isKept q_s_kept q_s_trace 0 s_status s_lane s_many s_item s_isle s_fresh s_then_e173 s_was s_acts s_tape s_taped s_cursor s_start s_token s_value s_fault s_faultAt s_latest s_isKept s_kept s_trace s_traced)) → va_S A s.heap H locs → lv_has ls 9 [(0, .ref q_s), (3, .int v3)] → k63_173 s_then_e173 = some res → W p l e (headSpec wsX9_drawn rmX9_drawn).room s m ([.ref q_s, .int v1, .int v2, .int v3] : List Value).toArray below meth c H locs 0 0 QQ (F0 m 173 ls [])) → ∀ (n : Nat) (v4_h63 : Int64) (v6_h63 : Int32) (s_then_h63 : (Nat → Int32)) (H : Heap) (locs : List Loc) (ls : Array Slot), va_P (dC, dI) vwCl ((W_M cI cZ q_s q_s_lane q_s_many q_s_item q_s_isle q_s_fresh q_s_then q_s_was q_s_tape q_s_isKept q_s_kept q_s_trace 0 s_status s_lane s_many s_item s_isle s_fresh s_then_h63 s_was s_acts s_tape s_taped s_cursor s_start s_token s_value s_fault s_faultAt s_latest s_isKept s_kept s_trace s_traced)) H → va_D A ((W_M cI cZ q_s q_s_lane q_s_many q_s_item q_s_isle q_s_fresh q_s_then q_s_was q_s_tape q_s_isKept q_s_kept q_s_trace 0 s_status s_lane s_many s_item s_isle s_fresh s_then_h63 s_was s_acts s_tape s_taped s_cursor s_start s_token s_value s_fault s_faultAt s_latest s_isKept s_kept s_trace s_traced)) → va_S A s.heap H locs → lv_has ls 9 [(0, .ref q_s), (1, .int v1), (3, .int v3), (4, .long v4_h63), (6, .int v6_h63)] → fX9_drawn_L63 v1 k63_173 n v4_h63 v6_h63 s_then_h63 = some res → W p l e (headSpec wsX9_drawn rmX9_drawn).room s m ([.ref q_s, .int v1, .int v2, .int v3] : List Value).toArray below meth c H locs 0 0 QQ (F0 m 63 ls []) := by
            intro k63_173 Kk63_173 n
            induction n with
            | zero => intro v4_h63 v6_h63 s_then_h63 H locs ls hP hD hS hl h; rw [fX9_drawn_L63.eq_1] at h; cases h
            | succ n ih =>
              intro v4_h63 v6_h63 s_then_h63 H locs ls hP hD hS hl h
              rw [fX9_drawn_L63.eq_2] at h
              refine lv_iload hx hb dX9_drawn_63 (lv_at hl 4 rfl) ?_
              refine lv_iload_n hx hb dX9_drawn_65 rfl (lv_at hl 1 rfl) ?_
              refine lv_icmp_ge (tgt := 173) hx hb dX9_drawn_66 (by decide) (fun c_10 => ?_) (fun c_10 => ?_)
              · have h := (if_pos c_10).symm.trans h
                exact Kk63_173 s_then_h63 _ _ _ hP hD hS (lv_sub hl [0, 2] rfl) h
              · have h := (if_neg c_10).symm.trans h
                refine lv_lload hx hb dX9_drawn_69 (lv_at hl 3 rfl) ?_
                refine lv_ldc2 hx hb hown w_5 dX9_drawn_71 ?_
                refine lv_lmul hx hb dX9_drawn_74 ?_
                refine lv_ldc2 hx hb hown w_6 dX9_drawn_75 ?_
                refine lv_lrem hx hb dX9_drawn_78 (by decide) ?_
                refine lv_lstore (lv' := [(4, .long ((v4_h63 * 16807) - (v4_h63 * 16807) / 2147483647 * 2147483647)), (0, .ref q_s), (1, .int v1), (3, .int v3), (6, .int v6_h63)]) hx hb dX9_drawn_79 hl (by decide) rfl (fun ls hl => ?_)
                refine lv_lload hx hb dX9_drawn_81 (lv_at hl 0 rfl) ?_
                refine lv_aload_n hx hb dX9_drawn_83 rfl (lv_at hl 1 rfl) ?_
                refine va_get (D := (dC, dI)) (ci := 7) (v := .ref q_s_then) (C := RX9) (T := TX9) (N := 23) hx hb hts w_1 hown hK hP 0 rfl rfl 7 (by decide) w_7 (fun _ h9 => h9) rfl dX9_drawn_84 ?_
                refine lv_iconst (v := 4) hx hb dX9_drawn_87 (by decide) ?_
                refine va_iald hx hb hK hP 6 0 rfl rfl (i := 4) (show ¬ ((4 : Int32) < 0 ∨ 51 ≤ (4 : Int32).toNatClampNeg) by decide +kernel) dX9_drawn_88 ?_
                refine lv_i2l hx hb dX9_drawn_89 rfl ?_
                obtain ⟨b_11, h⟩ := chk_of h
                refine lv_lrem hx hb dX9_drawn_90 b_11 ?_
                refine lv_l2i hx hb dX9_drawn_91 rfl ?_
                refine lv_istore (lv' := [(7, .int ((((v4_h63 * 16807) - (v4_h63 * 16807) / 2147483647 * 2147483647) - ((v4_h63 * 16807) - (v4_h63 * 16807) / 2147483647 * 2147483647) / ((s_then_h63 (4 : Int32).toNatClampNeg).toInt64) * ((s_then_h63 (4 : Int32).toNatClampNeg).toInt64)).toInt32)), (4, .long ((v4_h63 * 16807) - (v4_h63 * 16807) / 2147483647 * 2147483647)), (0, .ref q_s), (1, .int v1), (3, .int v3), (6, .int v6_h63)]) hx hb dX9_drawn_92 hl (by decide) rfl (fun ls hl => ?_)
                refine lv_lload hx hb dX9_drawn_94 (lv_at hl 1 rfl) ?_
                refine lv_ldc2 hx hb hown w_8 dX9_drawn_96 ?_
                refine lv_lrem hx hb dX9_drawn_99 (by decide) ?_
                refine lv_l2i hx hb dX9_drawn_100 rfl ?_
                refine lv_istore (lv' := [(8, .int ((((v4_h63 * 16807) - (v4_h63 * 16807) / 2147483647 * 2147483647) - ((v4_h63 * 16807) - (v4_h63 * 16807) / 2147483647 * 2147483647) / 15 * 15).toInt32)), (7, .int ((((v4_h63 * 16807) - (v4_h63 * 16807) / 2147483647 * 2147483647) - ((v4_h63 * 16807) - (v4_h63 * 16807) / 2147483647 * 2147483647) / ((s_then_h63 (4 : Int32).toNatClampNeg).toInt64) * ((s_then_h63 (4 : Int32).toNatClampNeg).toInt64)).toInt32)), (4, .long ((v4_h63 * 16807) - (v4_h63 * 16807) / 2147483647 * 2147483647)), (0, .ref q_s), (1, .int v1), (3, .int v3), (6, .int v6_h63)]) hx hb dX9_drawn_101 hl (by decide) rfl (fun ls hl => ?_)
                refine lv_aload_n hx hb dX9_drawn_103 rfl (lv_at hl 3 rfl) ?_
                refine va_get (D := (dC, dI)) (ci := 7) (v := .ref q_s_then) (C := RX9) (T := TX9) (N := 23) hx hb hts w_1 hown hK hP 0 rfl rfl 7 (by decide) w_7 (fun _ h9 => h9) rfl dX9_drawn_104 ?_
                refine lv_iload hx hb dX9_drawn_107 (lv_at hl 1 rfl) ?_
                refine lv_iload hx hb dX9_drawn_109 (lv_at hl 0 rfl) ?_
                obtain ⟨r_12, hc_12, h⟩ := bd1_of h
                refine cl_rS (As := [.ref q_s_then, .int ((((v4_h63 * 16807) - (v4_h63 * 16807) / 2147483647 * 2147483647) - ((v4_h63 * 16807) - (v4_h63 * 16807) / 2147483647 * 2147483647) / ((s_then_h63 (4 : Int32).toNatClampNeg).toInt64) * ((s_then_h63 (4 : Int32).toNatClampNeg).toInt64)).toInt32), .int ((((v4_h63 * 16807) - (v4_h63 * 16807) / 2147483647 * 2147483647) - ((v4_h63 * 16807) - (v4_h63 * 16807) / 2147483647 * 2147483647) / 15 * 15).toInt32)]) (rest := []) ⟨hx, hb, hml, hown, hts⟩ (m_X9_mayBid l dC dI cI cZ q_s_then s_then_h63 ((((v4_h63 * 16807) - (v4_h63 * 16807) / 2147483647 * 2147483647) - ((v4_h63 * 16807) - (v4_h63 * 16807) / 2147483647 * 2147483647) / ((s_then_h63 (4 : Int32).toNatClampNeg).toInt64) * ((s_then_h63 (4 : Int32).toNatClampNeg).toInt64)).toInt32) ((((v4_h63 * 16807) - (v4_h63 * 16807) / 2147483647 * 2147483647) - ((v4_h63 * 16807) - (v4_h63 * 16807) / 2147483647 * 2147483647) / 15 * 15).toInt32) (r_12) hc_12) (va_cwS 3 hts gX9_drawn_X9_mayBid rfl rfl rfl ddX9_mayBid ⟨Nat.le_of_ble_eq_true rfl, Nat.le_of_ble_eq_true rfl⟩) hK hP [6] rfl rfl rfl hl.1 (Nat.le_of_ble_eq_true rfl) ⟨Nat.zero_le _, Nat.zero_le _⟩ dX9_drawn_111 ?_
                refine lv_if_eq (tgt := 160) hx hb dX9_drawn_114 (by decide) (fun c_13 => ?_) (fun c_13 => ?_)
                · have h := (if_pos c_13).symm.trans h
                  refine lv_aload_n hx hb dX9_drawn_160 rfl (lv_at hl 3 rfl) ?_
                  refine va_get (D := (dC, dI)) (ci := 7) (v := .ref q_s_then) (C := RX9) (T := TX9) (N := 23) hx hb hts w_1 hown hK hP 0 rfl rfl 7 (by decide) w_7 (fun _ h9 => h9) rfl dX9_drawn_161 ?_
                  obtain ⟨s_then_14, hc_14, h⟩ := bd1_of h
                  refine cl_mSv (As := [.ref q_s_then]) (rest := []) (ws' := (W_M cI cZ q_s q_s_lane q_s_many q_s_item q_s_isle q_s_fresh q_s_then q_s_was q_s_tape q_s_isKept q_s_kept q_s_trace 0 s_status s_lane s_many s_item s_isle s_fresh s_then_14 s_was s_acts s_tape s_taped s_cursor s_start s_token s_value s_fault s_faultAt s_latest s_isKept s_kept s_trace s_traced)) (wr := [(q_s, .inr (7, [.int 0, .int s_status, .ref q_s_lane, .ref q_s_many, .ref q_s_item, .ref q_s_isle, .ref q_s_fresh, .ref q_s_then, .ref q_s_was, .int s_acts, .ref q_s_tape, .int s_taped, .int s_cursor, .int s_start, .int s_token, .int s_value, .int s_fault, .int s_faultAt, .int s_latest, .ref q_s_isKept, .ref q_s_kept, .ref q_s_trace, .int s_traced]))] ++ ([(q_s_lane, .inl (cI, 8, .inl s_lane))] ++ ([(q_s_many, .inl (cI, 8, .inl s_many))] ++ ([(q_s_item, .inl (cI, 320, .inl s_item))] ++ ([(q_s_isle, .inl (cI, 51, .inl s_isle))] ++ ([(q_s_fresh, .inl (cI, 51, .inl s_fresh))] ++ ([(q_s_was, .inl (cI, 1224, .inl s_was))] ++ ([(q_s_tape, .inl (cI, 100, .inl s_tape))] ++ ([(q_s_isKept, .inl (cZ, 2, .inl s_isKept))] ++ ([(q_s_kept, .inl (cI, 102, .inl s_kept))] ++ ([(q_s_trace, .inl (cI, 16, .inl s_trace))]))))))))))) ⟨hx, hb, hml, hown, hts⟩ (m_X9_hour l dC dI cI cZ q_s_then s_then_h63 _ (s_then_14) hc_14) (va_cwS 1 hts gX9_drawn_X9_hour rfl rfl rfl ddX9_hour ⟨Nat.le_of_ble_eq_true rfl, Nat.le_of_ble_eq_true rfl⟩) hK hP hD hS hA [6] [0, 1, 2, 3, 4, 5, 7, 8, 9, 10, 11] rfl rfl rfl rfl (by decide) [0, 1, 2, 3, 4, 5, 11, 6, 7, 8, 9, 10] rfl rfl rfl rfl rfl hl.1 (Nat.le_of_ble_eq_true rfl) ⟨Nat.zero_le _, Nat.zero_le _⟩ dX9_drawn_164 (fun H locs hP hD hS => ?_)
                  refine lv_iinc (v := (v6_h63 + 1)) (lv' := [(6, .int (v6_h63 + 1)), (8, .int ((((v4_h63 * 16807) - (v4_h63 * 16807) / 2147483647 * 2147483647) - ((v4_h63 * 16807) - (v4_h63 * 16807) / 2147483647 * 2147483647) / 15 * 15).toInt32)), (7, .int ((((v4_h63 * 16807) - (v4_h63 * 16807) / 2147483647 * 2147483647) - ((v4_h63 * 16807) - (v4_h63 * 16807) / 2147483647 * 2147483647) / ((s_then_h63 (4 : Int32).toNatClampNeg).toInt64) * ((s_then_h63 (4 : Int32).toNatClampNeg).toInt64)).toInt32)), (4, .long ((v4_h63 * 16807) - (v4_h63 * 16807) / 2147483647 * 2147483647)), (0, .ref q_s), (1, .int v1), (3, .int v3)]) hx hb dX9_drawn_167 hl (k := 6) rfl rfl (by decide) rfl (fun ls hl => ?_)
                  refine lv_goto (tgt := 63) hx hb dX9_drawn_170 (by decide) ?_
                  exact ih ((v4_h63 * 16807) - (v4_h63 * 16807) / 2147483647 * 2147483647) (v6_h63 + 1) s_then_14 _ _ _ hP hD hS (lv_sub hl [4, 5, 6, 3, 0] rfl) h
                · have h := (if_neg c_13).symm.trans h
                  refine lv_aload_n hx hb dX9_drawn_117 rfl (lv_at hl 3 rfl) ?_
                  refine va_get (D := (dC, dI)) (ci := 7) (v := .ref q_s_then) (C := RX9) (T := TX9) (N := 23) hx hb hts w_1 hown hK hP 0 rfl rfl 7 (by decide) w_7 (fun _ h9 => h9) rfl dX9_drawn_118 ?_
                  refine lv_iload hx hb dX9_drawn_121 (lv_at hl 1 rfl) ?_
                  refine lv_iconst (v := 1) hx hb dX9_drawn_123 (by decide) ?_
                  obtain ⟨r_15, hc_15, h⟩ := bd1_of h
                  refine cl_rS (As := [.ref q_s_then, .int ((((v4_h63 * 16807) - (v4_h63 * 16807) / 2147483647 * 2147483647) - ((v4_h63 * 16807) - (v4_h63 * 16807) / 2147483647 * 2147483647) / ((s_then_h63 (4 : Int32).toNatClampNeg).toInt64) * ((s_then_h63 (4 : Int32).toNatClampNeg).toInt64)).toInt32), .int 1]) (rest := []) ⟨hx, hb, hml, hown, hts⟩ (m_X9_of l dC dI cI cZ q_s_then s_then_h63 ((((v4_h63 * 16807) - (v4_h63 * 16807) / 2147483647 * 2147483647) - ((v4_h63 * 16807) - (v4_h63 * 16807) / 2147483647 * 2147483647) / ((s_then_h63 (4 : Int32).toNatClampNeg).toInt64) * ((s_then_h63 (4 : Int32).toNatClampNeg).toInt64)).toInt32) 1 (r_15) hc_15) (va_cwS 3 hts gX9_drawn_X9_of rfl rfl rfl ddX9_of ⟨Nat.le_of_ble_eq_true rfl, Nat.le_of_ble_eq_true rfl⟩) hK hP [6] rfl rfl rfl hl.1 (Nat.le_of_ble_eq_true rfl) ⟨Nat.zero_le _, Nat.zero_le _⟩ dX9_drawn_124 ?_
                  refine lv_aload_n hx hb dX9_drawn_127 rfl (lv_at hl 3 rfl) ?_
                  refine va_get (D := (dC, dI)) (ci := 7) (v := .ref q_s_then) (C := RX9) (T := TX9) (N := 23) hx hb hts w_1 hown hK hP 0 rfl rfl 7 (by decide) w_7 (fun _ h9 => h9) rfl dX9_drawn_128 ?_
                  refine lv_aload_n hx hb dX9_drawn_131 rfl (lv_at hl 3 rfl) ?_
                  refine va_get (D := (dC, dI)) (ci := 7) (v := .ref q_s_then) (C := RX9) (T := TX9) (N := 23) hx hb hts w_1 hown hK hP 0 rfl rfl 7 (by decide) w_7 (fun _ h9 => h9) rfl dX9_drawn_132 ?_
                  refine lv_iload hx hb dX9_drawn_135 (lv_at hl 1 rfl) ?_
                  refine lv_iconst (v := 0) hx hb dX9_drawn_137 (by decide) ?_
                  obtain ⟨r_16, hc_16, h⟩ := bd1_of h
                  refine cl_rS (As := [.ref q_s_then, .int ((((v4_h63 * 16807) - (v4_h63 * 16807) / 2147483647 * 2147483647) - ((v4_h63 * 16807) - (v4_h63 * 16807) / 2147483647 * 2147483647) / ((s_then_h63 (4 : Int32).toNatClampNeg).toInt64) * ((s_then_h63 (4 : Int32).toNatClampNeg).toInt64)).toInt32), .int 0]) (rest := [.ref q_s_then, .int r_15]) ⟨hx, hb, hml, hown, hts⟩ (m_X9_of l dC dI cI cZ q_s_then s_then_h63 ((((v4_h63 * 16807) - (v4_h63 * 16807) / 2147483647 * 2147483647) - ((v4_h63 * 16807) - (v4_h63 * 16807) / 2147483647 * 2147483647) / ((s_then_h63 (4 : Int32).toNatClampNeg).toInt64) * ((s_then_h63 (4 : Int32).toNatClampNeg).toInt64)).toInt32) 0 (r_16) hc_16) (va_cwS 3 hts gX9_drawn_X9_of rfl rfl rfl ddX9_of ⟨Nat.le_of_ble_eq_true rfl, Nat.le_of_ble_eq_true rfl⟩) hK hP [6] rfl rfl rfl hl.1 (Nat.le_of_ble_eq_true rfl) ⟨Nat.zero_le _, Nat.zero_le _⟩ dX9_drawn_138 ?_
                  refine lv_iload hx hb dX9_drawn_141 (lv_at hl 0 rfl) ?_
                  obtain ⟨r_17, hc_17, h⟩ := bd1_of h
                  refine cl_rS (As := [.ref q_s_then, .int r_16, .int ((((v4_h63 * 16807) - (v4_h63 * 16807) / 2147483647 * 2147483647) - ((v4_h63 * 16807) - (v4_h63 * 16807) / 2147483647 * 2147483647) / 15 * 15).toInt32)]) (rest := [.int r_15]) ⟨hx, hb, hml, hown, hts⟩ (m_X9_priceBy l dC dI cI cZ q_s_then s_then_h63 r_16 ((((v4_h63 * 16807) - (v4_h63 * 16807) / 2147483647 * 2147483647) - ((v4_h63 * 16807) - (v4_h63 * 16807) / 2147483647 * 2147483647) / 15 * 15).toInt32) (r_17) hc_17) (va_cwS 3 hts gX9_drawn_X9_priceBy rfl rfl rfl ddX9_priceBy ⟨Nat.le_of_ble_eq_true rfl, Nat.le_of_ble_eq_true rfl⟩) hK hP [6] rfl rfl rfl hl.1 (Nat.le_of_ble_eq_true rfl) ⟨Nat.zero_le _, Nat.zero_le _⟩ dX9_drawn_143 ?_
                  refine lv_icmp_lt (tgt := 160) hx hb dX9_drawn_146 (by decide) (fun c_18 => ?_) (fun c_18 => ?_)
                  · have h := (if_pos c_18).symm.trans h
                    refine lv_aload_n hx hb dX9_drawn_160 rfl (lv_at hl 3 rfl) ?_
                    refine va_get (D := (dC, dI)) (ci := 7) (v := .ref q_s_then) (C := RX9) (T := TX9) (N := 23) hx hb hts w_1 hown hK hP 0 rfl rfl 7 (by decide) w_7 (fun _ h9 => h9) rfl dX9_drawn_161 ?_
                    obtain ⟨s_then_19, hc_19, h⟩ := bd1_of h
                    refine cl_mSv (As := [.ref q_s_then]) (rest := []) (ws' := (W_M cI cZ q_s q_s_lane q_s_many q_s_item q_s_isle q_s_fresh q_s_then q_s_was q_s_tape q_s_isKept q_s_kept q_s_trace 0 s_status s_lane s_many s_item s_isle s_fresh s_then_19 s_was s_acts s_tape s_taped s_cursor s_start s_token s_value s_fault s_faultAt s_latest s_isKept s_kept s_trace s_traced)) (wr := [(q_s, .inr (7, [.int 0, .int s_status, .ref q_s_lane, .ref q_s_many, .ref q_s_item, .ref q_s_isle, .ref q_s_fresh, .ref q_s_then, .ref q_s_was, .int s_acts, .ref q_s_tape, .int s_taped, .int s_cursor, .int s_start, .int s_token, .int s_value, .int s_fault, .int s_faultAt, .int s_latest, .ref q_s_isKept, .ref q_s_kept, .ref q_s_trace, .int s_traced]))] ++ ([(q_s_lane, .inl (cI, 8, .inl s_lane))] ++ ([(q_s_many, .inl (cI, 8, .inl s_many))] ++ ([(q_s_item, .inl (cI, 320, .inl s_item))] ++ ([(q_s_isle, .inl (cI, 51, .inl s_isle))] ++ ([(q_s_fresh, .inl (cI, 51, .inl s_fresh))] ++ ([(q_s_was, .inl (cI, 1224, .inl s_was))] ++ ([(q_s_tape, .inl (cI, 100, .inl s_tape))] ++ ([(q_s_isKept, .inl (cZ, 2, .inl s_isKept))] ++ ([(q_s_kept, .inl (cI, 102, .inl s_kept))] ++ ([(q_s_trace, .inl (cI, 16, .inl s_trace))]))))))))))) ⟨hx, hb, hml, hown, hts⟩ (m_X9_hour l dC dI cI cZ q_s_then s_then_h63 _ (s_then_19) hc_19) (va_cwS 1 hts gX9_drawn_X9_hour rfl rfl rfl ddX9_hour ⟨Nat.le_of_ble_eq_true rfl, Nat.le_of_ble_eq_true rfl⟩) hK hP hD hS hA [6] [0, 1, 2, 3, 4, 5, 7, 8, 9, 10, 11] rfl rfl rfl rfl (by decide) [0, 1, 2, 3, 4, 5, 11, 6, 7, 8, 9, 10] rfl rfl rfl rfl rfl hl.1 (Nat.le_of_ble_eq_true rfl) ⟨Nat.zero_le _, Nat.zero_le _⟩ dX9_drawn_164 (fun H locs hP hD hS => ?_)
                    refine lv_iinc (v := (v6_h63 + 1)) (lv' := [(6, .int (v6_h63 + 1)), (8, .int ((((v4_h63 * 16807) - (v4_h63 * 16807) / 2147483647 * 2147483647) - ((v4_h63 * 16807) - (v4_h63 * 16807) / 2147483647 * 2147483647) / 15 * 15).toInt32)), (7, .int ((((v4_h63 * 16807) - (v4_h63 * 16807) / 2147483647 * 2147483647) - ((v4_h63 * 16807) - (v4_h63 * 16807) / 2147483647 * 2147483647) / ((s_then_h63 (4 : Int32).toNatClampNeg).toInt64) * ((s_then_h63 (4 : Int32).toNatClampNeg).toInt64)).toInt32)), (4, .long ((v4_h63 * 16807) - (v4_h63 * 16807) / 2147483647 * 2147483647)), (0, .ref q_s), (1, .int v1), (3, .int v3)]) hx hb dX9_drawn_167 hl (k := 6) rfl rfl (by decide) rfl (fun ls hl => ?_)
                    refine lv_goto (tgt := 63) hx hb dX9_drawn_170 (by decide) ?_
                    exact ih ((v4_h63 * 16807) - (v4_h63 * 16807) / 2147483647 * 2147483647) (v6_h63 + 1) s_then_19 _ _ _ hP hD hS (lv_sub hl [4, 5, 6, 3, 0] rfl) h
                  · have h := (if_neg c_18).symm.trans h
                    refine lv_aload_n hx hb dX9_drawn_149 rfl (lv_at hl 3 rfl) ?_
                    refine va_get (D := (dC, dI)) (ci := 7) (v := .ref q_s_then) (C := RX9) (T := TX9) (N := 23) hx hb hts w_1 hown hK hP 0 rfl rfl 7 (by decide) w_7 (fun _ h9 => h9) rfl dX9_drawn_150 ?_
                    refine lv_iload hx hb dX9_drawn_153 (lv_at hl 1 rfl) ?_
                    refine lv_iload hx hb dX9_drawn_155 (lv_at hl 0 rfl) ?_
                    obtain ⟨s_then_20, hc_20, h⟩ := bd1_of h
                    refine cl_mSv (As := [.ref q_s_then, .int ((((v4_h63 * 16807) - (v4_h63 * 16807) / 2147483647 * 2147483647) - ((v4_h63 * 16807) - (v4_h63 * 16807) / 2147483647 * 2147483647) / ((s_then_h63 (4 : Int32).toNatClampNeg).toInt64) * ((s_then_h63 (4 : Int32).toNatClampNeg).toInt64)).toInt32), .int ((((v4_h63 * 16807) - (v4_h63 * 16807) / 2147483647 * 2147483647) - ((v4_h63 * 16807) - (v4_h63 * 16807) / 2147483647 * 2147483647) / 15 * 15).toInt32)]) (rest := []) (ws' := (W_M cI cZ q_s q_s_lane q_s_many q_s_item q_s_isle q_s_fresh q_s_then q_s_was q_s_tape q_s_isKept q_s_kept q_s_trace 0 s_status s_lane s_many s_item s_isle s_fresh s_then_20 s_was s_acts s_tape s_taped s_cursor s_start s_token s_value s_fault s_faultAt s_latest s_isKept s_kept s_trace s_traced)) (wr := [(q_s, .inr (7, [.int 0, .int s_status, .ref q_s_lane, .ref q_s_many, .ref q_s_item, .ref q_s_isle, .ref q_s_fresh, .ref q_s_then, .ref q_s_was, .int s_acts, .ref q_s_tape, .int s_taped, .int s_cursor, .int s_start, .int s_token, .int s_value, .int s_fault, .int s_faultAt, .int s_latest, .ref q_s_isKept, .ref q_s_kept, .ref q_s_trace, .int s_traced]))] ++ ([(q_s_lane, .inl (cI, 8, .inl s_lane))] ++ ([(q_s_many, .inl (cI, 8, .inl s_many))] ++ ([(q_s_item, .inl (cI, 320, .inl s_item))] ++ ([(q_s_isle, .inl (cI, 51, .inl s_isle))] ++ ([(q_s_fresh, .inl (cI, 51, .inl s_fresh))] ++ ([(q_s_was, .inl (cI, 1224, .inl s_was))] ++ ([(q_s_tape, .inl (cI, 100, .inl s_tape))] ++ ([(q_s_isKept, .inl (cZ, 2, .inl s_isKept))] ++ ([(q_s_kept, .inl (cI, 102, .inl s_kept))] ++ ([(q_s_trace, .inl (cI, 16, .inl s_trace))]))))))))))) ⟨hx, hb, hml, hown, hts⟩ (m_X9_buys l dC dI cI cZ q_s_then s_then_h63 ((((v4_h63 * 16807) - (v4_h63 * 16807) / 2147483647 * 2147483647) - ((v4_h63 * 16807) - (v4_h63 * 16807) / 2147483647 * 2147483647) / ((s_then_h63 (4 : Int32).toNatClampNeg).toInt64) * ((s_then_h63 (4 : Int32).toNatClampNeg).toInt64)).toInt32) ((((v4_h63 * 16807) - (v4_h63 * 16807) / 2147483647 * 2147483647) - ((v4_h63 * 16807) - (v4_h63 * 16807) / 2147483647 * 2147483647) / 15 * 15).toInt32) _ (s_then_20) hc_20) (va_cwS 3 hts gX9_drawn_X9_buys rfl rfl rfl ddX9_buys ⟨Nat.le_of_ble_eq_true rfl, Nat.le_of_ble_eq_true rfl⟩) hK hP hD hS hA [6] [0, 1, 2, 3, 4, 5, 7, 8, 9, 10, 11] rfl rfl rfl rfl (by decide) [0, 1, 2, 3, 4, 5, 11, 6, 7, 8, 9, 10] rfl rfl rfl rfl rfl hl.1 (Nat.le_of_ble_eq_true rfl) ⟨Nat.zero_le _, Nat.zero_le _⟩ dX9_drawn_157 (fun H locs hP hD hS => ?_)
                    refine lv_aload_n hx hb dX9_drawn_160 rfl (lv_at hl 3 rfl) ?_
                    refine va_get (D := (dC, dI)) (ci := 7) (v := .ref q_s_then) (C := RX9) (T := TX9) (N := 23) hx hb hts w_1 hown hK hP 0 rfl rfl 7 (by decide) w_7 (fun _ h9 => h9) rfl dX9_drawn_161 ?_
                    obtain ⟨s_then_21, hc_21, h⟩ := bd1_of h
                    refine cl_mSv (As := [.ref q_s_then]) (rest := []) (ws' := (W_M cI cZ q_s q_s_lane q_s_many q_s_item q_s_isle q_s_fresh q_s_then q_s_was q_s_tape q_s_isKept q_s_kept q_s_trace 0 s_status s_lane s_many s_item s_isle s_fresh s_then_21 s_was s_acts s_tape s_taped s_cursor s_start s_token s_value s_fault s_faultAt s_latest s_isKept s_kept s_trace s_traced)) (wr := [(q_s, .inr (7, [.int 0, .int s_status, .ref q_s_lane, .ref q_s_many, .ref q_s_item, .ref q_s_isle, .ref q_s_fresh, .ref q_s_then, .ref q_s_was, .int s_acts, .ref q_s_tape, .int s_taped, .int s_cursor, .int s_start, .int s_token, .int s_value, .int s_fault, .int s_faultAt, .int s_latest, .ref q_s_isKept, .ref q_s_kept, .ref q_s_trace, .int s_traced]))] ++ ([(q_s_lane, .inl (cI, 8, .inl s_lane))] ++ ([(q_s_many, .inl (cI, 8, .inl s_many))] ++ ([(q_s_item, .inl (cI, 320, .inl s_item))] ++ ([(q_s_isle, .inl (cI, 51, .inl s_isle))] ++ ([(q_s_fresh, .inl (cI, 51, .inl s_fresh))] ++ ([(q_s_was, .inl (cI, 1224, .inl s_was))] ++ ([(q_s_tape, .inl (cI, 100, .inl s_tape))] ++ ([(q_s_isKept, .inl (cZ, 2, .inl s_isKept))] ++ ([(q_s_kept, .inl (cI, 102, .inl s_kept))] ++ ([(q_s_trace, .inl (cI, 16, .inl s_trace))]))))))))))) ⟨hx, hb, hml, hown, hts⟩ (m_X9_hour l dC dI cI cZ q_s_then s_then_20 _ (s_then_21) hc_21) (va_cwS 1 hts gX9_drawn_X9_hour rfl rfl rfl ddX9_hour ⟨Nat.le_of_ble_eq_true rfl, Nat.le_of_ble_eq_true rfl⟩) hK hP hD hS hA [6] [0, 1, 2, 3, 4, 5, 7, 8, 9, 10, 11] rfl rfl rfl rfl (by decide) [0, 1, 2, 3, 4, 5, 11, 6, 7, 8, 9, 10] rfl rfl rfl rfl rfl hl.1 (Nat.le_of_ble_eq_true rfl) ⟨Nat.zero_le _, Nat.zero_le _⟩ dX9_drawn_164 (fun H locs hP hD hS => ?_)
                    refine lv_iinc (v := (v6_h63 + 1)) (lv' := [(6, .int (v6_h63 + 1)), (8, .int ((((v4_h63 * 16807) - (v4_h63 * 16807) / 2147483647 * 2147483647) - ((v4_h63 * 16807) - (v4_h63 * 16807) / 2147483647 * 2147483647) / 15 * 15).toInt32)), (7, .int ((((v4_h63 * 16807) - (v4_h63 * 16807) / 2147483647 * 2147483647) - ((v4_h63 * 16807) - (v4_h63 * 16807) / 2147483647 * 2147483647) / ((s_then_h63 (4 : Int32).toNatClampNeg).toInt64) * ((s_then_h63 (4 : Int32).toNatClampNeg).toInt64)).toInt32)), (4, .long ((v4_h63 * 16807) - (v4_h63 * 16807) / 2147483647 * 2147483647)), (0, .ref q_s), (1, .int v1), (3, .int v3)]) hx hb dX9_drawn_167 hl (k := 6) rfl rfl (by decide) rfl (fun ls hl => ?_)
                    refine lv_goto (tgt := 63) hx hb dX9_drawn_170 (by decide) ?_
                    exact ih ((v4_h63 * 16807) - (v4_h63 * 16807) / 2147483647 * 2147483647) (v6_h63 + 1) s_then_21 _ _ _ hP hD hS (lv_sub hl [4, 5, 6, 3, 0] rfl) h
          refine KL63 _ (fun s_then_e173 H locs ls hP hD hS hl h => ?_) FU v2.toInt64 0 s_then_9 _ _ _ hP hD hS (lv_sub hl [2, 3, 5, 1, 0] rfl) h
          refine lv_iconst (v := 0) hx hb dX9_drawn_173 (by decide) ?_
          refine lv_istore (lv' := [(6, .int 0), (0, .ref q_s), (3, .int v3)]) hx hb dX9_drawn_174 hl (by decide) rfl (fun ls hl => ?_)
          refine lv_iconst (v := 0) hx hb dX9_drawn_176 (by decide) ?_
          refine lv_istore (lv' := [(7, .int 0), (6, .int 0), (0, .ref q_s), (3, .int v3)]) hx hb dX9_drawn_177 hl (by decide) rfl (fun ls hl => ?_)
          have KL179 : ∀ (k179_211 : Int32 → Option (Int32 × Int32 × (Nat → Int32))) , (∀ (v6_e211 : Int32) (H : Heap) (locs : List Loc) (ls : Array Slot), va_P (dC, dI) vwCl ((W_M cI cZ q_s q_s_lane q_s_many q_s_item q_s_isle q_s_fresh q_s_then q_s_was q_s_tape q_s_isKept q_s_kept q_s_trace 0 s_status s_lane s_many s_item s_isle s_fresh s_then_e173 s_was s_acts s_tape s_taped s_cursor s_start s_token s_value s_fault s_faultAt s_latest s_isKept s_kept s_trace s_traced)) H → va_D A ((W_M cI cZ q_s q_s_lane q_s_many q_s_item q_s_isle q_s_fresh q_s_then q_s_was q_s_tape q_s_isKept q_s_kept q_s_trace 0 s_status s_lane s_many s_item s_isle s_fresh s_then_e173 s_was s_acts s_tape s_taped s_cursor s_start s_token s_value s_fault s_faultAt s_latest s_isKept s_kept s_trace s_traced)) → va_S A s.heap H locs → lv_has ls 9 [(0, .ref q_s), (3, .int v3), (6, .int v6_e211)] → k179_211 v6_e211 = some res → W p l e (headSpec wsX9_drawn rmX9_drawn).room s m ([.ref q_s, .int v1, .int v2, .int v3] : List Value).toArray below meth c H locs 0 0 QQ (F0 m 211 ls [])) → ∀ (n : Nat) (v6_h179 : Int32) (v7_h179 : Int32) (H : Heap) (locs : List Loc) (ls : Array Slot), va_P (dC, dI) vwCl ((W_M cI cZ q_s q_s_lane q_s_many q_s_item q_s_isle q_s_fresh q_s_then q_s_was q_s_tape q_s_isKept q_s_kept q_s_trace 0 s_status s_lane s_many s_item s_isle s_fresh s_then_e173 s_was s_acts s_tape s_taped s_cursor s_start s_token s_value s_fault s_faultAt s_latest s_isKept s_kept s_trace s_traced)) H → va_D A ((W_M cI cZ q_s q_s_lane q_s_many q_s_item q_s_isle q_s_fresh q_s_then q_s_was q_s_tape q_s_isKept q_s_kept q_s_trace 0 s_status s_lane s_many s_item s_isle s_fresh s_then_e173 s_was s_acts s_tape s_taped s_cursor s_start s_token s_value s_fault s_faultAt s_latest s_isKept s_kept s_trace s_traced)) → va_S A s.heap H locs → lv_has ls 9 [(0, .ref q_s), (3, .int v3), (6, .int v6_h179), (7, .int v7_h179)] → fX9_drawn_L179 s_then_e173 k179_211 n v6_h179 v7_h179 = some res → W p l e (headSpec wsX9_drawn rmX9_drawn).room s m ([.ref q_s, .int v1, .int v2, .int v3] : List Value).toArray below meth c H locs 0 0 QQ (F0 m 179 ls []) := by
            intro k179_211 Kk179_211 n
            induction n with
            | zero => intro v6_h179 v7_h179 H locs ls hP hD hS hl h; rw [fX9_drawn_L179.eq_1] at h; cases h
            | succ n ih =>
              intro v6_h179 v7_h179 H locs ls hP hD hS hl h
              rw [fX9_drawn_L179.eq_2] at h
              refine lv_iload hx hb dX9_drawn_179 (lv_at hl 3 rfl) ?_
              refine lv_aload_n hx hb dX9_drawn_181 rfl (lv_at hl 0 rfl) ?_
              refine va_get (D := (dC, dI)) (ci := 7) (v := .ref q_s_then) (C := RX9) (T := TX9) (N := 23) hx hb hts w_1 hown hK hP 0 rfl rfl 7 (by decide) w_7 (fun _ h9 => h9) rfl dX9_drawn_182 ?_
              refine lv_iconst (v := 4) hx hb dX9_drawn_185 (by decide) ?_
              refine va_iald hx hb hK hP 6 0 rfl rfl (i := 4) (show ¬ ((4 : Int32) < 0 ∨ 51 ≤ (4 : Int32).toNatClampNeg) by decide +kernel) dX9_drawn_186 ?_
              refine lv_icmp_ge (tgt := 211) hx hb dX9_drawn_187 (by decide) (fun c_22 => ?_) (fun c_22 => ?_)
              · have h := (if_pos c_22).symm.trans h
                exact Kk179_211 v6_h179 _ _ _ hP hD hS (lv_sub hl [0, 1, 2] rfl) h
              · have h := (if_neg c_22).symm.trans h
                refine lv_iload hx hb dX9_drawn_190 (lv_at hl 2 rfl) ?_
                refine lv_aload_n hx hb dX9_drawn_192 rfl (lv_at hl 0 rfl) ?_
                refine va_get (D := (dC, dI)) (ci := 7) (v := .ref q_s_then) (C := RX9) (T := TX9) (N := 23) hx hb hts w_1 hown hK hP 0 rfl rfl 7 (by decide) w_7 (fun _ h9 => h9) rfl dX9_drawn_193 ?_
                refine lv_iload hx hb dX9_drawn_196 (lv_at hl 3 rfl) ?_
                refine lv_iconst (v := 1) hx hb dX9_drawn_198 (by decide) ?_
                obtain ⟨r_23, hc_23, h⟩ := bd1_of h
                refine cl_rS (As := [.ref q_s_then, .int v7_h179, .int 1]) (rest := [.int v6_h179]) ⟨hx, hb, hml, hown, hts⟩ (m_X9_of l dC dI cI cZ q_s_then s_then_e173 v7_h179 1 (r_23) hc_23) (va_cwS 3 hts gX9_drawn_X9_of rfl rfl rfl ddX9_of ⟨Nat.le_of_ble_eq_true rfl, Nat.le_of_ble_eq_true rfl⟩) hK hP [6] rfl rfl rfl hl.1 (Nat.le_of_ble_eq_true rfl) ⟨Nat.zero_le _, Nat.zero_le _⟩ dX9_drawn_199 ?_
                refine lv_iadd hx hb dX9_drawn_202 ?_
                refine lv_istore (lv' := [(6, .int (v6_h179 + r_23)), (0, .ref q_s), (3, .int v3), (7, .int v7_h179)]) hx hb dX9_drawn_203 hl (by decide) rfl (fun ls hl => ?_)
                refine lv_iinc (v := (v7_h179 + 1)) (lv' := [(7, .int (v7_h179 + 1)), (6, .int (v6_h179 + r_23)), (0, .ref q_s), (3, .int v3)]) hx hb dX9_drawn_205 hl (k := 3) rfl rfl (by decide) rfl (fun ls hl => ?_)
                refine lv_goto (tgt := 179) hx hb dX9_drawn_208 (by decide) ?_
                exact ih (v6_h179 + r_23) (v7_h179 + 1) _ _ _ hP hD hS (lv_sub hl [2, 3, 1, 0] rfl) h
          refine KL179 _ (fun v6_e211 H locs ls hP hD hS hl h => ?_) FU 0 0 _ _ _ hP hD hS (lv_sub hl [2, 3, 1, 0] rfl) h
          refine lv_iload_n hx hb dX9_drawn_211 rfl (lv_at hl 1 rfl) ?_
          refine lv_if_ne (tgt := 228) hx hb dX9_drawn_212 (by decide) (fun c_24 => ?_) (fun c_24 => ?_)
          · have h := (if_neg c_24).symm.trans h
            refine lv_iload hx hb dX9_drawn_228 (lv_at hl 2 rfl) ?_
            have h := Option.some.inj h
            subst h
            rw [hQQ]
            subst hAe
            exact W.iret (v := v6_e211) hx hb hr (fun t ht hW => ⟨⟨_, (), rfl, rfl, by rw [ht]; exact hP, va_K.moved hW.alike hK, hD⟩, hS.F ht⟩) hS.2.2 dX9_drawn_230
          · have h := (if_pos c_24).symm.trans h
            refine lv_aload_n hx hb dX9_drawn_215 rfl (lv_at hl 0 rfl) ?_
            refine va_get (D := (dC, dI)) (ci := 7) (v := .ref q_s_then) (C := RX9) (T := TX9) (N := 23) hx hb hts w_1 hown hK hP 0 rfl rfl 7 (by decide) w_7 (fun _ h9 => h9) rfl dX9_drawn_216 ?_
            obtain ⟨r_25, hc_25, h⟩ := bd1_of h
            refine cl_rS (As := [.ref q_s_then]) (rest := []) ⟨hx, hb, hml, hown, hts⟩ (m_X9_heldOf l dC dI cI cZ q_s_then s_then_e173 (r_25) hc_25) (va_cwS 1 hts gX9_drawn_X9_heldOf rfl rfl rfl ddX9_heldOf ⟨Nat.le_of_ble_eq_true rfl, Nat.le_of_ble_eq_true rfl⟩) hK hP [6] rfl rfl rfl hl.1 (Nat.le_of_ble_eq_true rfl) ⟨Nat.zero_le _, Nat.zero_le _⟩ dX9_drawn_219 ?_
            obtain ⟨r_26, hc_26, h⟩ := bd1_of h
            refine cl_pS (As := [.int r_25]) (rest := []) ⟨hx, hb, hml, hown, hts⟩ (m_X9_bits l r_25 (r_26) hc_26) (va_cwS 1 hts gX9_drawn_X9_bits rfl rfl rfl ddX9_bits ⟨Nat.le_of_ble_eq_true rfl, Nat.le_of_ble_eq_true rfl⟩) rfl rfl hl.1 (Nat.le_of_ble_eq_true rfl) ⟨Nat.zero_le _, Nat.zero_le _⟩ dX9_drawn_222 ?_
            refine lv_goto (tgt := 230) hx hb dX9_drawn_225 (by decide) ?_
            have h := Option.some.inj h
            subst h
            rw [hQQ]
            subst hAe
            exact W.iret (v := r_26) hx hb hr (fun t ht hW => ⟨⟨_, (), rfl, rfl, by rw [ht]; exact hP, va_K.moved hW.alike hK, hD⟩, hS.F ht⟩) hS.2.2 dX9_drawn_230
        · have h := (if_pos c_8).symm.trans h
          refine lv_ldc hx hb hown w_3 dX9_drawn_49 ?_
          have h := Option.some.inj h
          subst h
          rw [hQQ]
          subst hAe
          exact W.iret (v := (-1000001)) hx hb hr (fun t ht hW => ⟨⟨_, (), rfl, rfl, by rw [ht]; exact hP, va_K.moved hW.alike hK, hD⟩, hS.F ht⟩) hS.2.2 dX9_drawn_51
  · have h := (if_pos c_2).symm.trans h
    refine lv_ldc hx hb hown w_9 dX9_drawn_12 ?_
    have h := Option.some.inj h
    subst h
    rw [hQQ]
    subst hAe
    exact W.iret (v := (-1000002)) hx hb hr (fun t ht hW => ⟨⟨_, (), rfl, rfl, by rw [ht]; exact hP, va_K.moved hW.alike hK, hD⟩, hS.F ht⟩) hS.2.2 dX9_drawn_14
def fX9_image_L30 (s_isle : (Nat → Int32)) (v1 : Int32) (k30_59 : (Nat → Int32) → Option (Int32 × Int32 × (Nat → Int32) × (Nat → Int32))) : Nat → Int32 → (Nat → Int32) → Option (Int32 × Int32 × (Nat → Int32) × (Nat → Int32))
  | 0, _, _ => none
  | n + 1, v2_h30, s_kept_h30 => (if 51 ≤ v2_h30 then (k30_59 s_kept_h30) else chk (¬ (v2_h30 < 0 ∨ 51 ≤ v2_h30.toNatClampNeg)) (chk (¬ (((51 * v1) + v2_h30) < 0 ∨ 102 ≤ ((51 * v1) + v2_h30).toNatClampNeg)) (((fX9_image_L30 s_isle v1 k30_59 n) (v2_h30 + 1) (upd s_kept_h30 ((51 * v1) + v2_h30).toNatClampNeg (s_isle v2_h30.toNatClampNeg))))))
def fX9_image (s_isle : (Nat → Int32)) (s_isKept : (Nat → Int32)) (s_kept : (Nat → Int32)) (v1 : Int32) : Option (Int32 × Int32 × (Nat → Int32) × (Nat → Int32)) :=
  bd1 (fX9_in v1.toInt64 0 1) (fun r_1 => (if r_1 = 0 then some ((-1000001), 0, s_isKept, s_kept) else bd1 (fX9_isThere s_isle) (fun r_3 => (if r_3 = 0 then some ((-1000002), 0, s_isKept, s_kept) else (fX9_image_L30 s_isle v1 (fun s_kept_e59 => chk (¬ (v1 < 0 ∨ 2 ≤ v1.toNatClampNeg)) (some (1, 0, (upd s_isKept v1.toNatClampNeg (vp_nar .boolean 1)), s_kept_e59))) FU 0 s_kept)))))
abbrev rmX9_image : Room := { frames := 1, cells := 0, slots := 0, locals := 25 }
theorem ddX9_image : yX9_image.cls ≠ "java/lang/invoke/MethodHandle" ∧ yX9_image.cls ≠ "java/lang/invoke/VarHandle" ∧ (parseMethodDescriptor yX9_image.desc).map (fun d => d.parameters.length) = some 1 := by decide +kernel
set_option maxHeartbeats 4000000 in
set_option maxRecDepth 100000 in
theorem m_X9_image (l : Launch) (dC : Nat → ClassId) (dI : Nat → Nat → Nat) (cI cZ : ClassId) (q_s q_s_lane q_s_many q_s_item q_s_isle q_s_fresh q_s_then q_s_was q_s_tape q_s_isKept q_s_kept q_s_trace : Nat) (s_thrown : Int32) (s_status : Int32) (s_lane : (Nat → Int32)) (s_many : (Nat → Int32)) (s_item : (Nat → Int32)) (s_isle : (Nat → Int32)) (s_fresh : (Nat → Int32)) (s_then : (Nat → Int32)) (s_was : (Nat → Int32)) (s_acts : Int32) (s_tape : (Nat → Int32)) (s_taped : Int32) (s_cursor : Int32) (s_start : Int32) (s_token : Int32) (s_value : Int32) (s_fault : Int32) (s_faultAt : Int32) (s_latest : Int32) (s_isKept : (Nat → Int32)) (s_kept : (Nat → Int32)) (s_trace : (Nat → Int32)) (s_traced : Int32) (v1 : Int32) (sz : Nat) (res : Int32 × Int32 × (Nat → Int32) × (Nat → Int32)) (hf : fX9_image s_isle s_isKept s_kept v1 = some res) : Met l yX9_image wsX9_image rmX9_image (mtPc (dC, dI) (tyZ cI cZ) ((W_M cI cZ q_s q_s_lane q_s_many q_s_item q_s_isle q_s_fresh q_s_then q_s_was q_s_tape q_s_isKept q_s_kept q_s_trace s_thrown s_status s_lane s_many s_item s_isle s_fresh s_then s_was s_acts s_tape s_taped s_cursor s_start s_token s_value s_fault s_faultAt s_latest s_isKept s_kept s_trace s_traced)) [.ref q_s, .int v1] sz) (mtQi (dC, dI) (tyZ cI cZ) ((W_M cI cZ q_s q_s_lane q_s_many q_s_item q_s_isle q_s_fresh q_s_then q_s_was q_s_tape q_s_isKept q_s_kept q_s_trace s_thrown s_status s_lane s_many s_item s_isle s_fresh s_then s_was s_acts s_tape s_taped s_cursor s_start s_token s_value s_fault s_faultAt s_latest s_isKept s_kept s_trace s_traced)) ((W_M cI cZ q_s q_s_lane q_s_many q_s_item q_s_isle q_s_fresh q_s_then q_s_was q_s_tape q_s_isKept q_s_kept q_s_trace res.2.1 s_status s_lane s_many s_item s_isle s_fresh s_then s_was s_acts s_tape s_taped s_cursor s_start s_token s_value s_fault s_faultAt s_latest res.2.2.1 res.2.2.2 s_trace s_traced)) res.1 sz) 0 0 (va_A ((W_M cI cZ q_s q_s_lane q_s_many q_s_item q_s_isle q_s_fresh q_s_then q_s_was q_s_tape q_s_isKept q_s_kept q_s_trace s_thrown s_status s_lane s_many s_item s_isle s_fresh s_then s_was s_acts s_tape s_taped s_cursor s_start s_token s_value s_fault s_faultAt s_latest s_isKept s_kept s_trace s_traced)) sz) := by
  refine Met.ofW (cc := cX9_image) (maxL := 3) (ret := (some .int)) (by decide) rfl ?_
  intro p e s m args below meth c s₁ B hml hv
  obtain ⟨rfl, hsz, hP, hK, hD0⟩ := hv
  have hx := B.exec
  have hb := B.bytes
  have hr := B.returns
  have hts := atoms_spec (ws := wsX9_image) B.pre
  have hown : s.vm.findClass RX9 = some m.cls := findClass_of_methodNamed B.named
  have hlocks := B.notSynchronized
  subst hsz
  have hD := hD0.self (sz := s.heap.size)
  obtain ⟨A, hAe⟩ : ∃ A, A = va_A ((W_M cI cZ q_s q_s_lane q_s_many q_s_item q_s_isle q_s_fresh q_s_then q_s_was q_s_tape q_s_isKept q_s_kept q_s_trace s_thrown s_status s_lane s_many s_item s_isle s_fresh s_then s_was s_acts s_tape s_taped s_cursor s_start s_token s_value s_fault s_faultAt s_latest s_isKept s_kept s_trace s_traced)) s.heap.size := ⟨_, rfl⟩
  rw [← hAe] at hD
  have hA : ∀ q : Nat, s.heap.size ≤ q → A q := fun q h => by rw [hAe]; exact Or.inr h
  have hS : va_S A s.heap s.heap [] := va_S.rf
  have hl := lv_entry ([.ref q_s, .int v1]) (n := 3) (Nat.le_of_ble_eq_true rfl)
  rw [lg_entry_eq]
  generalize (lg_sl ([.ref q_s, .int v1]) ++ List.replicate (3 - (lg_sl ([.ref q_s, .int v1])).length) Slot.unset).toArray = ls at hl ⊢
  have hl : lv_has ls 3 [(0, .ref q_s), (1, .int v1)] := hl
  obtain ⟨QQ, hQQ⟩ : ∃ Q, Q = MQ below (mtQi (dC, dI) (tyZ cI cZ) ((W_M cI cZ q_s q_s_lane q_s_many q_s_item q_s_isle q_s_fresh q_s_then q_s_was q_s_tape q_s_isKept q_s_kept q_s_trace s_thrown s_status s_lane s_many s_item s_isle s_fresh s_then s_was s_acts s_tape s_taped s_cursor s_start s_token s_value s_fault s_faultAt s_latest s_isKept s_kept s_trace s_traced)) ((W_M cI cZ q_s q_s_lane q_s_many q_s_item q_s_isle q_s_fresh q_s_then q_s_was q_s_tape q_s_isKept q_s_kept q_s_trace res.2.1 s_status s_lane s_many s_item s_isle s_fresh s_then s_was s_acts s_tape s_taped s_cursor s_start s_token s_value s_fault s_faultAt s_latest res.2.2.1 res.2.2.2 s_trace s_traced)) res.1 s.heap.size) ([.ref q_s, .int v1] : List Value).toArray s 0 0 (va_A ((W_M cI cZ q_s q_s_lane q_s_many q_s_item q_s_isle q_s_fresh q_s_then q_s_was q_s_tape q_s_isKept q_s_kept q_s_trace s_thrown s_status s_lane s_many s_item s_isle s_fresh s_then s_was s_acts s_tape s_taped s_cursor s_start s_token s_value s_fault s_faultAt s_latest s_isKept s_kept s_trace s_traced)) s.heap.size) := ⟨_, rfl⟩
  rw [← hQQ]
  have w_0 := hts (Cond.fieldLink RX9 44 "TideInchesModel" "thrown" "I") (List.mem_of_getElem? (i := 1) rfl)
  have w_1 := (fun w hw => List.mem_cons_of_mem _ (List.mem_append_right _ hw) : ∀ w ∈ wsX90, w ∈ wsX9_image)
  have w_2 := hts (Cond.fieldLink RX9 38 "TideInchesModel" "kept" "[I") (List.mem_of_getElem? (i := 4) rfl)
  have w_3 := hts (Cond.fieldLink RX9 19 "TideInchesModel" "isle" "[I") (List.mem_of_getElem? (i := 5) rfl)
  have w_4 := hts (Cond.fieldLink RX9 34 "TideInchesModel" "isKept" "[Z") (List.mem_of_getElem? (i := 6) rfl)
  have w_5 := hts (Cond.constant RX9 181 (-1000002)) (List.mem_of_getElem? (i := 3) rfl)
  have w_6 := hts (Cond.constant RX9 64 (-1000001)) (List.mem_of_getElem? (i := 2) rfl)
  have h := hf
  unfold fX9_image at h
  refine lv_aload_n hx hb dX9_image_0 rfl (lv_at hl 0 rfl) ?_
  refine lv_iconst (v := 0) hx hb dX9_image_1 (by decide) ?_
  refine va_put (D := (dC, dI)) (ci := 7) (v := .int 0) (ty := .int) (C := RX9) (T := TX9) (N := 23) hx hb hts w_1 tyX9 tyX9_ok nmX9 hown hK hP hD hS 0 rfl rfl 0 (by decide) w_0 (fun _ h9 => h9) rfl (by decide +kernel) rfl rfl (Nat.le_of_ble_eq_true rfl) dX9_image_2 (fun H locs hP hD hS => ?_)
  have hP : va_P (dC, dI) vwCl ((W_M cI cZ q_s q_s_lane q_s_many q_s_item q_s_isle q_s_fresh q_s_then q_s_was q_s_tape q_s_isKept q_s_kept q_s_trace 0 s_status s_lane s_many s_item s_isle s_fresh s_then s_was s_acts s_tape s_taped s_cursor s_start s_token s_value s_fault s_faultAt s_latest s_isKept s_kept s_trace s_traced)) H := hP
  have hD : va_D A ((W_M cI cZ q_s q_s_lane q_s_many q_s_item q_s_isle q_s_fresh q_s_then q_s_was q_s_tape q_s_isKept q_s_kept q_s_trace 0 s_status s_lane s_many s_item s_isle s_fresh s_then s_was s_acts s_tape s_taped s_cursor s_start s_token s_value s_fault s_faultAt s_latest s_isKept s_kept s_trace s_traced)) := hD
  refine lv_iload_n hx hb dX9_image_5 rfl (lv_at hl 1 rfl) ?_
  refine lv_i2l hx hb dX9_image_6 rfl ?_
  refine lv_lconst (v := 0) hx hb dX9_image_7 (by decide) ?_
  refine lv_lconst (v := 1) hx hb dX9_image_8 (by decide) ?_
  obtain ⟨r_1, hc_1, h⟩ := bd1_of h
  refine cl_pS (As := [.long v1.toInt64, .long 0, .long 1]) (rest := []) ⟨hx, hb, hml, hown, hts⟩ (m_X9_in l v1.toInt64 0 1 (r_1) hc_1) (va_cwS 3 hts gX9_image_X9_in rfl rfl rfl ddX9_in ⟨Nat.le_of_ble_eq_true rfl, Nat.le_of_ble_eq_true rfl⟩) rfl rfl hl.1 (Nat.le_of_ble_eq_true rfl) ⟨Nat.zero_le _, Nat.zero_le _⟩ dX9_image_9 ?_
  refine lv_if_ne (tgt := 18) hx hb dX9_image_12 (by decide) (fun c_2 => ?_) (fun c_2 => ?_)
  · have h := (if_neg c_2).symm.trans h
    refine lv_aload_n hx hb dX9_image_18 rfl (lv_at hl 0 rfl) ?_
    obtain ⟨r_3, hc_3, h⟩ := bd1_of h
    refine cl_rV (As := []) (rest := []) ⟨hx, hb, hml, hown, hts⟩ (m_X9_isThere l dC dI cI cZ q_s q_s_lane q_s_many q_s_item q_s_isle q_s_fresh q_s_then q_s_was q_s_tape q_s_isKept q_s_kept q_s_trace 0 s_status s_lane s_many s_item s_isle s_fresh s_then s_was s_acts s_tape s_taped s_cursor s_start s_token s_value s_fault s_faultAt s_latest s_isKept s_kept s_trace s_traced (r_3) hc_3) (cwV 0 hts gX9_image_X9_isThere rfl rfl rfl ⟨rfl, ddX9_isThere⟩ ⟨Nat.le_of_ble_eq_true rfl, Nat.le_of_ble_eq_true rfl⟩) hK hP [0, 1, 2, 3, 4, 5, 6, 7, 8, 9, 10, 11] rfl rfl rfl rfl rfl hl.1 (Nat.le_of_ble_eq_true rfl) ⟨Nat.zero_le _, Nat.zero_le _⟩ dX9_image_19 ?_
    refine lv_if_ne (tgt := 28) hx hb dX9_image_22 (by decide) (fun c_4 => ?_) (fun c_4 => ?_)
    · have h := (if_neg c_4).symm.trans h
      refine lv_iconst (v := 0) hx hb dX9_image_28 (by decide) ?_
      refine lv_istore_n (lv' := [(2, .int 0), (0, .ref q_s), (1, .int v1)]) hx hb dX9_image_29 rfl hl (by decide) rfl (fun ls hl => ?_)
      have KL30 : ∀ (k30_59 : (Nat → Int32) → Option (Int32 × Int32 × (Nat → Int32) × (Nat → Int32))) , (∀ (s_kept_e59 : (Nat → Int32)) (H : Heap) (locs : List Loc) (ls : Array Slot), va_P (dC, dI) vwCl ((W_M cI cZ q_s q_s_lane q_s_many q_s_item q_s_isle q_s_fresh q_s_then q_s_was q_s_tape q_s_isKept q_s_kept q_s_trace 0 s_status s_lane s_many s_item s_isle s_fresh s_then s_was s_acts s_tape s_taped s_cursor s_start s_token s_value s_fault s_faultAt s_latest s_isKept s_kept_e59 s_trace s_traced)) H → va_D A ((W_M cI cZ q_s q_s_lane q_s_many q_s_item q_s_isle q_s_fresh q_s_then q_s_was q_s_tape q_s_isKept q_s_kept q_s_trace 0 s_status s_lane s_many s_item s_isle s_fresh s_then s_was s_acts s_tape s_taped s_cursor s_start s_token s_value s_fault s_faultAt s_latest s_isKept s_kept_e59 s_trace s_traced)) → va_S A s.heap H locs → lv_has ls 3 [(0, .ref q_s), (1, .int v1)] → k30_59 s_kept_e59 = some res → W p l e (headSpec wsX9_image rmX9_image).room s m ([.ref q_s, .int v1] : List Value).toArray below meth c H locs 0 0 QQ (F0 m 59 ls [])) → ∀ (n : Nat) (v2_h30 : Int32) (s_kept_h30 : (Nat → Int32)) (H : Heap) (locs : List Loc) (ls : Array Slot), va_P (dC, dI) vwCl ((W_M cI cZ q_s q_s_lane q_s_many q_s_item q_s_isle q_s_fresh q_s_then q_s_was q_s_tape q_s_isKept q_s_kept q_s_trace 0 s_status s_lane s_many s_item s_isle s_fresh s_then s_was s_acts s_tape s_taped s_cursor s_start s_token s_value s_fault s_faultAt s_latest s_isKept s_kept_h30 s_trace s_traced)) H → va_D A ((W_M cI cZ q_s q_s_lane q_s_many q_s_item q_s_isle q_s_fresh q_s_then q_s_was q_s_tape q_s_isKept q_s_kept q_s_trace 0 s_status s_lane s_many s_item s_isle s_fresh s_then s_was s_acts s_tape s_taped s_cursor s_start s_token s_value s_fault s_faultAt s_latest s_isKept s_kept_h30 s_trace s_traced)) → va_S A s.heap H locs → lv_has ls 3 [(0, .ref q_s), (1, .int v1), (2, .int v2_h30)] → fX9_image_L30 s_isle v1 k30_59 n v2_h30 s_kept_h30 = some res → W p l e (headSpec wsX9_image rmX9_image).room s m ([.ref q_s, .int v1] : List Value).toArray below meth c H locs 0 0 QQ (F0 m 30 ls []) := by
        intro k30_59 Kk30_59 n
        induction n with
        | zero => intro v2_h30 s_kept_h30 H locs ls hP hD hS hl h; rw [fX9_image_L30.eq_1] at h; cases h
        | succ n ih =>
          intro v2_h30 s_kept_h30 H locs ls hP hD hS hl h
          rw [fX9_image_L30.eq_2] at h
          refine lv_iload_n hx hb dX9_image_30 rfl (lv_at hl 2 rfl) ?_
          refine lv_bipush (v := 51) hx hb dX9_image_31 (by decide) ?_
          refine lv_icmp_ge (tgt := 59) hx hb dX9_image_33 (by decide) (fun c_5 => ?_) (fun c_5 => ?_)
          · have h := (if_pos c_5).symm.trans h
            exact Kk30_59 s_kept_h30 _ _ _ hP hD hS (lv_sub hl [0, 1] rfl) h
          · have h := (if_neg c_5).symm.trans h
            refine lv_aload_n hx hb dX9_image_36 rfl (lv_at hl 0 rfl) ?_
            refine va_get (D := (dC, dI)) (ci := 7) (v := .ref q_s_kept) (C := RX9) (T := TX9) (N := 23) hx hb hts w_1 hown hK hP 0 rfl rfl 20 (by decide) w_2 (fun _ h9 => h9) rfl dX9_image_37 ?_
            refine lv_bipush (v := 51) hx hb dX9_image_40 (by decide) ?_
            refine lv_iload_n hx hb dX9_image_42 rfl (lv_at hl 1 rfl) ?_
            refine lv_imul hx hb dX9_image_43 ?_
            refine lv_iload_n hx hb dX9_image_44 rfl (lv_at hl 2 rfl) ?_
            refine lv_iadd hx hb dX9_image_45 ?_
            refine lv_aload_n hx hb dX9_image_46 rfl (lv_at hl 0 rfl) ?_
            refine va_get (D := (dC, dI)) (ci := 7) (v := .ref q_s_isle) (C := RX9) (T := TX9) (N := 23) hx hb hts w_1 hown hK hP 0 rfl rfl 5 (by decide) w_3 (fun _ h9 => h9) rfl dX9_image_47 ?_
            refine lv_iload_n hx hb dX9_image_50 rfl (lv_at hl 2 rfl) ?_
            obtain ⟨b_6, h⟩ := chk_of h
            refine va_iald hx hb hK hP 4 0 rfl rfl (i := v2_h30) b_6 dX9_image_51 ?_
            obtain ⟨b_7, h⟩ := chk_of h
            refine va_iast hx hb hK hP hD hS 10 0 rfl rfl (i := ((51 * v1) + v2_h30)) (x := (s_isle v2_h30.toNatClampNeg)) b_7 dX9_image_52 (fun H locs hP hD hS => ?_)
            have hP : va_P (dC, dI) vwCl ((W_M cI cZ q_s q_s_lane q_s_many q_s_item q_s_isle q_s_fresh q_s_then q_s_was q_s_tape q_s_isKept q_s_kept q_s_trace 0 s_status s_lane s_many s_item s_isle s_fresh s_then s_was s_acts s_tape s_taped s_cursor s_start s_token s_value s_fault s_faultAt s_latest s_isKept (upd s_kept_h30 ((51 * v1) + v2_h30).toNatClampNeg (s_isle v2_h30.toNatClampNeg)) s_trace s_traced)) H := hP
            have hD : va_D A ((W_M cI cZ q_s q_s_lane q_s_many q_s_item q_s_isle q_s_fresh q_s_then q_s_was q_s_tape q_s_isKept q_s_kept q_s_trace 0 s_status s_lane s_many s_item s_isle s_fresh s_then s_was s_acts s_tape s_taped s_cursor s_start s_token s_value s_fault s_faultAt s_latest s_isKept (upd s_kept_h30 ((51 * v1) + v2_h30).toNatClampNeg (s_isle v2_h30.toNatClampNeg)) s_trace s_traced)) := hD
            refine lv_iinc (v := (v2_h30 + 1)) (lv' := [(2, .int (v2_h30 + 1)), (0, .ref q_s), (1, .int v1)]) hx hb dX9_image_53 hl (k := 2) rfl rfl (by decide) rfl (fun ls hl => ?_)
            refine lv_goto (tgt := 30) hx hb dX9_image_56 (by decide) ?_
            exact ih (v2_h30 + 1) (upd s_kept_h30 ((51 * v1) + v2_h30).toNatClampNeg (s_isle v2_h30.toNatClampNeg)) _ _ _ hP hD hS (lv_sub hl [1, 2, 0] rfl) h
      refine KL30 _ (fun s_kept_e59 H locs ls hP hD hS hl h => ?_) FU 0 s_kept _ _ _ hP hD hS (lv_sub hl [1, 2, 0] rfl) h
      refine lv_aload_n hx hb dX9_image_59 rfl (lv_at hl 0 rfl) ?_
      refine va_get (D := (dC, dI)) (ci := 7) (v := .ref q_s_isKept) (C := RX9) (T := TX9) (N := 23) hx hb hts w_1 hown hK hP 0 rfl rfl 19 (by decide) w_4 (fun _ h9 => h9) rfl dX9_image_60 ?_
      refine lv_iload_n hx hb dX9_image_63 rfl (lv_at hl 1 rfl) ?_
      refine lv_iconst (v := 1) hx hb dX9_image_64 (by decide) ?_
      obtain ⟨b_8, h⟩ := chk_of h
      refine va_zast hx hb hK hP hD hS 9 1 rfl rfl (i := v1) (x := 1) b_8 dX9_image_65 (fun H locs hP hD hS => ?_)
      have hP : va_P (dC, dI) vwCl ((W_M cI cZ q_s q_s_lane q_s_many q_s_item q_s_isle q_s_fresh q_s_then q_s_was q_s_tape q_s_isKept q_s_kept q_s_trace 0 s_status s_lane s_many s_item s_isle s_fresh s_then s_was s_acts s_tape s_taped s_cursor s_start s_token s_value s_fault s_faultAt s_latest (upd s_isKept v1.toNatClampNeg (vp_nar .boolean 1)) s_kept_e59 s_trace s_traced)) H := hP
      have hD : va_D A ((W_M cI cZ q_s q_s_lane q_s_many q_s_item q_s_isle q_s_fresh q_s_then q_s_was q_s_tape q_s_isKept q_s_kept q_s_trace 0 s_status s_lane s_many s_item s_isle s_fresh s_then s_was s_acts s_tape s_taped s_cursor s_start s_token s_value s_fault s_faultAt s_latest (upd s_isKept v1.toNatClampNeg (vp_nar .boolean 1)) s_kept_e59 s_trace s_traced)) := hD
      refine lv_iconst (v := 1) hx hb dX9_image_66 (by decide) ?_
      have h := Option.some.inj h
      subst h
      rw [hQQ]
      subst hAe
      exact W.iret (v := 1) hx hb hr (fun t ht hW => ⟨⟨_, (), rfl, rfl, by rw [ht]; exact hP, va_K.moved hW.alike hK, hD⟩, hS.F ht⟩) hS.2.2 dX9_image_67
    · have h := (if_pos c_4).symm.trans h
      refine lv_ldc hx hb hown w_5 dX9_image_25 ?_
      have h := Option.some.inj h
      subst h
      rw [hQQ]
      subst hAe
      exact W.iret (v := (-1000002)) hx hb hr (fun t ht hW => ⟨⟨_, (), rfl, rfl, by rw [ht]; exact hP, va_K.moved hW.alike hK, hD⟩, hS.F ht⟩) hS.2.2 dX9_image_27
  · have h := (if_pos c_2).symm.trans h
    refine lv_ldc hx hb hown w_6 dX9_image_15 ?_
    have h := Option.some.inj h
    subst h
    rw [hQQ]
    subst hAe
    exact W.iret (v := (-1000001)) hx hb hr (fun t ht hW => ⟨⟨_, (), rfl, rfl, by rw [ht]; exact hP, va_K.moved hW.alike hK, hD⟩, hS.F ht⟩) hS.2.2 dX9_image_17
def fX9_restore_L32 (s_kept : (Nat → Int32)) (v1 : Int32) (k32_61 : (Nat → Int32) → Option (Int32 × Int32 × (Nat → Int32) × Int32)) : Nat → Int32 → (Nat → Int32) → Option (Int32 × Int32 × (Nat → Int32) × Int32)
  | 0, _, _ => none
  | n + 1, v2_h32, s_isle_h32 => (if 51 ≤ v2_h32 then (k32_61 s_isle_h32) else chk (¬ (((51 * v1) + v2_h32) < 0 ∨ 102 ≤ ((51 * v1) + v2_h32).toNatClampNeg)) (chk (¬ (v2_h32 < 0 ∨ 51 ≤ v2_h32.toNatClampNeg)) (((fX9_restore_L32 s_kept v1 k32_61 n) (v2_h32 + 1) (upd s_isle_h32 v2_h32.toNatClampNeg (s_kept ((51 * v1) + v2_h32).toNatClampNeg))))))
def fX9_restore (s_isle : (Nat → Int32)) (s_acts : Int32) (s_isKept : (Nat → Int32)) (s_kept : (Nat → Int32)) (v1 : Int32) : Option (Int32 × Int32 × (Nat → Int32) × Int32) :=
  bd1 (fX9_in v1.toInt64 0 1) (fun r_1 => (if r_1 = 0 then some ((-1000001), 0, s_isle, s_acts) else chk (¬ (v1 < 0 ∨ 2 ≤ v1.toNatClampNeg)) ((if (s_isKept v1.toNatClampNeg) = 0 then some ((-1000002), 0, s_isle, s_acts) else (fX9_restore_L32 s_kept v1 (fun s_isle_e61 => some (1, 0, s_isle_e61, 0)) FU 0 s_isle)))))
abbrev rmX9_restore : Room := { frames := 1, cells := 0, slots := 0, locals := 25 }
theorem ddX9_restore : yX9_restore.cls ≠ "java/lang/invoke/MethodHandle" ∧ yX9_restore.cls ≠ "java/lang/invoke/VarHandle" ∧ (parseMethodDescriptor yX9_restore.desc).map (fun d => d.parameters.length) = some 1 := by decide +kernel
set_option maxHeartbeats 4000000 in
set_option maxRecDepth 100000 in
theorem m_X9_restore (l : Launch) (dC : Nat → ClassId) (dI : Nat → Nat → Nat) (cI cZ : ClassId) (q_s q_s_lane q_s_many q_s_item q_s_isle q_s_fresh q_s_then q_s_was q_s_tape q_s_isKept q_s_kept q_s_trace : Nat) (s_thrown : Int32) (s_status : Int32) (s_lane : (Nat → Int32)) (s_many : (Nat → Int32)) (s_item : (Nat → Int32)) (s_isle : (Nat → Int32)) (s_fresh : (Nat → Int32)) (s_then : (Nat → Int32)) (s_was : (Nat → Int32)) (s_acts : Int32) (s_tape : (Nat → Int32)) (s_taped : Int32) (s_cursor : Int32) (s_start : Int32) (s_token : Int32) (s_value : Int32) (s_fault : Int32) (s_faultAt : Int32) (s_latest : Int32) (s_isKept : (Nat → Int32)) (s_kept : (Nat → Int32)) (s_trace : (Nat → Int32)) (s_traced : Int32) (v1 : Int32) (sz : Nat) (res : Int32 × Int32 × (Nat → Int32) × Int32) (hf : fX9_restore s_isle s_acts s_isKept s_kept v1 = some res) : Met l yX9_restore wsX9_restore rmX9_restore (mtPc (dC, dI) (tyZ cI cZ) ((W_M cI cZ q_s q_s_lane q_s_many q_s_item q_s_isle q_s_fresh q_s_then q_s_was q_s_tape q_s_isKept q_s_kept q_s_trace s_thrown s_status s_lane s_many s_item s_isle s_fresh s_then s_was s_acts s_tape s_taped s_cursor s_start s_token s_value s_fault s_faultAt s_latest s_isKept s_kept s_trace s_traced)) [.ref q_s, .int v1] sz) (mtQi (dC, dI) (tyZ cI cZ) ((W_M cI cZ q_s q_s_lane q_s_many q_s_item q_s_isle q_s_fresh q_s_then q_s_was q_s_tape q_s_isKept q_s_kept q_s_trace s_thrown s_status s_lane s_many s_item s_isle s_fresh s_then s_was s_acts s_tape s_taped s_cursor s_start s_token s_value s_fault s_faultAt s_latest s_isKept s_kept s_trace s_traced)) ((W_M cI cZ q_s q_s_lane q_s_many q_s_item q_s_isle q_s_fresh q_s_then q_s_was q_s_tape q_s_isKept q_s_kept q_s_trace res.2.1 s_status s_lane s_many s_item res.2.2.1 s_fresh s_then s_was res.2.2.2 s_tape s_taped s_cursor s_start s_token s_value s_fault s_faultAt s_latest s_isKept s_kept s_trace s_traced)) res.1 sz) 0 0 (va_A ((W_M cI cZ q_s q_s_lane q_s_many q_s_item q_s_isle q_s_fresh q_s_then q_s_was q_s_tape q_s_isKept q_s_kept q_s_trace s_thrown s_status s_lane s_many s_item s_isle s_fresh s_then s_was s_acts s_tape s_taped s_cursor s_start s_token s_value s_fault s_faultAt s_latest s_isKept s_kept s_trace s_traced)) sz) := by
  refine Met.ofW (cc := cX9_restore) (maxL := 3) (ret := (some .int)) (by decide) rfl ?_
  intro p e s m args below meth c s₁ B hml hv
  obtain ⟨rfl, hsz, hP, hK, hD0⟩ := hv
  have hx := B.exec
  have hb := B.bytes
  have hr := B.returns
  have hts := atoms_spec (ws := wsX9_restore) B.pre
  have hown : s.vm.findClass RX9 = some m.cls := findClass_of_methodNamed B.named
  have hlocks := B.notSynchronized
  subst hsz
  have hD := hD0.self (sz := s.heap.size)
  obtain ⟨A, hAe⟩ : ∃ A, A = va_A ((W_M cI cZ q_s q_s_lane q_s_many q_s_item q_s_isle q_s_fresh q_s_then q_s_was q_s_tape q_s_isKept q_s_kept q_s_trace s_thrown s_status s_lane s_many s_item s_isle s_fresh s_then s_was s_acts s_tape s_taped s_cursor s_start s_token s_value s_fault s_faultAt s_latest s_isKept s_kept s_trace s_traced)) s.heap.size := ⟨_, rfl⟩
  rw [← hAe] at hD
  have hA : ∀ q : Nat, s.heap.size ≤ q → A q := fun q h => by rw [hAe]; exact Or.inr h
  have hS : va_S A s.heap s.heap [] := va_S.rf
  have hl := lv_entry ([.ref q_s, .int v1]) (n := 3) (Nat.le_of_ble_eq_true rfl)
  rw [lg_entry_eq]
  generalize (lg_sl ([.ref q_s, .int v1]) ++ List.replicate (3 - (lg_sl ([.ref q_s, .int v1])).length) Slot.unset).toArray = ls at hl ⊢
  have hl : lv_has ls 3 [(0, .ref q_s), (1, .int v1)] := hl
  obtain ⟨QQ, hQQ⟩ : ∃ Q, Q = MQ below (mtQi (dC, dI) (tyZ cI cZ) ((W_M cI cZ q_s q_s_lane q_s_many q_s_item q_s_isle q_s_fresh q_s_then q_s_was q_s_tape q_s_isKept q_s_kept q_s_trace s_thrown s_status s_lane s_many s_item s_isle s_fresh s_then s_was s_acts s_tape s_taped s_cursor s_start s_token s_value s_fault s_faultAt s_latest s_isKept s_kept s_trace s_traced)) ((W_M cI cZ q_s q_s_lane q_s_many q_s_item q_s_isle q_s_fresh q_s_then q_s_was q_s_tape q_s_isKept q_s_kept q_s_trace res.2.1 s_status s_lane s_many s_item res.2.2.1 s_fresh s_then s_was res.2.2.2 s_tape s_taped s_cursor s_start s_token s_value s_fault s_faultAt s_latest s_isKept s_kept s_trace s_traced)) res.1 s.heap.size) ([.ref q_s, .int v1] : List Value).toArray s 0 0 (va_A ((W_M cI cZ q_s q_s_lane q_s_many q_s_item q_s_isle q_s_fresh q_s_then q_s_was q_s_tape q_s_isKept q_s_kept q_s_trace s_thrown s_status s_lane s_many s_item s_isle s_fresh s_then s_was s_acts s_tape s_taped s_cursor s_start s_token s_value s_fault s_faultAt s_latest s_isKept s_kept s_trace s_traced)) s.heap.size) := ⟨_, rfl⟩
  rw [← hQQ]
  have w_0 := hts (Cond.fieldLink RX9 44 "TideInchesModel" "thrown" "I") (List.mem_of_getElem? (i := 1) rfl)
  have w_1 := (fun w hw => List.mem_cons_of_mem _ (List.mem_append_right _ hw) : ∀ w ∈ wsX90, w ∈ wsX9_restore)
  have w_2 := hts (Cond.fieldLink RX9 34 "TideInchesModel" "isKept" "[Z") (List.mem_of_getElem? (i := 3) rfl)
  have w_3 := hts (Cond.fieldLink RX9 19 "TideInchesModel" "isle" "[I") (List.mem_of_getElem? (i := 5) rfl)
  have w_4 := hts (Cond.fieldLink RX9 38 "TideInchesModel" "kept" "[I") (List.mem_of_getElem? (i := 6) rfl)
  have w_5 := hts (Cond.fieldLink RX9 145 "TideInchesModel" "acts" "I") (List.mem_of_getElem? (i := 7) rfl)
  have w_6 := hts (Cond.constant RX9 181 (-1000002)) (List.mem_of_getElem? (i := 4) rfl)
  have w_7 := hts (Cond.constant RX9 64 (-1000001)) (List.mem_of_getElem? (i := 2) rfl)
  have h := hf
  unfold fX9_restore at h
  refine lv_aload_n hx hb dX9_restore_0 rfl (lv_at hl 0 rfl) ?_
  refine lv_iconst (v := 0) hx hb dX9_restore_1 (by decide) ?_
  refine va_put (D := (dC, dI)) (ci := 7) (v := .int 0) (ty := .int) (C := RX9) (T := TX9) (N := 23) hx hb hts w_1 tyX9 tyX9_ok nmX9 hown hK hP hD hS 0 rfl rfl 0 (by decide) w_0 (fun _ h9 => h9) rfl (by decide +kernel) rfl rfl (Nat.le_of_ble_eq_true rfl) dX9_restore_2 (fun H locs hP hD hS => ?_)
  have hP : va_P (dC, dI) vwCl ((W_M cI cZ q_s q_s_lane q_s_many q_s_item q_s_isle q_s_fresh q_s_then q_s_was q_s_tape q_s_isKept q_s_kept q_s_trace 0 s_status s_lane s_many s_item s_isle s_fresh s_then s_was s_acts s_tape s_taped s_cursor s_start s_token s_value s_fault s_faultAt s_latest s_isKept s_kept s_trace s_traced)) H := hP
  have hD : va_D A ((W_M cI cZ q_s q_s_lane q_s_many q_s_item q_s_isle q_s_fresh q_s_then q_s_was q_s_tape q_s_isKept q_s_kept q_s_trace 0 s_status s_lane s_many s_item s_isle s_fresh s_then s_was s_acts s_tape s_taped s_cursor s_start s_token s_value s_fault s_faultAt s_latest s_isKept s_kept s_trace s_traced)) := hD
  refine lv_iload_n hx hb dX9_restore_5 rfl (lv_at hl 1 rfl) ?_
  refine lv_i2l hx hb dX9_restore_6 rfl ?_
  refine lv_lconst (v := 0) hx hb dX9_restore_7 (by decide) ?_
  refine lv_lconst (v := 1) hx hb dX9_restore_8 (by decide) ?_
  obtain ⟨r_1, hc_1, h⟩ := bd1_of h
  refine cl_pS (As := [.long v1.toInt64, .long 0, .long 1]) (rest := []) ⟨hx, hb, hml, hown, hts⟩ (m_X9_in l v1.toInt64 0 1 (r_1) hc_1) (va_cwS 3 hts gX9_restore_X9_in rfl rfl rfl ddX9_in ⟨Nat.le_of_ble_eq_true rfl, Nat.le_of_ble_eq_true rfl⟩) rfl rfl hl.1 (Nat.le_of_ble_eq_true rfl) ⟨Nat.zero_le _, Nat.zero_le _⟩ dX9_restore_9 ?_
  refine lv_if_ne (tgt := 18) hx hb dX9_restore_12 (by decide) (fun c_2 => ?_) (fun c_2 => ?_)
  · have h := (if_neg c_2).symm.trans h
    refine lv_aload_n hx hb dX9_restore_18 rfl (lv_at hl 0 rfl) ?_
    refine va_get (D := (dC, dI)) (ci := 7) (v := .ref q_s_isKept) (C := RX9) (T := TX9) (N := 23) hx hb hts w_1 hown hK hP 0 rfl rfl 19 (by decide) w_2 (fun _ h9 => h9) rfl dX9_restore_19 ?_
    refine lv_iload_n hx hb dX9_restore_22 rfl (lv_at hl 1 rfl) ?_
    obtain ⟨b_3, h⟩ := chk_of h
    refine va_zald hx hb hK hP 9 1 rfl rfl (i := v1) b_3 dX9_restore_23 ?_
    refine lv_if_ne (tgt := 30) hx hb dX9_restore_24 (by decide) (fun c_4 => ?_) (fun c_4 => ?_)
    · have h := (if_neg c_4).symm.trans h
      refine lv_iconst (v := 0) hx hb dX9_restore_30 (by decide) ?_
      refine lv_istore_n (lv' := [(2, .int 0), (0, .ref q_s), (1, .int v1)]) hx hb dX9_restore_31 rfl hl (by decide) rfl (fun ls hl => ?_)
      have KL32 : ∀ (k32_61 : (Nat → Int32) → Option (Int32 × Int32 × (Nat → Int32) × Int32)) , (∀ (s_isle_e61 : (Nat → Int32)) (H : Heap) (locs : List Loc) (ls : Array Slot), va_P (dC, dI) vwCl ((W_M cI cZ q_s q_s_lane q_s_many q_s_item q_s_isle q_s_fresh q_s_then q_s_was q_s_tape q_s_isKept q_s_kept q_s_trace 0 s_status s_lane s_many s_item s_isle_e61 s_fresh s_then s_was s_acts s_tape s_taped s_cursor s_start s_token s_value s_fault s_faultAt s_latest s_isKept s_kept s_trace s_traced)) H → va_D A ((W_M cI cZ q_s q_s_lane q_s_many q_s_item q_s_isle q_s_fresh q_s_then q_s_was q_s_tape q_s_isKept q_s_kept q_s_trace 0 s_status s_lane s_many s_item s_isle_e61 s_fresh s_then s_was s_acts s_tape s_taped s_cursor s_start s_token s_value s_fault s_faultAt s_latest s_isKept s_kept s_trace s_traced)) → va_S A s.heap H locs → lv_has ls 3 [(0, .ref q_s)] → k32_61 s_isle_e61 = some res → W p l e (headSpec wsX9_restore rmX9_restore).room s m ([.ref q_s, .int v1] : List Value).toArray below meth c H locs 0 0 QQ (F0 m 61 ls [])) → ∀ (n : Nat) (v2_h32 : Int32) (s_isle_h32 : (Nat → Int32)) (H : Heap) (locs : List Loc) (ls : Array Slot), va_P (dC, dI) vwCl ((W_M cI cZ q_s q_s_lane q_s_many q_s_item q_s_isle q_s_fresh q_s_then q_s_was q_s_tape q_s_isKept q_s_kept q_s_trace 0 s_status s_lane s_many s_item s_isle_h32 s_fresh s_then s_was s_acts s_tape s_taped s_cursor s_start s_token s_value s_fault s_faultAt s_latest s_isKept s_kept s_trace s_traced)) H → va_D A ((W_M cI cZ q_s q_s_lane q_s_many q_s_item q_s_isle q_s_fresh q_s_then q_s_was q_s_tape q_s_isKept q_s_kept q_s_trace 0 s_status s_lane s_many s_item s_isle_h32 s_fresh s_then s_was s_acts s_tape s_taped s_cursor s_start s_token s_value s_fault s_faultAt s_latest s_isKept s_kept s_trace s_traced)) → va_S A s.heap H locs → lv_has ls 3 [(0, .ref q_s), (1, .int v1), (2, .int v2_h32)] → fX9_restore_L32 s_kept v1 k32_61 n v2_h32 s_isle_h32 = some res → W p l e (headSpec wsX9_restore rmX9_restore).room s m ([.ref q_s, .int v1] : List Value).toArray below meth c H locs 0 0 QQ (F0 m 32 ls []) := by
        intro k32_61 Kk32_61 n
        induction n with
        | zero => intro v2_h32 s_isle_h32 H locs ls hP hD hS hl h; rw [fX9_restore_L32.eq_1] at h; cases h
        | succ n ih =>
          intro v2_h32 s_isle_h32 H locs ls hP hD hS hl h
          rw [fX9_restore_L32.eq_2] at h
          refine lv_iload_n hx hb dX9_restore_32 rfl (lv_at hl 2 rfl) ?_
          refine lv_bipush (v := 51) hx hb dX9_restore_33 (by decide) ?_
          refine lv_icmp_ge (tgt := 61) hx hb dX9_restore_35 (by decide) (fun c_5 => ?_) (fun c_5 => ?_)
          · have h := (if_pos c_5).symm.trans h
            exact Kk32_61 s_isle_h32 _ _ _ hP hD hS (lv_sub hl [0] rfl) h
          · have h := (if_neg c_5).symm.trans h
            refine lv_aload_n hx hb dX9_restore_38 rfl (lv_at hl 0 rfl) ?_
            refine va_get (D := (dC, dI)) (ci := 7) (v := .ref q_s_isle) (C := RX9) (T := TX9) (N := 23) hx hb hts w_1 hown hK hP 0 rfl rfl 5 (by decide) w_3 (fun _ h9 => h9) rfl dX9_restore_39 ?_
            refine lv_iload_n hx hb dX9_restore_42 rfl (lv_at hl 2 rfl) ?_
            refine lv_aload_n hx hb dX9_restore_43 rfl (lv_at hl 0 rfl) ?_
            refine va_get (D := (dC, dI)) (ci := 7) (v := .ref q_s_kept) (C := RX9) (T := TX9) (N := 23) hx hb hts w_1 hown hK hP 0 rfl rfl 20 (by decide) w_4 (fun _ h9 => h9) rfl dX9_restore_44 ?_
            refine lv_bipush (v := 51) hx hb dX9_restore_47 (by decide) ?_
            refine lv_iload_n hx hb dX9_restore_49 rfl (lv_at hl 1 rfl) ?_
            refine lv_imul hx hb dX9_restore_50 ?_
            refine lv_iload_n hx hb dX9_restore_51 rfl (lv_at hl 2 rfl) ?_
            refine lv_iadd hx hb dX9_restore_52 ?_
            obtain ⟨b_6, h⟩ := chk_of h
            refine va_iald hx hb hK hP 10 0 rfl rfl (i := ((51 * v1) + v2_h32)) b_6 dX9_restore_53 ?_
            obtain ⟨b_7, h⟩ := chk_of h
            refine va_iast hx hb hK hP hD hS 4 0 rfl rfl (i := v2_h32) (x := (s_kept ((51 * v1) + v2_h32).toNatClampNeg)) b_7 dX9_restore_54 (fun H locs hP hD hS => ?_)
            have hP : va_P (dC, dI) vwCl ((W_M cI cZ q_s q_s_lane q_s_many q_s_item q_s_isle q_s_fresh q_s_then q_s_was q_s_tape q_s_isKept q_s_kept q_s_trace 0 s_status s_lane s_many s_item (upd s_isle_h32 v2_h32.toNatClampNeg (s_kept ((51 * v1) + v2_h32).toNatClampNeg)) s_fresh s_then s_was s_acts s_tape s_taped s_cursor s_start s_token s_value s_fault s_faultAt s_latest s_isKept s_kept s_trace s_traced)) H := hP
            have hD : va_D A ((W_M cI cZ q_s q_s_lane q_s_many q_s_item q_s_isle q_s_fresh q_s_then q_s_was q_s_tape q_s_isKept q_s_kept q_s_trace 0 s_status s_lane s_many s_item (upd s_isle_h32 v2_h32.toNatClampNeg (s_kept ((51 * v1) + v2_h32).toNatClampNeg)) s_fresh s_then s_was s_acts s_tape s_taped s_cursor s_start s_token s_value s_fault s_faultAt s_latest s_isKept s_kept s_trace s_traced)) := hD
            refine lv_iinc (v := (v2_h32 + 1)) (lv' := [(2, .int (v2_h32 + 1)), (0, .ref q_s), (1, .int v1)]) hx hb dX9_restore_55 hl (k := 2) rfl rfl (by decide) rfl (fun ls hl => ?_)
            refine lv_goto (tgt := 32) hx hb dX9_restore_58 (by decide) ?_
            exact ih (v2_h32 + 1) (upd s_isle_h32 v2_h32.toNatClampNeg (s_kept ((51 * v1) + v2_h32).toNatClampNeg)) _ _ _ hP hD hS (lv_sub hl [1, 2, 0] rfl) h
      refine KL32 _ (fun s_isle_e61 H locs ls hP hD hS hl h => ?_) FU 0 s_isle _ _ _ hP hD hS (lv_sub hl [1, 2, 0] rfl) h
      refine lv_aload_n hx hb dX9_restore_61 rfl (lv_at hl 0 rfl) ?_
      refine lv_iconst (v := 0) hx hb dX9_restore_62 (by decide) ?_
      refine va_put (D := (dC, dI)) (ci := 7) (v := .int 0) (ty := .int) (C := RX9) (T := TX9) (N := 23) hx hb hts w_1 tyX9 tyX9_ok nmX9 hown hK hP hD hS 0 rfl rfl 9 (by decide) w_5 (fun _ h9 => h9) rfl (by decide +kernel) rfl rfl (Nat.le_of_ble_eq_true rfl) dX9_restore_63 (fun H locs hP hD hS => ?_)
      have hP : va_P (dC, dI) vwCl ((W_M cI cZ q_s q_s_lane q_s_many q_s_item q_s_isle q_s_fresh q_s_then q_s_was q_s_tape q_s_isKept q_s_kept q_s_trace 0 s_status s_lane s_many s_item s_isle_e61 s_fresh s_then s_was 0 s_tape s_taped s_cursor s_start s_token s_value s_fault s_faultAt s_latest s_isKept s_kept s_trace s_traced)) H := hP
      have hD : va_D A ((W_M cI cZ q_s q_s_lane q_s_many q_s_item q_s_isle q_s_fresh q_s_then q_s_was q_s_tape q_s_isKept q_s_kept q_s_trace 0 s_status s_lane s_many s_item s_isle_e61 s_fresh s_then s_was 0 s_tape s_taped s_cursor s_start s_token s_value s_fault s_faultAt s_latest s_isKept s_kept s_trace s_traced)) := hD
      refine lv_iconst (v := 1) hx hb dX9_restore_66 (by decide) ?_
      have h := Option.some.inj h
      subst h
      rw [hQQ]
      subst hAe
      exact W.iret (v := 1) hx hb hr (fun t ht hW => ⟨⟨_, (), rfl, rfl, by rw [ht]; exact hP, va_K.moved hW.alike hK, hD⟩, hS.F ht⟩) hS.2.2 dX9_restore_67
    · have h := (if_pos c_4).symm.trans h
      refine lv_ldc hx hb hown w_6 dX9_restore_27 ?_
      have h := Option.some.inj h
      subst h
      rw [hQQ]
      subst hAe
      exact W.iret (v := (-1000002)) hx hb hr (fun t ht hW => ⟨⟨_, (), rfl, rfl, by rw [ht]; exact hP, va_K.moved hW.alike hK, hD⟩, hS.F ht⟩) hS.2.2 dX9_restore_29
  · have h := (if_pos c_2).symm.trans h
    refine lv_ldc hx hb hown w_7 dX9_restore_15 ?_
    have h := Option.some.inj h
    subst h
    rw [hQQ]
    subst hAe
    exact W.iret (v := (-1000001)) hx hb hr (fun t ht hW => ⟨⟨_, (), rfl, rfl, by rw [ht]; exact hP, va_K.moved hW.alike hK, hD⟩, hS.F ht⟩) hS.2.2 dX9_restore_17
def fX9_isOf_J19 (v0 : Int32) (v1 : Int32) : Option (Int32) :=
  (if v1 = 4 then (if v0 = 5 then some (1) else some (0)) else some (0))
def fX9_isOf (v0 : Int32) (v1 : Int32) : Option (Int32) :=
  (if v1 = 0 then some (1) else (if v0 = v1 then some (1) else (if v1 = 1 then (if v0 < 4 then some (1) else (fX9_isOf_J19 v0 v1)) else (fX9_isOf_J19 v0 v1))))
abbrev rmX9_isOf : Room := { frames := 0, cells := 0, slots := 0, locals := 0 }
theorem ddX9_isOf : yX9_isOf.cls ≠ "java/lang/invoke/MethodHandle" ∧ yX9_isOf.cls ≠ "java/lang/invoke/VarHandle" ∧ (parseMethodDescriptor yX9_isOf.desc).map (fun d => d.parameters.length) = some 2 := by decide +kernel
set_option maxHeartbeats 4000000 in
set_option maxRecDepth 100000 in
theorem m_X9_isOf (l : Launch) (v0 : Int32) (v1 : Int32) (res : Int32) (hf : fX9_isOf v0 v1 = some res) : Met l yX9_isOf wsX9_isOf rmX9_isOf (psPc [.int v0, .int v1]) (rdQ res) 0 0 (fun _ => False) := by
  refine Met.ofW (cc := cX9_isOf) (maxL := 2) (ret := (some .boolean)) (by decide) rfl ?_
  intro p e s m args below meth c s₁ B hml hv
  obtain rfl := hv
  have hx := B.exec
  have hb := B.bytes
  have hr := B.returns
  have hts := atoms_spec (ws := wsX9_isOf) B.pre
  have hown : s.vm.findClass RX9 = some m.cls := findClass_of_methodNamed B.named
  have hlocks := B.notSynchronized
  have hl := lv_entry ([.int v0, .int v1]) (n := 2) (Nat.le_of_ble_eq_true rfl)
  rw [lg_entry_eq]
  generalize (lg_sl ([.int v0, .int v1]) ++ List.replicate (2 - (lg_sl ([.int v0, .int v1])).length) Slot.unset).toArray = ls at hl ⊢
  have hl : lv_has ls 2 [(0, .int v0), (1, .int v1)] := hl
  obtain ⟨QQ, hQQ⟩ : ∃ Q, Q = MQ below (rdQ res) ([.int v0, .int v1] : List Value).toArray s 0 0 (fun _ => False) := ⟨_, rfl⟩
  rw [← hQQ]
  have h := hf
  unfold fX9_isOf at h
  refine lv_iload_n hx hb dX9_isOf_0 rfl (lv_at hl 1 rfl) ?_
  refine lv_if_eq (tgt := 29) hx hb dX9_isOf_1 (by decide) (fun c_1 => ?_) (fun c_1 => ?_)
  · have h := (if_pos c_1).symm.trans h
    refine lv_iconst (v := 1) hx hb dX9_isOf_29 (by decide) ?_
    refine lv_goto (tgt := 34) hx hb dX9_isOf_30 (by decide) ?_
    rw [hQQ]
    exact W.zret (v := 1) (ty := .boolean) hx hb hr rfl (fun t ht hW => ⟨_, rfl, Option.some.inj h, ht⟩) (fun q hq => by cases hq) dX9_isOf_34
  · have h := (if_neg c_1).symm.trans h
    refine lv_iload_n hx hb dX9_isOf_4 rfl (lv_at hl 0 rfl) ?_
    refine lv_iload_n hx hb dX9_isOf_5 rfl (lv_at hl 1 rfl) ?_
    refine lv_icmp_eq (tgt := 29) hx hb dX9_isOf_6 (by decide) (fun c_2 => ?_) (fun c_2 => ?_)
    · have h := (if_pos c_2).symm.trans h
      refine lv_iconst (v := 1) hx hb dX9_isOf_29 (by decide) ?_
      refine lv_goto (tgt := 34) hx hb dX9_isOf_30 (by decide) ?_
      rw [hQQ]
      exact W.zret (v := 1) (ty := .boolean) hx hb hr rfl (fun t ht hW => ⟨_, rfl, Option.some.inj h, ht⟩) (fun q hq => by cases hq) dX9_isOf_34
    · have h := (if_neg c_2).symm.trans h
      refine lv_iload_n hx hb dX9_isOf_9 rfl (lv_at hl 1 rfl) ?_
      refine lv_iconst (v := 1) hx hb dX9_isOf_10 (by decide) ?_
      have KJ19 : ∀ (ls : Array Slot), lv_has ls 2 [(0, .int v0), (1, .int v1)] → fX9_isOf_J19 v0 v1 = some res → W p l e (headSpec wsX9_isOf rmX9_isOf).room s m ([.int v0, .int v1] : List Value).toArray below meth c s.heap [] 0 0 QQ (F0 m 19 ls []) := by
        intro ls hl h
        unfold fX9_isOf_J19 at h
        refine lv_iload_n hx hb dX9_isOf_19 rfl (lv_at hl 1 rfl) ?_
        refine lv_iconst (v := 4) hx hb dX9_isOf_20 (by decide) ?_
        refine lv_icmp_ne (tgt := 33) hx hb dX9_isOf_21 (by decide) (fun c_3 => ?_) (fun c_3 => ?_)
        · have h := (if_neg c_3).symm.trans h
          refine lv_iconst (v := 0) hx hb dX9_isOf_33 (by decide) ?_
          rw [hQQ]
          exact W.zret (v := 0) (ty := .boolean) hx hb hr rfl (fun t ht hW => ⟨_, rfl, Option.some.inj h, ht⟩) (fun q hq => by cases hq) dX9_isOf_34
        · have h := (if_pos c_3).symm.trans h
          refine lv_iload_n hx hb dX9_isOf_24 rfl (lv_at hl 0 rfl) ?_
          refine lv_iconst (v := 5) hx hb dX9_isOf_25 (by decide) ?_
          refine lv_icmp_ne (tgt := 33) hx hb dX9_isOf_26 (by decide) (fun c_4 => ?_) (fun c_4 => ?_)
          · have h := (if_neg c_4).symm.trans h
            refine lv_iconst (v := 0) hx hb dX9_isOf_33 (by decide) ?_
            rw [hQQ]
            exact W.zret (v := 0) (ty := .boolean) hx hb hr rfl (fun t ht hW => ⟨_, rfl, Option.some.inj h, ht⟩) (fun q hq => by cases hq) dX9_isOf_34
          · have h := (if_pos c_4).symm.trans h
            refine lv_iconst (v := 1) hx hb dX9_isOf_29 (by decide) ?_
            refine lv_goto (tgt := 34) hx hb dX9_isOf_30 (by decide) ?_
            rw [hQQ]
            exact W.zret (v := 1) (ty := .boolean) hx hb hr rfl (fun t ht hW => ⟨_, rfl, Option.some.inj h, ht⟩) (fun q hq => by cases hq) dX9_isOf_34
      refine lv_icmp_ne (tgt := 19) hx hb dX9_isOf_11 (by decide) (fun c_5 => ?_) (fun c_5 => ?_)
      · have h := (if_neg c_5).symm.trans h
        exact KJ19 _ (lv_sub hl [0, 1] rfl) h
      · have h := (if_pos c_5).symm.trans h
        refine lv_iload_n hx hb dX9_isOf_14 rfl (lv_at hl 0 rfl) ?_
        refine lv_iconst (v := 4) hx hb dX9_isOf_15 (by decide) ?_
        refine lv_icmp_lt (tgt := 29) hx hb dX9_isOf_16 (by decide) (fun c_6 => ?_) (fun c_6 => ?_)
        · have h := (if_pos c_6).symm.trans h
          refine lv_iconst (v := 1) hx hb dX9_isOf_29 (by decide) ?_
          refine lv_goto (tgt := 34) hx hb dX9_isOf_30 (by decide) ?_
          rw [hQQ]
          exact W.zret (v := 1) (ty := .boolean) hx hb hr rfl (fun t ht hW => ⟨_, rfl, Option.some.inj h, ht⟩) (fun q hq => by cases hq) dX9_isOf_34
        · have h := (if_neg c_6).symm.trans h
          exact KJ19 _ (lv_sub hl [0, 1] rfl) h
def fX9_kind (s_isle : (Nat → Int32)) (v1 : Int32) : Option (Int32 × Int32) :=
  bd1 (fX9_isBidder s_isle v1) (fun r_1 => (if r_1 = 0 then some ((-1000001), 0) else bd1 (fX9_of s_isle v1 0) (fun r_3 => some (r_3, 0))))
abbrev rmX9_kind : Room := { frames := 2, cells := 0, slots := 0, locals := 46 }
theorem ddX9_kind : yX9_kind.cls ≠ "java/lang/invoke/MethodHandle" ∧ yX9_kind.cls ≠ "java/lang/invoke/VarHandle" ∧ (parseMethodDescriptor yX9_kind.desc).map (fun d => d.parameters.length) = some 1 := by decide +kernel
set_option maxHeartbeats 4000000 in
set_option maxRecDepth 100000 in
theorem m_X9_kind (l : Launch) (dC : Nat → ClassId) (dI : Nat → Nat → Nat) (cI cZ : ClassId) (q_s q_s_lane q_s_many q_s_item q_s_isle q_s_fresh q_s_then q_s_was q_s_tape q_s_isKept q_s_kept q_s_trace : Nat) (s_thrown : Int32) (s_status : Int32) (s_lane : (Nat → Int32)) (s_many : (Nat → Int32)) (s_item : (Nat → Int32)) (s_isle : (Nat → Int32)) (s_fresh : (Nat → Int32)) (s_then : (Nat → Int32)) (s_was : (Nat → Int32)) (s_acts : Int32) (s_tape : (Nat → Int32)) (s_taped : Int32) (s_cursor : Int32) (s_start : Int32) (s_token : Int32) (s_value : Int32) (s_fault : Int32) (s_faultAt : Int32) (s_latest : Int32) (s_isKept : (Nat → Int32)) (s_kept : (Nat → Int32)) (s_trace : (Nat → Int32)) (s_traced : Int32) (v1 : Int32) (sz : Nat) (res : Int32 × Int32) (hf : fX9_kind s_isle v1 = some res) : Met l yX9_kind wsX9_kind rmX9_kind (mtPc (dC, dI) (tyZ cI cZ) ((W_M cI cZ q_s q_s_lane q_s_many q_s_item q_s_isle q_s_fresh q_s_then q_s_was q_s_tape q_s_isKept q_s_kept q_s_trace s_thrown s_status s_lane s_many s_item s_isle s_fresh s_then s_was s_acts s_tape s_taped s_cursor s_start s_token s_value s_fault s_faultAt s_latest s_isKept s_kept s_trace s_traced)) [.ref q_s, .int v1] sz) (mtQi (dC, dI) (tyZ cI cZ) ((W_M cI cZ q_s q_s_lane q_s_many q_s_item q_s_isle q_s_fresh q_s_then q_s_was q_s_tape q_s_isKept q_s_kept q_s_trace s_thrown s_status s_lane s_many s_item s_isle s_fresh s_then s_was s_acts s_tape s_taped s_cursor s_start s_token s_value s_fault s_faultAt s_latest s_isKept s_kept s_trace s_traced)) ((W_M cI cZ q_s q_s_lane q_s_many q_s_item q_s_isle q_s_fresh q_s_then q_s_was q_s_tape q_s_isKept q_s_kept q_s_trace res.2 s_status s_lane s_many s_item s_isle s_fresh s_then s_was s_acts s_tape s_taped s_cursor s_start s_token s_value s_fault s_faultAt s_latest s_isKept s_kept s_trace s_traced)) res.1 sz) 0 0 (va_A ((W_M cI cZ q_s q_s_lane q_s_many q_s_item q_s_isle q_s_fresh q_s_then q_s_was q_s_tape q_s_isKept q_s_kept q_s_trace s_thrown s_status s_lane s_many s_item s_isle s_fresh s_then s_was s_acts s_tape s_taped s_cursor s_start s_token s_value s_fault s_faultAt s_latest s_isKept s_kept s_trace s_traced)) sz) := by
  refine Met.ofW (cc := cX9_kind) (maxL := 2) (ret := (some .int)) (by decide) rfl ?_
  intro p e s m args below meth c s₁ B hml hv
  obtain ⟨rfl, hsz, hP, hK, hD0⟩ := hv
  have hx := B.exec
  have hb := B.bytes
  have hr := B.returns
  have hts := atoms_spec (ws := wsX9_kind) B.pre
  have hown : s.vm.findClass RX9 = some m.cls := findClass_of_methodNamed B.named
  have hlocks := B.notSynchronized
  subst hsz
  have hD := hD0.self (sz := s.heap.size)
  obtain ⟨A, hAe⟩ : ∃ A, A = va_A ((W_M cI cZ q_s q_s_lane q_s_many q_s_item q_s_isle q_s_fresh q_s_then q_s_was q_s_tape q_s_isKept q_s_kept q_s_trace s_thrown s_status s_lane s_many s_item s_isle s_fresh s_then s_was s_acts s_tape s_taped s_cursor s_start s_token s_value s_fault s_faultAt s_latest s_isKept s_kept s_trace s_traced)) s.heap.size := ⟨_, rfl⟩
  rw [← hAe] at hD
  have hA : ∀ q : Nat, s.heap.size ≤ q → A q := fun q h => by rw [hAe]; exact Or.inr h
  have hS : va_S A s.heap s.heap [] := va_S.rf
  have hl := lv_entry ([.ref q_s, .int v1]) (n := 2) (Nat.le_of_ble_eq_true rfl)
  rw [lg_entry_eq]
  generalize (lg_sl ([.ref q_s, .int v1]) ++ List.replicate (2 - (lg_sl ([.ref q_s, .int v1])).length) Slot.unset).toArray = ls at hl ⊢
  have hl : lv_has ls 2 [(0, .ref q_s), (1, .int v1)] := hl
  obtain ⟨QQ, hQQ⟩ : ∃ Q, Q = MQ below (mtQi (dC, dI) (tyZ cI cZ) ((W_M cI cZ q_s q_s_lane q_s_many q_s_item q_s_isle q_s_fresh q_s_then q_s_was q_s_tape q_s_isKept q_s_kept q_s_trace s_thrown s_status s_lane s_many s_item s_isle s_fresh s_then s_was s_acts s_tape s_taped s_cursor s_start s_token s_value s_fault s_faultAt s_latest s_isKept s_kept s_trace s_traced)) ((W_M cI cZ q_s q_s_lane q_s_many q_s_item q_s_isle q_s_fresh q_s_then q_s_was q_s_tape q_s_isKept q_s_kept q_s_trace res.2 s_status s_lane s_many s_item s_isle s_fresh s_then s_was s_acts s_tape s_taped s_cursor s_start s_token s_value s_fault s_faultAt s_latest s_isKept s_kept s_trace s_traced)) res.1 s.heap.size) ([.ref q_s, .int v1] : List Value).toArray s 0 0 (va_A ((W_M cI cZ q_s q_s_lane q_s_many q_s_item q_s_isle q_s_fresh q_s_then q_s_was q_s_tape q_s_isKept q_s_kept q_s_trace s_thrown s_status s_lane s_many s_item s_isle s_fresh s_then s_was s_acts s_tape s_taped s_cursor s_start s_token s_value s_fault s_faultAt s_latest s_isKept s_kept s_trace s_traced)) s.heap.size) := ⟨_, rfl⟩
  rw [← hQQ]
  have w_0 := hts (Cond.fieldLink RX9 44 "TideInchesModel" "thrown" "I") (List.mem_of_getElem? (i := 1) rfl)
  have w_1 := (fun w hw => List.mem_cons_of_mem _ (List.mem_append_right _ hw) : ∀ w ∈ wsX90, w ∈ wsX9_kind)
  have w_2 := hts (Cond.constant RX9 64 (-1000001)) (List.mem_of_getElem? (i := 3) rfl)
  have w_3 := hts (Cond.fieldLink RX9 19 "TideInchesModel" "isle" "[I") (List.mem_of_getElem? (i := 2) rfl)
  have h := hf
  unfold fX9_kind at h
  refine lv_aload_n hx hb dX9_kind_0 rfl (lv_at hl 0 rfl) ?_
  refine lv_iconst (v := 0) hx hb dX9_kind_1 (by decide) ?_
  refine va_put (D := (dC, dI)) (ci := 7) (v := .int 0) (ty := .int) (C := RX9) (T := TX9) (N := 23) hx hb hts w_1 tyX9 tyX9_ok nmX9 hown hK hP hD hS 0 rfl rfl 0 (by decide) w_0 (fun _ h9 => h9) rfl (by decide +kernel) rfl rfl (Nat.le_of_ble_eq_true rfl) dX9_kind_2 (fun H locs hP hD hS => ?_)
  have hP : va_P (dC, dI) vwCl ((W_M cI cZ q_s q_s_lane q_s_many q_s_item q_s_isle q_s_fresh q_s_then q_s_was q_s_tape q_s_isKept q_s_kept q_s_trace 0 s_status s_lane s_many s_item s_isle s_fresh s_then s_was s_acts s_tape s_taped s_cursor s_start s_token s_value s_fault s_faultAt s_latest s_isKept s_kept s_trace s_traced)) H := hP
  have hD : va_D A ((W_M cI cZ q_s q_s_lane q_s_many q_s_item q_s_isle q_s_fresh q_s_then q_s_was q_s_tape q_s_isKept q_s_kept q_s_trace 0 s_status s_lane s_many s_item s_isle s_fresh s_then s_was s_acts s_tape s_taped s_cursor s_start s_token s_value s_fault s_faultAt s_latest s_isKept s_kept s_trace s_traced)) := hD
  refine lv_aload_n hx hb dX9_kind_5 rfl (lv_at hl 0 rfl) ?_
  refine lv_iload_n hx hb dX9_kind_6 rfl (lv_at hl 1 rfl) ?_
  obtain ⟨r_1, hc_1, h⟩ := bd1_of h
  refine cl_rV (As := [.int v1]) (rest := []) ⟨hx, hb, hml, hown, hts⟩ (m_X9_isBidder l dC dI cI cZ q_s q_s_lane q_s_many q_s_item q_s_isle q_s_fresh q_s_then q_s_was q_s_tape q_s_isKept q_s_kept q_s_trace 0 s_status s_lane s_many s_item s_isle s_fresh s_then s_was s_acts s_tape s_taped s_cursor s_start s_token s_value s_fault s_faultAt s_latest s_isKept s_kept s_trace s_traced v1 (r_1) hc_1) (cwV 1 hts gX9_kind_X9_isBidder rfl rfl rfl ⟨rfl, ddX9_isBidder⟩ ⟨Nat.le_of_ble_eq_true rfl, Nat.le_of_ble_eq_true rfl⟩) hK hP [0, 1, 2, 3, 4, 5, 6, 7, 8, 9, 10, 11] rfl rfl rfl rfl rfl hl.1 (Nat.le_of_ble_eq_true rfl) ⟨Nat.zero_le _, Nat.zero_le _⟩ dX9_kind_7 ?_
  refine lv_if_eq (tgt := 25) hx hb dX9_kind_10 (by decide) (fun c_2 => ?_) (fun c_2 => ?_)
  · have h := (if_pos c_2).symm.trans h
    refine lv_ldc hx hb hown w_2 dX9_kind_25 ?_
    have h := Option.some.inj h
    subst h
    rw [hQQ]
    subst hAe
    exact W.iret (v := (-1000001)) hx hb hr (fun t ht hW => ⟨⟨_, (), rfl, rfl, by rw [ht]; exact hP, va_K.moved hW.alike hK, hD⟩, hS.F ht⟩) hS.2.2 dX9_kind_27
  · have h := (if_neg c_2).symm.trans h
    refine lv_aload_n hx hb dX9_kind_13 rfl (lv_at hl 0 rfl) ?_
    refine va_get (D := (dC, dI)) (ci := 7) (v := .ref q_s_isle) (C := RX9) (T := TX9) (N := 23) hx hb hts w_1 hown hK hP 0 rfl rfl 5 (by decide) w_3 (fun _ h9 => h9) rfl dX9_kind_14 ?_
    refine lv_iload_n hx hb dX9_kind_17 rfl (lv_at hl 1 rfl) ?_
    refine lv_iconst (v := 0) hx hb dX9_kind_18 (by decide) ?_
    obtain ⟨r_3, hc_3, h⟩ := bd1_of h
    refine cl_rS (As := [.ref q_s_isle, .int v1, .int 0]) (rest := []) ⟨hx, hb, hml, hown, hts⟩ (m_X9_of l dC dI cI cZ q_s_isle s_isle v1 0 (r_3) hc_3) (va_cwS 3 hts gX9_kind_X9_of rfl rfl rfl ddX9_of ⟨Nat.le_of_ble_eq_true rfl, Nat.le_of_ble_eq_true rfl⟩) hK hP [4] rfl rfl rfl hl.1 (Nat.le_of_ble_eq_true rfl) ⟨Nat.zero_le _, Nat.zero_le _⟩ dX9_kind_19 ?_
    refine lv_goto (tgt := 27) hx hb dX9_kind_22 (by decide) ?_
    have h := Option.some.inj h
    subst h
    rw [hQQ]
    subst hAe
    exact W.iret (v := r_3) hx hb hr (fun t ht hW => ⟨⟨_, (), rfl, rfl, by rw [ht]; exact hP, va_K.moved hW.alike hK, hD⟩, hS.F ht⟩) hS.2.2 dX9_kind_27
def fX9_as (s_status : Int32) (s_isle : (Nat → Int32)) (v1 : Int32) (v2 : Int32) : Option (Int32 × Int32 × Int32) :=
  bd1 (fX9_isBidder s_isle v1) (fun r_1 => (if r_1 = 0 then some ((-1000001), 0, s_status) else bd1 (fX9_in v2.toInt64 0 5) (fun r_3 => (if r_3 = 0 then some ((-1000001), 0, s_status) else bd1 (fX9_of s_isle v1 0) (fun r_5 => bd1 (fX9_isOf r_5 v2) (fun r_6 => (if r_6 = 0 then bd2 (fX9_finding 3) (fun r_8 s_status_8 => some (r_8, 0, s_status_8)) else some (v1, 0, 0))))))))
abbrev rmX9_as : Room := { frames := 2, cells := 0, slots := 0, locals := 46 }
theorem ddX9_as : yX9_as.cls ≠ "java/lang/invoke/MethodHandle" ∧ yX9_as.cls ≠ "java/lang/invoke/VarHandle" ∧ (parseMethodDescriptor yX9_as.desc).map (fun d => d.parameters.length) = some 2 := by decide +kernel
set_option maxHeartbeats 4000000 in
set_option maxRecDepth 100000 in
theorem m_X9_as (l : Launch) (dC : Nat → ClassId) (dI : Nat → Nat → Nat) (cI cZ : ClassId) (q_s q_s_lane q_s_many q_s_item q_s_isle q_s_fresh q_s_then q_s_was q_s_tape q_s_isKept q_s_kept q_s_trace : Nat) (s_thrown : Int32) (s_status : Int32) (s_lane : (Nat → Int32)) (s_many : (Nat → Int32)) (s_item : (Nat → Int32)) (s_isle : (Nat → Int32)) (s_fresh : (Nat → Int32)) (s_then : (Nat → Int32)) (s_was : (Nat → Int32)) (s_acts : Int32) (s_tape : (Nat → Int32)) (s_taped : Int32) (s_cursor : Int32) (s_start : Int32) (s_token : Int32) (s_value : Int32) (s_fault : Int32) (s_faultAt : Int32) (s_latest : Int32) (s_isKept : (Nat → Int32)) (s_kept : (Nat → Int32)) (s_trace : (Nat → Int32)) (s_traced : Int32) (v1 : Int32) (v2 : Int32) (sz : Nat) (res : Int32 × Int32 × Int32) (hf : fX9_as s_status s_isle v1 v2 = some res) : Met l yX9_as wsX9_as rmX9_as (mtPc (dC, dI) (tyZ cI cZ) ((W_M cI cZ q_s q_s_lane q_s_many q_s_item q_s_isle q_s_fresh q_s_then q_s_was q_s_tape q_s_isKept q_s_kept q_s_trace s_thrown s_status s_lane s_many s_item s_isle s_fresh s_then s_was s_acts s_tape s_taped s_cursor s_start s_token s_value s_fault s_faultAt s_latest s_isKept s_kept s_trace s_traced)) [.ref q_s, .int v1, .int v2] sz) (mtQi (dC, dI) (tyZ cI cZ) ((W_M cI cZ q_s q_s_lane q_s_many q_s_item q_s_isle q_s_fresh q_s_then q_s_was q_s_tape q_s_isKept q_s_kept q_s_trace s_thrown s_status s_lane s_many s_item s_isle s_fresh s_then s_was s_acts s_tape s_taped s_cursor s_start s_token s_value s_fault s_faultAt s_latest s_isKept s_kept s_trace s_traced)) ((W_M cI cZ q_s q_s_lane q_s_many q_s_item q_s_isle q_s_fresh q_s_then q_s_was q_s_tape q_s_isKept q_s_kept q_s_trace res.2.1 res.2.2 s_lane s_many s_item s_isle s_fresh s_then s_was s_acts s_tape s_taped s_cursor s_start s_token s_value s_fault s_faultAt s_latest s_isKept s_kept s_trace s_traced)) res.1 sz) 0 0 (va_A ((W_M cI cZ q_s q_s_lane q_s_many q_s_item q_s_isle q_s_fresh q_s_then q_s_was q_s_tape q_s_isKept q_s_kept q_s_trace s_thrown s_status s_lane s_many s_item s_isle s_fresh s_then s_was s_acts s_tape s_taped s_cursor s_start s_token s_value s_fault s_faultAt s_latest s_isKept s_kept s_trace s_traced)) sz) := by
  refine Met.ofW (cc := cX9_as) (maxL := 3) (ret := (some .int)) (by decide) rfl ?_
  intro p e s m args below meth c s₁ B hml hv
  obtain ⟨rfl, hsz, hP, hK, hD0⟩ := hv
  have hx := B.exec
  have hb := B.bytes
  have hr := B.returns
  have hts := atoms_spec (ws := wsX9_as) B.pre
  have hown : s.vm.findClass RX9 = some m.cls := findClass_of_methodNamed B.named
  have hlocks := B.notSynchronized
  subst hsz
  have hD := hD0.self (sz := s.heap.size)
  obtain ⟨A, hAe⟩ : ∃ A, A = va_A ((W_M cI cZ q_s q_s_lane q_s_many q_s_item q_s_isle q_s_fresh q_s_then q_s_was q_s_tape q_s_isKept q_s_kept q_s_trace s_thrown s_status s_lane s_many s_item s_isle s_fresh s_then s_was s_acts s_tape s_taped s_cursor s_start s_token s_value s_fault s_faultAt s_latest s_isKept s_kept s_trace s_traced)) s.heap.size := ⟨_, rfl⟩
  rw [← hAe] at hD
  have hA : ∀ q : Nat, s.heap.size ≤ q → A q := fun q h => by rw [hAe]; exact Or.inr h
  have hS : va_S A s.heap s.heap [] := va_S.rf
  have hl := lv_entry ([.ref q_s, .int v1, .int v2]) (n := 3) (Nat.le_of_ble_eq_true rfl)
  rw [lg_entry_eq]
  generalize (lg_sl ([.ref q_s, .int v1, .int v2]) ++ List.replicate (3 - (lg_sl ([.ref q_s, .int v1, .int v2])).length) Slot.unset).toArray = ls at hl ⊢
  have hl : lv_has ls 3 [(0, .ref q_s), (1, .int v1), (2, .int v2)] := hl
  obtain ⟨QQ, hQQ⟩ : ∃ Q, Q = MQ below (mtQi (dC, dI) (tyZ cI cZ) ((W_M cI cZ q_s q_s_lane q_s_many q_s_item q_s_isle q_s_fresh q_s_then q_s_was q_s_tape q_s_isKept q_s_kept q_s_trace s_thrown s_status s_lane s_many s_item s_isle s_fresh s_then s_was s_acts s_tape s_taped s_cursor s_start s_token s_value s_fault s_faultAt s_latest s_isKept s_kept s_trace s_traced)) ((W_M cI cZ q_s q_s_lane q_s_many q_s_item q_s_isle q_s_fresh q_s_then q_s_was q_s_tape q_s_isKept q_s_kept q_s_trace res.2.1 res.2.2 s_lane s_many s_item s_isle s_fresh s_then s_was s_acts s_tape s_taped s_cursor s_start s_token s_value s_fault s_faultAt s_latest s_isKept s_kept s_trace s_traced)) res.1 s.heap.size) ([.ref q_s, .int v1, .int v2] : List Value).toArray s 0 0 (va_A ((W_M cI cZ q_s q_s_lane q_s_many q_s_item q_s_isle q_s_fresh q_s_then q_s_was q_s_tape q_s_isKept q_s_kept q_s_trace s_thrown s_status s_lane s_many s_item s_isle s_fresh s_then s_was s_acts s_tape s_taped s_cursor s_start s_token s_value s_fault s_faultAt s_latest s_isKept s_kept s_trace s_traced)) s.heap.size) := ⟨_, rfl⟩
  rw [← hQQ]
  have w_0 := hts (Cond.fieldLink RX9 44 "TideInchesModel" "thrown" "I") (List.mem_of_getElem? (i := 1) rfl)
  have w_1 := (fun w hw => List.mem_cons_of_mem _ (List.mem_append_right _ hw) : ∀ w ∈ wsX90, w ∈ wsX9_as)
  have w_2 := hts (Cond.constant RX9 64 (-1000001)) (List.mem_of_getElem? (i := 3) rfl)
  have w_3 := hts (Cond.constantLong RX9 242 (5)) (List.mem_of_getElem? (i := 2) rfl)
  have w_4 := hts (Cond.fieldLink RX9 48 "TideInchesModel" "status" "I") (List.mem_of_getElem? (i := 4) rfl)
  have w_5 := hts (Cond.fieldLink RX9 19 "TideInchesModel" "isle" "[I") (List.mem_of_getElem? (i := 5) rfl)
  have h := hf
  unfold fX9_as at h
  refine lv_aload_n hx hb dX9_as_0 rfl (lv_at hl 0 rfl) ?_
  refine lv_iconst (v := 0) hx hb dX9_as_1 (by decide) ?_
  refine va_put (D := (dC, dI)) (ci := 7) (v := .int 0) (ty := .int) (C := RX9) (T := TX9) (N := 23) hx hb hts w_1 tyX9 tyX9_ok nmX9 hown hK hP hD hS 0 rfl rfl 0 (by decide) w_0 (fun _ h9 => h9) rfl (by decide +kernel) rfl rfl (Nat.le_of_ble_eq_true rfl) dX9_as_2 (fun H locs hP hD hS => ?_)
  have hP : va_P (dC, dI) vwCl ((W_M cI cZ q_s q_s_lane q_s_many q_s_item q_s_isle q_s_fresh q_s_then q_s_was q_s_tape q_s_isKept q_s_kept q_s_trace 0 s_status s_lane s_many s_item s_isle s_fresh s_then s_was s_acts s_tape s_taped s_cursor s_start s_token s_value s_fault s_faultAt s_latest s_isKept s_kept s_trace s_traced)) H := hP
  have hD : va_D A ((W_M cI cZ q_s q_s_lane q_s_many q_s_item q_s_isle q_s_fresh q_s_then q_s_was q_s_tape q_s_isKept q_s_kept q_s_trace 0 s_status s_lane s_many s_item s_isle s_fresh s_then s_was s_acts s_tape s_taped s_cursor s_start s_token s_value s_fault s_faultAt s_latest s_isKept s_kept s_trace s_traced)) := hD
  refine lv_aload_n hx hb dX9_as_5 rfl (lv_at hl 0 rfl) ?_
  refine lv_iload_n hx hb dX9_as_6 rfl (lv_at hl 1 rfl) ?_
  obtain ⟨r_1, hc_1, h⟩ := bd1_of h
  refine cl_rV (As := [.int v1]) (rest := []) ⟨hx, hb, hml, hown, hts⟩ (m_X9_isBidder l dC dI cI cZ q_s q_s_lane q_s_many q_s_item q_s_isle q_s_fresh q_s_then q_s_was q_s_tape q_s_isKept q_s_kept q_s_trace 0 s_status s_lane s_many s_item s_isle s_fresh s_then s_was s_acts s_tape s_taped s_cursor s_start s_token s_value s_fault s_faultAt s_latest s_isKept s_kept s_trace s_traced v1 (r_1) hc_1) (cwV 1 hts gX9_as_X9_isBidder rfl rfl rfl ⟨rfl, ddX9_isBidder⟩ ⟨Nat.le_of_ble_eq_true rfl, Nat.le_of_ble_eq_true rfl⟩) hK hP [0, 1, 2, 3, 4, 5, 6, 7, 8, 9, 10, 11] rfl rfl rfl rfl rfl hl.1 (Nat.le_of_ble_eq_true rfl) ⟨Nat.zero_le _, Nat.zero_le _⟩ dX9_as_7 ?_
  refine lv_if_eq (tgt := 25) hx hb dX9_as_10 (by decide) (fun c_2 => ?_) (fun c_2 => ?_)
  · have h := (if_pos c_2).symm.trans h
    refine lv_ldc hx hb hown w_2 dX9_as_25 ?_
    have h := Option.some.inj h
    subst h
    rw [hQQ]
    subst hAe
    exact W.iret (v := (-1000001)) hx hb hr (fun t ht hW => ⟨⟨_, (), rfl, rfl, by rw [ht]; exact hP, va_K.moved hW.alike hK, hD⟩, hS.F ht⟩) hS.2.2 dX9_as_27
  · have h := (if_neg c_2).symm.trans h
    refine lv_iload_n hx hb dX9_as_13 rfl (lv_at hl 2 rfl) ?_
    refine lv_i2l hx hb dX9_as_14 rfl ?_
    refine lv_lconst (v := 0) hx hb dX9_as_15 (by decide) ?_
    refine lv_ldc2 hx hb hown w_3 dX9_as_16 ?_
    obtain ⟨r_3, hc_3, h⟩ := bd1_of h
    refine cl_pS (As := [.long v2.toInt64, .long 0, .long 5]) (rest := []) ⟨hx, hb, hml, hown, hts⟩ (m_X9_in l v2.toInt64 0 5 (r_3) hc_3) (va_cwS 3 hts gX9_as_X9_in rfl rfl rfl ddX9_in ⟨Nat.le_of_ble_eq_true rfl, Nat.le_of_ble_eq_true rfl⟩) rfl rfl hl.1 (Nat.le_of_ble_eq_true rfl) ⟨Nat.zero_le _, Nat.zero_le _⟩ dX9_as_19 ?_
    refine lv_if_ne (tgt := 28) hx hb dX9_as_22 (by decide) (fun c_4 => ?_) (fun c_4 => ?_)
    · have h := (if_neg c_4).symm.trans h
      refine lv_aload_n hx hb dX9_as_28 rfl (lv_at hl 0 rfl) ?_
      refine lv_iconst (v := 0) hx hb dX9_as_29 (by decide) ?_
      refine va_put (D := (dC, dI)) (ci := 7) (v := .int 0) (ty := .int) (C := RX9) (T := TX9) (N := 23) hx hb hts w_1 tyX9 tyX9_ok nmX9 hown hK hP hD hS 0 rfl rfl 1 (by decide) w_4 (fun _ h9 => h9) rfl (by decide +kernel) rfl rfl (Nat.le_of_ble_eq_true rfl) dX9_as_30 (fun H locs hP hD hS => ?_)
      have hP : va_P (dC, dI) vwCl ((W_M cI cZ q_s q_s_lane q_s_many q_s_item q_s_isle q_s_fresh q_s_then q_s_was q_s_tape q_s_isKept q_s_kept q_s_trace 0 0 s_lane s_many s_item s_isle s_fresh s_then s_was s_acts s_tape s_taped s_cursor s_start s_token s_value s_fault s_faultAt s_latest s_isKept s_kept s_trace s_traced)) H := hP
      have hD : va_D A ((W_M cI cZ q_s q_s_lane q_s_many q_s_item q_s_isle q_s_fresh q_s_then q_s_was q_s_tape q_s_isKept q_s_kept q_s_trace 0 0 s_lane s_many s_item s_isle s_fresh s_then s_was s_acts s_tape s_taped s_cursor s_start s_token s_value s_fault s_faultAt s_latest s_isKept s_kept s_trace s_traced)) := hD
      refine lv_aload_n hx hb dX9_as_33 rfl (lv_at hl 0 rfl) ?_
      refine va_get (D := (dC, dI)) (ci := 7) (v := .ref q_s_isle) (C := RX9) (T := TX9) (N := 23) hx hb hts w_1 hown hK hP 0 rfl rfl 5 (by decide) w_5 (fun _ h9 => h9) rfl dX9_as_34 ?_
      refine lv_iload_n hx hb dX9_as_37 rfl (lv_at hl 1 rfl) ?_
      refine lv_iconst (v := 0) hx hb dX9_as_38 (by decide) ?_
      obtain ⟨r_5, hc_5, h⟩ := bd1_of h
      refine cl_rS (As := [.ref q_s_isle, .int v1, .int 0]) (rest := []) ⟨hx, hb, hml, hown, hts⟩ (m_X9_of l dC dI cI cZ q_s_isle s_isle v1 0 (r_5) hc_5) (va_cwS 3 hts gX9_as_X9_of rfl rfl rfl ddX9_of ⟨Nat.le_of_ble_eq_true rfl, Nat.le_of_ble_eq_true rfl⟩) hK hP [4] rfl rfl rfl hl.1 (Nat.le_of_ble_eq_true rfl) ⟨Nat.zero_le _, Nat.zero_le _⟩ dX9_as_39 ?_
      refine lv_iload_n hx hb dX9_as_42 rfl (lv_at hl 2 rfl) ?_
      obtain ⟨r_6, hc_6, h⟩ := bd1_of h
      refine cl_pS (As := [.int r_5, .int v2]) (rest := []) ⟨hx, hb, hml, hown, hts⟩ (m_X9_isOf l r_5 v2 (r_6) hc_6) (va_cwS 2 hts gX9_as_X9_isOf rfl rfl rfl ddX9_isOf ⟨Nat.le_of_ble_eq_true rfl, Nat.le_of_ble_eq_true rfl⟩) rfl rfl hl.1 (Nat.le_of_ble_eq_true rfl) ⟨Nat.zero_le _, Nat.zero_le _⟩ dX9_as_43 ?_
      refine lv_if_eq (tgt := 53) hx hb dX9_as_46 (by decide) (fun c_7 => ?_) (fun c_7 => ?_)
      · have h := (if_pos c_7).symm.trans h
        refine lv_aload_n hx hb dX9_as_53 rfl (lv_at hl 0 rfl) ?_
        refine lv_iconst (v := 3) hx hb dX9_as_54 (by decide) ?_
        obtain ⟨r_8, s_status_8, hc_8, h⟩ := bd2_of h
        refine cl_mVi (As := [.int 3]) (rest := []) (ws' := (W_M cI cZ q_s q_s_lane q_s_many q_s_item q_s_isle q_s_fresh q_s_then q_s_was q_s_tape q_s_isKept q_s_kept q_s_trace 0 s_status_8 s_lane s_many s_item s_isle s_fresh s_then s_was s_acts s_tape s_taped s_cursor s_start s_token s_value s_fault s_faultAt s_latest s_isKept s_kept s_trace s_traced)) (wr := []) ⟨hx, hb, hml, hown, hts⟩ (m_X9_finding l dC dI cI cZ q_s q_s_lane q_s_many q_s_item q_s_isle q_s_fresh q_s_then q_s_was q_s_tape q_s_isKept q_s_kept q_s_trace 0 0 s_lane s_many s_item s_isle s_fresh s_then s_was s_acts s_tape s_taped s_cursor s_start s_token s_value s_fault s_faultAt s_latest s_isKept s_kept s_trace s_traced 3 _ (r_8, s_status_8) hc_8) (cwV 1 hts gX9_as_X9_finding rfl rfl rfl ⟨rfl, ddX9_finding⟩ ⟨Nat.le_of_ble_eq_true rfl, Nat.le_of_ble_eq_true rfl⟩) hK hP hD hS hA [0, 1, 2, 3, 4, 5, 6, 7, 8, 9, 10, 11] [] rfl rfl rfl rfl (by decide) [0, 1, 2, 3, 4, 5, 6, 7, 8, 9, 10, 11] rfl rfl rfl rfl rfl rfl rfl hl.1 (Nat.le_of_ble_eq_true rfl) ⟨Nat.zero_le _, Nat.zero_le _⟩ dX9_as_55 (fun H locs hP hD hS => ?_)
        have h := Option.some.inj h
        subst h
        rw [hQQ]
        subst hAe
        exact W.iret (v := r_8) hx hb hr (fun t ht hW => ⟨⟨_, (), rfl, rfl, by rw [ht]; exact hP, va_K.moved hW.alike hK, hD⟩, hS.F ht⟩) hS.2.2 dX9_as_58
      · have h := (if_neg c_7).symm.trans h
        refine lv_iload_n hx hb dX9_as_49 rfl (lv_at hl 1 rfl) ?_
        refine lv_goto (tgt := 58) hx hb dX9_as_50 (by decide) ?_
        have h := Option.some.inj h
        subst h
        rw [hQQ]
        subst hAe
        exact W.iret (v := v1) hx hb hr (fun t ht hW => ⟨⟨_, (), rfl, rfl, by rw [ht]; exact hP, va_K.moved hW.alike hK, hD⟩, hS.F ht⟩) hS.2.2 dX9_as_58
    · have h := (if_pos c_4).symm.trans h
      refine lv_ldc hx hb hown w_2 dX9_as_25 ?_
      have h := Option.some.inj h
      subst h
      rw [hQQ]
      subst hAe
      exact W.iret (v := (-1000001)) hx hb hr (fun t ht hW => ⟨⟨_, (), rfl, rfl, by rw [ht]; exact hP, va_K.moved hW.alike hK, hD⟩, hS.F ht⟩) hS.2.2 dX9_as_27
def fX9_began (s_trace : (Nat → Int32)) (s_traced : Int32) (v1 : Int32) : Option ((Nat → Int32) × Int32) :=
  (if 16 ≤ s_traced then some (s_trace, s_traced) else chk (¬ (s_traced < 0 ∨ 16 ≤ s_traced.toNatClampNeg)) (some ((upd s_trace s_traced.toNatClampNeg v1), (s_traced + 1))))
abbrev rmX9_began : Room := { frames := 0, cells := 0, slots := 0, locals := 0 }
theorem ddX9_began : yX9_began.cls ≠ "java/lang/invoke/MethodHandle" ∧ yX9_began.cls ≠ "java/lang/invoke/VarHandle" ∧ (parseMethodDescriptor yX9_began.desc).map (fun d => d.parameters.length) = some 1 := by decide +kernel
set_option maxHeartbeats 4000000 in
set_option maxRecDepth 100000 in
theorem m_X9_began (l : Launch) (dC : Nat → ClassId) (dI : Nat → Nat → Nat) (cI cZ : ClassId) (q_s q_s_lane q_s_many q_s_item q_s_isle q_s_fresh q_s_then q_s_was q_s_tape q_s_isKept q_s_kept q_s_trace : Nat) (s_thrown : Int32) (s_status : Int32) (s_lane : (Nat → Int32)) (s_many : (Nat → Int32)) (s_item : (Nat → Int32)) (s_isle : (Nat → Int32)) (s_fresh : (Nat → Int32)) (s_then : (Nat → Int32)) (s_was : (Nat → Int32)) (s_acts : Int32) (s_tape : (Nat → Int32)) (s_taped : Int32) (s_cursor : Int32) (s_start : Int32) (s_token : Int32) (s_value : Int32) (s_fault : Int32) (s_faultAt : Int32) (s_latest : Int32) (s_isKept : (Nat → Int32)) (s_kept : (Nat → Int32)) (s_trace : (Nat → Int32)) (s_traced : Int32) (v1 : Int32) (sz : Nat) (res : (Nat → Int32) × Int32) (hf : fX9_began s_trace s_traced v1 = some res) : Met l yX9_began wsX9_began rmX9_began (mtPc (dC, dI) (tyZ cI cZ) ((W_M cI cZ q_s q_s_lane q_s_many q_s_item q_s_isle q_s_fresh q_s_then q_s_was q_s_tape q_s_isKept q_s_kept q_s_trace s_thrown s_status s_lane s_many s_item s_isle s_fresh s_then s_was s_acts s_tape s_taped s_cursor s_start s_token s_value s_fault s_faultAt s_latest s_isKept s_kept s_trace s_traced)) [.ref q_s, .int v1] sz) (mtQv (dC, dI) (tyZ cI cZ) ((W_M cI cZ q_s q_s_lane q_s_many q_s_item q_s_isle q_s_fresh q_s_then q_s_was q_s_tape q_s_isKept q_s_kept q_s_trace s_thrown s_status s_lane s_many s_item s_isle s_fresh s_then s_was s_acts s_tape s_taped s_cursor s_start s_token s_value s_fault s_faultAt s_latest s_isKept s_kept s_trace s_traced)) ((W_M cI cZ q_s q_s_lane q_s_many q_s_item q_s_isle q_s_fresh q_s_then q_s_was q_s_tape q_s_isKept q_s_kept q_s_trace s_thrown s_status s_lane s_many s_item s_isle s_fresh s_then s_was s_acts s_tape s_taped s_cursor s_start s_token s_value s_fault s_faultAt s_latest s_isKept s_kept res.1 res.2)) sz) 0 0 (va_A ((W_M cI cZ q_s q_s_lane q_s_many q_s_item q_s_isle q_s_fresh q_s_then q_s_was q_s_tape q_s_isKept q_s_kept q_s_trace s_thrown s_status s_lane s_many s_item s_isle s_fresh s_then s_was s_acts s_tape s_taped s_cursor s_start s_token s_value s_fault s_faultAt s_latest s_isKept s_kept s_trace s_traced)) sz) := by
  refine Met.ofW (cc := cX9_began) (maxL := 2) (ret := none) (by decide) rfl ?_
  intro p e s m args below meth c s₁ B hml hv
  obtain ⟨rfl, hsz, hP, hK, hD0⟩ := hv
  have hx := B.exec
  have hb := B.bytes
  have hr := B.returns
  have hts := atoms_spec (ws := wsX9_began) B.pre
  have hown : s.vm.findClass RX9 = some m.cls := findClass_of_methodNamed B.named
  have hlocks := B.notSynchronized
  subst hsz
  have hD := hD0.self (sz := s.heap.size)
  obtain ⟨A, hAe⟩ : ∃ A, A = va_A ((W_M cI cZ q_s q_s_lane q_s_many q_s_item q_s_isle q_s_fresh q_s_then q_s_was q_s_tape q_s_isKept q_s_kept q_s_trace s_thrown s_status s_lane s_many s_item s_isle s_fresh s_then s_was s_acts s_tape s_taped s_cursor s_start s_token s_value s_fault s_faultAt s_latest s_isKept s_kept s_trace s_traced)) s.heap.size := ⟨_, rfl⟩
  rw [← hAe] at hD
  have hA : ∀ q : Nat, s.heap.size ≤ q → A q := fun q h => by rw [hAe]; exact Or.inr h
  have hS : va_S A s.heap s.heap [] := va_S.rf
  have hl := lv_entry ([.ref q_s, .int v1]) (n := 2) (Nat.le_of_ble_eq_true rfl)
  rw [lg_entry_eq]
  generalize (lg_sl ([.ref q_s, .int v1]) ++ List.replicate (2 - (lg_sl ([.ref q_s, .int v1])).length) Slot.unset).toArray = ls at hl ⊢
  have hl : lv_has ls 2 [(0, .ref q_s), (1, .int v1)] := hl
  obtain ⟨QQ, hQQ⟩ : ∃ Q, Q = MQ below (mtQv (dC, dI) (tyZ cI cZ) ((W_M cI cZ q_s q_s_lane q_s_many q_s_item q_s_isle q_s_fresh q_s_then q_s_was q_s_tape q_s_isKept q_s_kept q_s_trace s_thrown s_status s_lane s_many s_item s_isle s_fresh s_then s_was s_acts s_tape s_taped s_cursor s_start s_token s_value s_fault s_faultAt s_latest s_isKept s_kept s_trace s_traced)) ((W_M cI cZ q_s q_s_lane q_s_many q_s_item q_s_isle q_s_fresh q_s_then q_s_was q_s_tape q_s_isKept q_s_kept q_s_trace s_thrown s_status s_lane s_many s_item s_isle s_fresh s_then s_was s_acts s_tape s_taped s_cursor s_start s_token s_value s_fault s_faultAt s_latest s_isKept s_kept res.1 res.2)) s.heap.size) ([.ref q_s, .int v1] : List Value).toArray s 0 0 (va_A ((W_M cI cZ q_s q_s_lane q_s_many q_s_item q_s_isle q_s_fresh q_s_then q_s_was q_s_tape q_s_isKept q_s_kept q_s_trace s_thrown s_status s_lane s_many s_item s_isle s_fresh s_then s_was s_acts s_tape s_taped s_cursor s_start s_token s_value s_fault s_faultAt s_latest s_isKept s_kept s_trace s_traced)) s.heap.size) := ⟨_, rfl⟩
  rw [← hQQ]
  have w_0 := hts (Cond.fieldLink RX9 248 "TideInchesModel" "traced" "I") (List.mem_of_getElem? (i := 1) rfl)
  have w_1 := (fun w hw => List.mem_cons_of_mem _ (List.mem_append_right _ hw) : ∀ w ∈ wsX90, w ∈ wsX9_began)
  have w_2 := hts (Cond.fieldLink RX9 41 "TideInchesModel" "trace" "[I") (List.mem_of_getElem? (i := 2) rfl)
  have h := hf
  unfold fX9_began at h
  refine lv_aload_n hx hb dX9_began_0 rfl (lv_at hl 0 rfl) ?_
  refine va_get (D := (dC, dI)) (ci := 7) (v := .int s_traced) (C := RX9) (T := TX9) (N := 23) hx hb hts w_1 hown hK hP 0 rfl rfl 22 (by decide) w_0 (fun _ h9 => h9) rfl dX9_began_1 ?_
  refine lv_bipush (v := 16) hx hb dX9_began_4 (by decide) ?_
  refine lv_icmp_ge (tgt := 29) hx hb dX9_began_6 (by decide) (fun c_1 => ?_) (fun c_1 => ?_)
  · have h := (if_pos c_1).symm.trans h
    have h := Option.some.inj h
    subst h
    rw [hQQ]
    subst hAe
    exact W.vret hx hb hr (fun t ht hW => ⟨⟨(), rfl, trivial, by rw [ht]; exact hP, va_K.moved hW.alike hK, hD⟩, hS.F ht⟩) hS.2.2 dX9_began_29
  · have h := (if_neg c_1).symm.trans h
    refine lv_aload_n hx hb dX9_began_9 rfl (lv_at hl 0 rfl) ?_
    refine va_get (D := (dC, dI)) (ci := 7) (v := .ref q_s_trace) (C := RX9) (T := TX9) (N := 23) hx hb hts w_1 hown hK hP 0 rfl rfl 21 (by decide) w_2 (fun _ h9 => h9) rfl dX9_began_10 ?_
    refine lv_aload_n hx hb dX9_began_13 rfl (lv_at hl 0 rfl) ?_
    refine va_get (D := (dC, dI)) (ci := 7) (v := .int s_traced) (C := RX9) (T := TX9) (N := 23) hx hb hts w_1 hown hK hP 0 rfl rfl 22 (by decide) w_0 (fun _ h9 => h9) rfl dX9_began_14 ?_
    refine lv_iload_n hx hb dX9_began_17 rfl (lv_at hl 1 rfl) ?_
    obtain ⟨b_2, h⟩ := chk_of h
    refine va_iast hx hb hK hP hD hS 11 0 rfl rfl (i := s_traced) (x := v1) b_2 dX9_began_18 (fun H locs hP hD hS => ?_)
    have hP : va_P (dC, dI) vwCl ((W_M cI cZ q_s q_s_lane q_s_many q_s_item q_s_isle q_s_fresh q_s_then q_s_was q_s_tape q_s_isKept q_s_kept q_s_trace s_thrown s_status s_lane s_many s_item s_isle s_fresh s_then s_was s_acts s_tape s_taped s_cursor s_start s_token s_value s_fault s_faultAt s_latest s_isKept s_kept (upd s_trace s_traced.toNatClampNeg v1) s_traced)) H := hP
    have hD : va_D A ((W_M cI cZ q_s q_s_lane q_s_many q_s_item q_s_isle q_s_fresh q_s_then q_s_was q_s_tape q_s_isKept q_s_kept q_s_trace s_thrown s_status s_lane s_many s_item s_isle s_fresh s_then s_was s_acts s_tape s_taped s_cursor s_start s_token s_value s_fault s_faultAt s_latest s_isKept s_kept (upd s_trace s_traced.toNatClampNeg v1) s_traced)) := hD
    refine lv_aload_n hx hb dX9_began_19 rfl (lv_at hl 0 rfl) ?_
    refine lv_dup hx hb dX9_began_20 rfl ?_
    refine va_get (D := (dC, dI)) (ci := 7) (v := .int s_traced) (C := RX9) (T := TX9) (N := 23) hx hb hts w_1 hown hK hP 0 rfl rfl 22 (by decide) w_0 (fun _ h9 => h9) rfl dX9_began_21 ?_
    refine lv_iconst (v := 1) hx hb dX9_began_24 (by decide) ?_
    refine lv_iadd hx hb dX9_began_25 ?_
    refine va_put (D := (dC, dI)) (ci := 7) (v := .int (s_traced + 1)) (ty := .int) (C := RX9) (T := TX9) (N := 23) hx hb hts w_1 tyX9 tyX9_ok nmX9 hown hK hP hD hS 0 rfl rfl 22 (by decide) w_0 (fun _ h9 => h9) rfl (by decide +kernel) rfl rfl (Nat.le_of_ble_eq_true rfl) dX9_began_26 (fun H locs hP hD hS => ?_)
    have hP : va_P (dC, dI) vwCl ((W_M cI cZ q_s q_s_lane q_s_many q_s_item q_s_isle q_s_fresh q_s_then q_s_was q_s_tape q_s_isKept q_s_kept q_s_trace s_thrown s_status s_lane s_many s_item s_isle s_fresh s_then s_was s_acts s_tape s_taped s_cursor s_start s_token s_value s_fault s_faultAt s_latest s_isKept s_kept (upd s_trace s_traced.toNatClampNeg v1) (s_traced + 1))) H := hP
    have hD : va_D A ((W_M cI cZ q_s q_s_lane q_s_many q_s_item q_s_isle q_s_fresh q_s_then q_s_was q_s_tape q_s_isKept q_s_kept q_s_trace s_thrown s_status s_lane s_many s_item s_isle s_fresh s_then s_was s_acts s_tape s_taped s_cursor s_start s_token s_value s_fault s_faultAt s_latest s_isKept s_kept (upd s_trace s_traced.toNatClampNeg v1) (s_traced + 1))) := hD
    have h := Option.some.inj h
    subst h
    rw [hQQ]
    subst hAe
    exact W.vret hx hb hr (fun t ht hW => ⟨⟨(), rfl, trivial, by rw [ht]; exact hP, va_K.moved hW.alike hK, hD⟩, hS.F ht⟩) hS.2.2 dX9_began_29
def fX9_plainSize (s_isle : (Nat → Int32)) (s_trace : (Nat → Int32)) (s_traced : Int32) (v1 : Int32) : Option (Int32 × (Nat → Int32) × Int32) :=
  bd2 (fX9_began s_trace s_traced 10) (fun s_trace_1 s_traced_1 => bd1 (fX9_of s_isle v1 1) (fun r_2 => some (r_2, s_trace_1, s_traced_1)))
abbrev rmX9_plainSize : Room := { frames := 1, cells := 0, slots := 0, locals := 22 }
theorem ddX9_plainSize : yX9_plainSize.cls ≠ "java/lang/invoke/MethodHandle" ∧ yX9_plainSize.cls ≠ "java/lang/invoke/VarHandle" ∧ (parseMethodDescriptor yX9_plainSize.desc).map (fun d => d.parameters.length) = some 1 := by decide +kernel
set_option maxHeartbeats 4000000 in
set_option maxRecDepth 100000 in
theorem m_X9_plainSize (l : Launch) (dC : Nat → ClassId) (dI : Nat → Nat → Nat) (cI cZ : ClassId) (q_s q_s_lane q_s_many q_s_item q_s_isle q_s_fresh q_s_then q_s_was q_s_tape q_s_isKept q_s_kept q_s_trace : Nat) (s_thrown : Int32) (s_status : Int32) (s_lane : (Nat → Int32)) (s_many : (Nat → Int32)) (s_item : (Nat → Int32)) (s_isle : (Nat → Int32)) (s_fresh : (Nat → Int32)) (s_then : (Nat → Int32)) (s_was : (Nat → Int32)) (s_acts : Int32) (s_tape : (Nat → Int32)) (s_taped : Int32) (s_cursor : Int32) (s_start : Int32) (s_token : Int32) (s_value : Int32) (s_fault : Int32) (s_faultAt : Int32) (s_latest : Int32) (s_isKept : (Nat → Int32)) (s_kept : (Nat → Int32)) (s_trace : (Nat → Int32)) (s_traced : Int32) (v1 : Int32) (sz : Nat) (res : Int32 × (Nat → Int32) × Int32) (hf : fX9_plainSize s_isle s_trace s_traced v1 = some res) : Met l yX9_plainSize wsX9_plainSize rmX9_plainSize (mtPc (dC, dI) (tyZ cI cZ) ((W_M cI cZ q_s q_s_lane q_s_many q_s_item q_s_isle q_s_fresh q_s_then q_s_was q_s_tape q_s_isKept q_s_kept q_s_trace s_thrown s_status s_lane s_many s_item s_isle s_fresh s_then s_was s_acts s_tape s_taped s_cursor s_start s_token s_value s_fault s_faultAt s_latest s_isKept s_kept s_trace s_traced)) [.ref q_s, .int v1] sz) (mtQi (dC, dI) (tyZ cI cZ) ((W_M cI cZ q_s q_s_lane q_s_many q_s_item q_s_isle q_s_fresh q_s_then q_s_was q_s_tape q_s_isKept q_s_kept q_s_trace s_thrown s_status s_lane s_many s_item s_isle s_fresh s_then s_was s_acts s_tape s_taped s_cursor s_start s_token s_value s_fault s_faultAt s_latest s_isKept s_kept s_trace s_traced)) ((W_M cI cZ q_s q_s_lane q_s_many q_s_item q_s_isle q_s_fresh q_s_then q_s_was q_s_tape q_s_isKept q_s_kept q_s_trace s_thrown s_status s_lane s_many s_item s_isle s_fresh s_then s_was s_acts s_tape s_taped s_cursor s_start s_token s_value s_fault s_faultAt s_latest s_isKept s_kept res.2.1 res.2.2)) res.1 sz) 0 0 (va_A ((W_M cI cZ q_s q_s_lane q_s_many q_s_item q_s_isle q_s_fresh q_s_then q_s_was q_s_tape q_s_isKept q_s_kept q_s_trace s_thrown s_status s_lane s_many s_item s_isle s_fresh s_then s_was s_acts s_tape s_taped s_cursor s_start s_token s_value s_fault s_faultAt s_latest s_isKept s_kept s_trace s_traced)) sz) := by
  refine Met.ofW (cc := cX9_plainSize) (maxL := 2) (ret := (some .int)) (by decide) rfl ?_
  intro p e s m args below meth c s₁ B hml hv
  obtain ⟨rfl, hsz, hP, hK, hD0⟩ := hv
  have hx := B.exec
  have hb := B.bytes
  have hr := B.returns
  have hts := atoms_spec (ws := wsX9_plainSize) B.pre
  have hown : s.vm.findClass RX9 = some m.cls := findClass_of_methodNamed B.named
  have hlocks := B.notSynchronized
  subst hsz
  have hD := hD0.self (sz := s.heap.size)
  obtain ⟨A, hAe⟩ : ∃ A, A = va_A ((W_M cI cZ q_s q_s_lane q_s_many q_s_item q_s_isle q_s_fresh q_s_then q_s_was q_s_tape q_s_isKept q_s_kept q_s_trace s_thrown s_status s_lane s_many s_item s_isle s_fresh s_then s_was s_acts s_tape s_taped s_cursor s_start s_token s_value s_fault s_faultAt s_latest s_isKept s_kept s_trace s_traced)) s.heap.size := ⟨_, rfl⟩
  rw [← hAe] at hD
  have hA : ∀ q : Nat, s.heap.size ≤ q → A q := fun q h => by rw [hAe]; exact Or.inr h
  have hS : va_S A s.heap s.heap [] := va_S.rf
  have hl := lv_entry ([.ref q_s, .int v1]) (n := 2) (Nat.le_of_ble_eq_true rfl)
  rw [lg_entry_eq]
  generalize (lg_sl ([.ref q_s, .int v1]) ++ List.replicate (2 - (lg_sl ([.ref q_s, .int v1])).length) Slot.unset).toArray = ls at hl ⊢
  have hl : lv_has ls 2 [(0, .ref q_s), (1, .int v1)] := hl
  obtain ⟨QQ, hQQ⟩ : ∃ Q, Q = MQ below (mtQi (dC, dI) (tyZ cI cZ) ((W_M cI cZ q_s q_s_lane q_s_many q_s_item q_s_isle q_s_fresh q_s_then q_s_was q_s_tape q_s_isKept q_s_kept q_s_trace s_thrown s_status s_lane s_many s_item s_isle s_fresh s_then s_was s_acts s_tape s_taped s_cursor s_start s_token s_value s_fault s_faultAt s_latest s_isKept s_kept s_trace s_traced)) ((W_M cI cZ q_s q_s_lane q_s_many q_s_item q_s_isle q_s_fresh q_s_then q_s_was q_s_tape q_s_isKept q_s_kept q_s_trace s_thrown s_status s_lane s_many s_item s_isle s_fresh s_then s_was s_acts s_tape s_taped s_cursor s_start s_token s_value s_fault s_faultAt s_latest s_isKept s_kept res.2.1 res.2.2)) res.1 s.heap.size) ([.ref q_s, .int v1] : List Value).toArray s 0 0 (va_A ((W_M cI cZ q_s q_s_lane q_s_many q_s_item q_s_isle q_s_fresh q_s_then q_s_was q_s_tape q_s_isKept q_s_kept q_s_trace s_thrown s_status s_lane s_many s_item s_isle s_fresh s_then s_was s_acts s_tape s_taped s_cursor s_start s_token s_value s_fault s_faultAt s_latest s_isKept s_kept s_trace s_traced)) s.heap.size) := ⟨_, rfl⟩
  rw [← hQQ]
  have w_0 := hts (Cond.fieldLink RX9 19 "TideInchesModel" "isle" "[I") (List.mem_of_getElem? (i := 1) rfl)
  have w_1 := (fun w hw => List.mem_cons_of_mem _ (List.mem_append_right _ hw) : ∀ w ∈ wsX90, w ∈ wsX9_plainSize)
  have h := hf
  unfold fX9_plainSize at h
  refine lv_aload_n hx hb dX9_plainSize_0 rfl (lv_at hl 0 rfl) ?_
  refine lv_bipush (v := 10) hx hb dX9_plainSize_1 (by decide) ?_
  obtain ⟨s_trace_1, s_traced_1, hc_1, h⟩ := bd2_of h
  refine cl_mVv (As := [.int 10]) (rest := []) (ws' := (W_M cI cZ q_s q_s_lane q_s_many q_s_item q_s_isle q_s_fresh q_s_then q_s_was q_s_tape q_s_isKept q_s_kept q_s_trace s_thrown s_status s_lane s_many s_item s_isle s_fresh s_then s_was s_acts s_tape s_taped s_cursor s_start s_token s_value s_fault s_faultAt s_latest s_isKept s_kept s_trace_1 s_traced_1)) (wr := []) ⟨hx, hb, hml, hown, hts⟩ (m_X9_began l dC dI cI cZ q_s q_s_lane q_s_many q_s_item q_s_isle q_s_fresh q_s_then q_s_was q_s_tape q_s_isKept q_s_kept q_s_trace s_thrown s_status s_lane s_many s_item s_isle s_fresh s_then s_was s_acts s_tape s_taped s_cursor s_start s_token s_value s_fault s_faultAt s_latest s_isKept s_kept s_trace s_traced 10 _ (s_trace_1, s_traced_1) hc_1) (cwV 1 hts gX9_plainSize_X9_began rfl rfl rfl ⟨rfl, ddX9_began⟩ ⟨Nat.le_of_ble_eq_true rfl, Nat.le_of_ble_eq_true rfl⟩) hK hP hD hS hA [0, 1, 2, 3, 4, 5, 6, 7, 8, 9, 10, 11] [] rfl rfl rfl rfl (by decide) [0, 1, 2, 3, 4, 5, 6, 7, 8, 9, 10, 11] rfl rfl rfl rfl rfl rfl rfl hl.1 (Nat.le_of_ble_eq_true rfl) ⟨Nat.zero_le _, Nat.zero_le _⟩ dX9_plainSize_3 (fun H locs hP hD hS => ?_)
  refine lv_aload_n hx hb dX9_plainSize_6 rfl (lv_at hl 0 rfl) ?_
  refine va_get (D := (dC, dI)) (ci := 7) (v := .ref q_s_isle) (C := RX9) (T := TX9) (N := 23) hx hb hts w_1 hown hK hP 0 rfl rfl 5 (by decide) w_0 (fun _ h9 => h9) rfl dX9_plainSize_7 ?_
  refine lv_iload_n hx hb dX9_plainSize_10 rfl (lv_at hl 1 rfl) ?_
  refine lv_iconst (v := 1) hx hb dX9_plainSize_11 (by decide) ?_
  obtain ⟨r_2, hc_2, h⟩ := bd1_of h
  refine cl_rS (As := [.ref q_s_isle, .int v1, .int 1]) (rest := []) ⟨hx, hb, hml, hown, hts⟩ (m_X9_of l dC dI cI cZ q_s_isle s_isle v1 1 (r_2) hc_2) (va_cwS 3 hts gX9_plainSize_X9_of rfl rfl rfl ddX9_of ⟨Nat.le_of_ble_eq_true rfl, Nat.le_of_ble_eq_true rfl⟩) hK hP [4] rfl rfl rfl hl.1 (Nat.le_of_ble_eq_true rfl) ⟨Nat.zero_le _, Nat.zero_le _⟩ dX9_plainSize_12 ?_
  have h := Option.some.inj h
  subst h
  rw [hQQ]
  subst hAe
  exact W.iret (v := r_2) hx hb hr (fun t ht hW => ⟨⟨_, (), rfl, rfl, by rw [ht]; exact hP, va_K.moved hW.alike hK, hD⟩, hS.F ht⟩) hS.2.2 dX9_plainSize_15
def fX9_goatSize_J29 (s_isle : (Nat → Int32)) (v1 : Int32) (w0_j18 : Int32) (s_trace_j29 : (Nat → Int32)) (s_traced_j29 : Int32) : Option (Int32 × (Nat → Int32) × Int32) :=
  bd2 (fX9_began s_trace_j29 s_traced_j29 13) (fun s_trace_2 s_traced_2 => bd3 (fX9_plainSize s_isle s_trace_2 s_traced_2 v1) (fun r_3 s_trace_3 s_traced_3 => (if w0_j18 = 0 then some ((r_3 - 100), s_trace_3, s_traced_3) else some ((2 * (r_3 - 100)), s_trace_3, s_traced_3))))
def fX9_goatSize_J18 (s_isle : (Nat → Int32)) (s_trace : (Nat → Int32)) (s_traced : Int32) (v1 : Int32) (w0_j18 : Int32) : Option (Int32 × (Nat → Int32) × Int32) :=
  (if w0_j18 = 0 then (fX9_goatSize_J29 s_isle v1 w0_j18 s_trace s_traced) else bd2 (fX9_began s_trace s_traced 14) (fun s_trace_6 s_traced_6 => (fX9_goatSize_J29 s_isle v1 w0_j18 s_trace_6 s_traced_6)))
def fX9_goatSize (s_isle : (Nat → Int32)) (s_trace : (Nat → Int32)) (s_traced : Int32) (v1 : Int32) : Option (Int32 × (Nat → Int32) × Int32) :=
  bd1 (fX9_of s_isle v1 0) (fun r_1 => (if r_1 = 5 then (fX9_goatSize_J18 s_isle s_trace s_traced v1 1) else (fX9_goatSize_J18 s_isle s_trace s_traced v1 0)))
abbrev rmX9_goatSize : Room := { frames := 2, cells := 0, slots := 0, locals := 43 }
theorem ddX9_goatSize : yX9_goatSize.cls ≠ "java/lang/invoke/MethodHandle" ∧ yX9_goatSize.cls ≠ "java/lang/invoke/VarHandle" ∧ (parseMethodDescriptor yX9_goatSize.desc).map (fun d => d.parameters.length) = some 1 := by decide +kernel
set_option maxHeartbeats 4000000 in
set_option maxRecDepth 100000 in
theorem m_X9_goatSize (l : Launch) (dC : Nat → ClassId) (dI : Nat → Nat → Nat) (cI cZ : ClassId) (q_s q_s_lane q_s_many q_s_item q_s_isle q_s_fresh q_s_then q_s_was q_s_tape q_s_isKept q_s_kept q_s_trace : Nat) (s_thrown : Int32) (s_status : Int32) (s_lane : (Nat → Int32)) (s_many : (Nat → Int32)) (s_item : (Nat → Int32)) (s_isle : (Nat → Int32)) (s_fresh : (Nat → Int32)) (s_then : (Nat → Int32)) (s_was : (Nat → Int32)) (s_acts : Int32) (s_tape : (Nat → Int32)) (s_taped : Int32) (s_cursor : Int32) (s_start : Int32) (s_token : Int32) (s_value : Int32) (s_fault : Int32) (s_faultAt : Int32) (s_latest : Int32) (s_isKept : (Nat → Int32)) (s_kept : (Nat → Int32)) (s_trace : (Nat → Int32)) (s_traced : Int32) (v1 : Int32) (sz : Nat) (res : Int32 × (Nat → Int32) × Int32) (hf : fX9_goatSize s_isle s_trace s_traced v1 = some res) : Met l yX9_goatSize wsX9_goatSize rmX9_goatSize (mtPc (dC, dI) (tyZ cI cZ) ((W_M cI cZ q_s q_s_lane q_s_many q_s_item q_s_isle q_s_fresh q_s_then q_s_was q_s_tape q_s_isKept q_s_kept q_s_trace s_thrown s_status s_lane s_many s_item s_isle s_fresh s_then s_was s_acts s_tape s_taped s_cursor s_start s_token s_value s_fault s_faultAt s_latest s_isKept s_kept s_trace s_traced)) [.ref q_s, .int v1] sz) (mtQi (dC, dI) (tyZ cI cZ) ((W_M cI cZ q_s q_s_lane q_s_many q_s_item q_s_isle q_s_fresh q_s_then q_s_was q_s_tape q_s_isKept q_s_kept q_s_trace s_thrown s_status s_lane s_many s_item s_isle s_fresh s_then s_was s_acts s_tape s_taped s_cursor s_start s_token s_value s_fault s_faultAt s_latest s_isKept s_kept s_trace s_traced)) ((W_M cI cZ q_s q_s_lane q_s_many q_s_item q_s_isle q_s_fresh q_s_then q_s_was q_s_tape q_s_isKept q_s_kept q_s_trace s_thrown s_status s_lane s_many s_item s_isle s_fresh s_then s_was s_acts s_tape s_taped s_cursor s_start s_token s_value s_fault s_faultAt s_latest s_isKept s_kept res.2.1 res.2.2)) res.1 sz) 0 0 (va_A ((W_M cI cZ q_s q_s_lane q_s_many q_s_item q_s_isle q_s_fresh q_s_then q_s_was q_s_tape q_s_isKept q_s_kept q_s_trace s_thrown s_status s_lane s_many s_item s_isle s_fresh s_then s_was s_acts s_tape s_taped s_cursor s_start s_token s_value s_fault s_faultAt s_latest s_isKept s_kept s_trace s_traced)) sz) := by
  refine Met.ofW (cc := cX9_goatSize) (maxL := 4) (ret := (some .int)) (by decide) rfl ?_
  intro p e s m args below meth c s₁ B hml hv
  obtain ⟨rfl, hsz, hP, hK, hD0⟩ := hv
  have hx := B.exec
  have hb := B.bytes
  have hr := B.returns
  have hts := atoms_spec (ws := wsX9_goatSize) B.pre
  have hown : s.vm.findClass RX9 = some m.cls := findClass_of_methodNamed B.named
  have hlocks := B.notSynchronized
  subst hsz
  have hD := hD0.self (sz := s.heap.size)
  obtain ⟨A, hAe⟩ : ∃ A, A = va_A ((W_M cI cZ q_s q_s_lane q_s_many q_s_item q_s_isle q_s_fresh q_s_then q_s_was q_s_tape q_s_isKept q_s_kept q_s_trace s_thrown s_status s_lane s_many s_item s_isle s_fresh s_then s_was s_acts s_tape s_taped s_cursor s_start s_token s_value s_fault s_faultAt s_latest s_isKept s_kept s_trace s_traced)) s.heap.size := ⟨_, rfl⟩
  rw [← hAe] at hD
  have hA : ∀ q : Nat, s.heap.size ≤ q → A q := fun q h => by rw [hAe]; exact Or.inr h
  have hS : va_S A s.heap s.heap [] := va_S.rf
  have hl := lv_entry ([.ref q_s, .int v1]) (n := 4) (Nat.le_of_ble_eq_true rfl)
  rw [lg_entry_eq]
  generalize (lg_sl ([.ref q_s, .int v1]) ++ List.replicate (4 - (lg_sl ([.ref q_s, .int v1])).length) Slot.unset).toArray = ls at hl ⊢
  have hl : lv_has ls 4 [(0, .ref q_s), (1, .int v1)] := hl
  obtain ⟨QQ, hQQ⟩ : ∃ Q, Q = MQ below (mtQi (dC, dI) (tyZ cI cZ) ((W_M cI cZ q_s q_s_lane q_s_many q_s_item q_s_isle q_s_fresh q_s_then q_s_was q_s_tape q_s_isKept q_s_kept q_s_trace s_thrown s_status s_lane s_many s_item s_isle s_fresh s_then s_was s_acts s_tape s_taped s_cursor s_start s_token s_value s_fault s_faultAt s_latest s_isKept s_kept s_trace s_traced)) ((W_M cI cZ q_s q_s_lane q_s_many q_s_item q_s_isle q_s_fresh q_s_then q_s_was q_s_tape q_s_isKept q_s_kept q_s_trace s_thrown s_status s_lane s_many s_item s_isle s_fresh s_then s_was s_acts s_tape s_taped s_cursor s_start s_token s_value s_fault s_faultAt s_latest s_isKept s_kept res.2.1 res.2.2)) res.1 s.heap.size) ([.ref q_s, .int v1] : List Value).toArray s 0 0 (va_A ((W_M cI cZ q_s q_s_lane q_s_many q_s_item q_s_isle q_s_fresh q_s_then q_s_was q_s_tape q_s_isKept q_s_kept q_s_trace s_thrown s_status s_lane s_many s_item s_isle s_fresh s_then s_was s_acts s_tape s_taped s_cursor s_start s_token s_value s_fault s_faultAt s_latest s_isKept s_kept s_trace s_traced)) s.heap.size) := ⟨_, rfl⟩
  rw [← hQQ]
  have w_0 := hts (Cond.fieldLink RX9 19 "TideInchesModel" "isle" "[I") (List.mem_of_getElem? (i := 1) rfl)
  have w_1 := (fun w hw => List.mem_cons_of_mem _ (List.mem_append_right _ hw) : ∀ w ∈ wsX90, w ∈ wsX9_goatSize)
  have h := hf
  unfold fX9_goatSize at h
  refine lv_aload_n hx hb dX9_goatSize_0 rfl (lv_at hl 0 rfl) ?_
  refine va_get (D := (dC, dI)) (ci := 7) (v := .ref q_s_isle) (C := RX9) (T := TX9) (N := 23) hx hb hts w_1 hown hK hP 0 rfl rfl 5 (by decide) w_0 (fun _ h9 => h9) rfl dX9_goatSize_1 ?_
  refine lv_iload_n hx hb dX9_goatSize_4 rfl (lv_at hl 1 rfl) ?_
  refine lv_iconst (v := 0) hx hb dX9_goatSize_5 (by decide) ?_
  obtain ⟨r_1, hc_1, h⟩ := bd1_of h
  refine cl_rS (As := [.ref q_s_isle, .int v1, .int 0]) (rest := []) ⟨hx, hb, hml, hown, hts⟩ (m_X9_of l dC dI cI cZ q_s_isle s_isle v1 0 (r_1) hc_1) (va_cwS 3 hts gX9_goatSize_X9_of rfl rfl rfl ddX9_of ⟨Nat.le_of_ble_eq_true rfl, Nat.le_of_ble_eq_true rfl⟩) hK hP [4] rfl rfl rfl hl.1 (Nat.le_of_ble_eq_true rfl) ⟨Nat.zero_le _, Nat.zero_le _⟩ dX9_goatSize_6 ?_
  refine lv_iconst (v := 5) hx hb dX9_goatSize_9 (by decide) ?_
  have KJ18 : ∀ (w0_j18 : Int32) (H : Heap) (locs : List Loc) (ls : Array Slot), va_P (dC, dI) vwCl ((W_M cI cZ q_s q_s_lane q_s_many q_s_item q_s_isle q_s_fresh q_s_then q_s_was q_s_tape q_s_isKept q_s_kept q_s_trace s_thrown s_status s_lane s_many s_item s_isle s_fresh s_then s_was s_acts s_tape s_taped s_cursor s_start s_token s_value s_fault s_faultAt s_latest s_isKept s_kept s_trace s_traced)) H → va_D A ((W_M cI cZ q_s q_s_lane q_s_many q_s_item q_s_isle q_s_fresh q_s_then q_s_was q_s_tape q_s_isKept q_s_kept q_s_trace s_thrown s_status s_lane s_many s_item s_isle s_fresh s_then s_was s_acts s_tape s_taped s_cursor s_start s_token s_value s_fault s_faultAt s_latest s_isKept s_kept s_trace s_traced)) → va_S A s.heap H locs → lv_has ls 4 [(0, .ref q_s), (1, .int v1)] → fX9_goatSize_J18 s_isle s_trace s_traced v1 w0_j18 = some res → W p l e (headSpec wsX9_goatSize rmX9_goatSize).room s m ([.ref q_s, .int v1] : List Value).toArray below meth c H locs 0 0 QQ (F0 m 18 ls [.int w0_j18]) := by
    intro w0_j18 H locs ls hP hD hS hl h
    unfold fX9_goatSize_J18 at h
    refine lv_istore_n (lv' := [(2, .int w0_j18), (0, .ref q_s), (1, .int v1)]) hx hb dX9_goatSize_18 rfl hl (by decide) rfl (fun ls hl => ?_)
    refine lv_iload_n hx hb dX9_goatSize_19 rfl (lv_at hl 0 rfl) ?_
    have KJ29 : ∀ (s_trace_j29 : (Nat → Int32)) (s_traced_j29 : Int32) (H : Heap) (locs : List Loc) (ls : Array Slot), va_P (dC, dI) vwCl ((W_M cI cZ q_s q_s_lane q_s_many q_s_item q_s_isle q_s_fresh q_s_then q_s_was q_s_tape q_s_isKept q_s_kept q_s_trace s_thrown s_status s_lane s_many s_item s_isle s_fresh s_then s_was s_acts s_tape s_taped s_cursor s_start s_token s_value s_fault s_faultAt s_latest s_isKept s_kept s_trace_j29 s_traced_j29)) H → va_D A ((W_M cI cZ q_s q_s_lane q_s_many q_s_item q_s_isle q_s_fresh q_s_then q_s_was q_s_tape q_s_isKept q_s_kept q_s_trace s_thrown s_status s_lane s_many s_item s_isle s_fresh s_then s_was s_acts s_tape s_taped s_cursor s_start s_token s_value s_fault s_faultAt s_latest s_isKept s_kept s_trace_j29 s_traced_j29)) → va_S A s.heap H locs → lv_has ls 4 [(0, .ref q_s), (1, .int v1), (2, .int w0_j18)] → fX9_goatSize_J29 s_isle v1 w0_j18 s_trace_j29 s_traced_j29 = some res → W p l e (headSpec wsX9_goatSize rmX9_goatSize).room s m ([.ref q_s, .int v1] : List Value).toArray below meth c H locs 0 0 QQ (F0 m 29 ls []) := by
      intro s_trace_j29 s_traced_j29 H locs ls hP hD hS hl h
      unfold fX9_goatSize_J29 at h
      refine lv_aload_n hx hb dX9_goatSize_29 rfl (lv_at hl 0 rfl) ?_
      refine lv_bipush (v := 13) hx hb dX9_goatSize_30 (by decide) ?_
      obtain ⟨s_trace_2, s_traced_2, hc_2, h⟩ := bd2_of h
      refine cl_mVv (As := [.int 13]) (rest := []) (ws' := (W_M cI cZ q_s q_s_lane q_s_many q_s_item q_s_isle q_s_fresh q_s_then q_s_was q_s_tape q_s_isKept q_s_kept q_s_trace s_thrown s_status s_lane s_many s_item s_isle s_fresh s_then s_was s_acts s_tape s_taped s_cursor s_start s_token s_value s_fault s_faultAt s_latest s_isKept s_kept s_trace_2 s_traced_2)) (wr := []) ⟨hx, hb, hml, hown, hts⟩ (m_X9_began l dC dI cI cZ q_s q_s_lane q_s_many q_s_item q_s_isle q_s_fresh q_s_then q_s_was q_s_tape q_s_isKept q_s_kept q_s_trace s_thrown s_status s_lane s_many s_item s_isle s_fresh s_then s_was s_acts s_tape s_taped s_cursor s_start s_token s_value s_fault s_faultAt s_latest s_isKept s_kept s_trace_j29 s_traced_j29 13 _ (s_trace_2, s_traced_2) hc_2) (cwV 1 hts gX9_goatSize_X9_began rfl rfl rfl ⟨rfl, ddX9_began⟩ ⟨Nat.le_of_ble_eq_true rfl, Nat.le_of_ble_eq_true rfl⟩) hK hP hD hS hA [0, 1, 2, 3, 4, 5, 6, 7, 8, 9, 10, 11] [] rfl rfl rfl rfl (by decide) [0, 1, 2, 3, 4, 5, 6, 7, 8, 9, 10, 11] rfl rfl rfl rfl rfl rfl rfl hl.1 (Nat.le_of_ble_eq_true rfl) ⟨Nat.zero_le _, Nat.zero_le _⟩ dX9_goatSize_32 (fun H locs hP hD hS => ?_)
      refine lv_aload_n hx hb dX9_goatSize_35 rfl (lv_at hl 0 rfl) ?_
      refine lv_iload_n hx hb dX9_goatSize_36 rfl (lv_at hl 1 rfl) ?_
      obtain ⟨r_3, s_trace_3, s_traced_3, hc_3, h⟩ := bd3_of h
      refine cl_mVi (As := [.int v1]) (rest := []) (ws' := (W_M cI cZ q_s q_s_lane q_s_many q_s_item q_s_isle q_s_fresh q_s_then q_s_was q_s_tape q_s_isKept q_s_kept q_s_trace s_thrown s_status s_lane s_many s_item s_isle s_fresh s_then s_was s_acts s_tape s_taped s_cursor s_start s_token s_value s_fault s_faultAt s_latest s_isKept s_kept s_trace_3 s_traced_3)) (wr := []) ⟨hx, hb, hml, hown, hts⟩ (m_X9_plainSize l dC dI cI cZ q_s q_s_lane q_s_many q_s_item q_s_isle q_s_fresh q_s_then q_s_was q_s_tape q_s_isKept q_s_kept q_s_trace s_thrown s_status s_lane s_many s_item s_isle s_fresh s_then s_was s_acts s_tape s_taped s_cursor s_start s_token s_value s_fault s_faultAt s_latest s_isKept s_kept s_trace_2 s_traced_2 v1 _ (r_3, s_trace_3, s_traced_3) hc_3) (cwV 1 hts gX9_goatSize_X9_plainSize rfl rfl rfl ⟨rfl, ddX9_plainSize⟩ ⟨Nat.le_of_ble_eq_true rfl, Nat.le_of_ble_eq_true rfl⟩) hK hP hD hS hA [0, 1, 2, 3, 4, 5, 6, 7, 8, 9, 10, 11] [] rfl rfl rfl rfl (by decide) [0, 1, 2, 3, 4, 5, 6, 7, 8, 9, 10, 11] rfl rfl rfl rfl rfl rfl rfl hl.1 (Nat.le_of_ble_eq_true rfl) ⟨Nat.zero_le _, Nat.zero_le _⟩ dX9_goatSize_37 (fun H locs hP hD hS => ?_)
      refine lv_bipush (v := 100) hx hb dX9_goatSize_40 (by decide) ?_
      refine lv_isub hx hb dX9_goatSize_42 ?_
      refine lv_istore_n (lv' := [(3, .int (r_3 - 100)), (0, .ref q_s), (1, .int v1), (2, .int w0_j18)]) hx hb dX9_goatSize_43 rfl hl (by decide) rfl (fun ls hl => ?_)
      refine lv_iload_n hx hb dX9_goatSize_44 rfl (lv_at hl 3 rfl) ?_
      refine lv_if_eq (tgt := 54) hx hb dX9_goatSize_45 (by decide) (fun c_4 => ?_) (fun c_4 => ?_)
      · have h := (if_pos c_4).symm.trans h
        refine lv_iload_n hx hb dX9_goatSize_54 rfl (lv_at hl 0 rfl) ?_
        have h := Option.some.inj h
        subst h
        rw [hQQ]
        subst hAe
        exact W.iret (v := (r_3 - 100)) hx hb hr (fun t ht hW => ⟨⟨_, (), rfl, rfl, by rw [ht]; exact hP, va_K.moved hW.alike hK, hD⟩, hS.F ht⟩) hS.2.2 dX9_goatSize_55
      · have h := (if_neg c_4).symm.trans h
        refine lv_iconst (v := 2) hx hb dX9_goatSize_48 (by decide) ?_
        refine lv_iload_n hx hb dX9_goatSize_49 rfl (lv_at hl 0 rfl) ?_
        refine lv_imul hx hb dX9_goatSize_50 ?_
        refine lv_goto (tgt := 55) hx hb dX9_goatSize_51 (by decide) ?_
        have h := Option.some.inj h
        subst h
        rw [hQQ]
        subst hAe
        exact W.iret (v := (2 * (r_3 - 100))) hx hb hr (fun t ht hW => ⟨⟨_, (), rfl, rfl, by rw [ht]; exact hP, va_K.moved hW.alike hK, hD⟩, hS.F ht⟩) hS.2.2 dX9_goatSize_55
    refine lv_if_eq (tgt := 29) hx hb dX9_goatSize_20 (by decide) (fun c_5 => ?_) (fun c_5 => ?_)
    · have h := (if_pos c_5).symm.trans h
      exact KJ29 s_trace s_traced _ _ _ hP hD hS (lv_sub hl [1, 2, 0] rfl) h
    · have h := (if_neg c_5).symm.trans h
      refine lv_aload_n hx hb dX9_goatSize_23 rfl (lv_at hl 1 rfl) ?_
      refine lv_bipush (v := 14) hx hb dX9_goatSize_24 (by decide) ?_
      obtain ⟨s_trace_6, s_traced_6, hc_6, h⟩ := bd2_of h
      refine cl_mVv (As := [.int 14]) (rest := []) (ws' := (W_M cI cZ q_s q_s_lane q_s_many q_s_item q_s_isle q_s_fresh q_s_then q_s_was q_s_tape q_s_isKept q_s_kept q_s_trace s_thrown s_status s_lane s_many s_item s_isle s_fresh s_then s_was s_acts s_tape s_taped s_cursor s_start s_token s_value s_fault s_faultAt s_latest s_isKept s_kept s_trace_6 s_traced_6)) (wr := []) ⟨hx, hb, hml, hown, hts⟩ (m_X9_began l dC dI cI cZ q_s q_s_lane q_s_many q_s_item q_s_isle q_s_fresh q_s_then q_s_was q_s_tape q_s_isKept q_s_kept q_s_trace s_thrown s_status s_lane s_many s_item s_isle s_fresh s_then s_was s_acts s_tape s_taped s_cursor s_start s_token s_value s_fault s_faultAt s_latest s_isKept s_kept s_trace s_traced 14 _ (s_trace_6, s_traced_6) hc_6) (cwV 1 hts gX9_goatSize_X9_began rfl rfl rfl ⟨rfl, ddX9_began⟩ ⟨Nat.le_of_ble_eq_true rfl, Nat.le_of_ble_eq_true rfl⟩) hK hP hD hS hA [0, 1, 2, 3, 4, 5, 6, 7, 8, 9, 10, 11] [] rfl rfl rfl rfl (by decide) [0, 1, 2, 3, 4, 5, 6, 7, 8, 9, 10, 11] rfl rfl rfl rfl rfl rfl rfl hl.1 (Nat.le_of_ble_eq_true rfl) ⟨Nat.zero_le _, Nat.zero_le _⟩ dX9_goatSize_26 (fun H locs hP hD hS => ?_)
      exact KJ29 s_trace_6 s_traced_6 _ _ _ hP hD hS (lv_sub hl [1, 2, 0] rfl) h
  refine lv_icmp_ne (tgt := 17) hx hb dX9_goatSize_10 (by decide) (fun c_7 => ?_) (fun c_7 => ?_)
  · have h := (if_neg c_7).symm.trans h
    refine lv_iconst (v := 0) hx hb dX9_goatSize_17 (by decide) ?_
    exact KJ18 0 _ _ _ hP hD hS (lv_sub hl [0, 1] rfl) h
  · have h := (if_pos c_7).symm.trans h
    refine lv_iconst (v := 1) hx hb dX9_goatSize_13 (by decide) ?_
    refine lv_goto (tgt := 18) hx hb dX9_goatSize_14 (by decide) ?_
    exact KJ18 1 _ _ _ hP hD hS (lv_sub hl [0, 1] rfl) h
def fX9_markOf_J56 (s_isle : (Nat → Int32)) (v1 : Int32) (r_1 : Int32) (s_trace_j56 : (Nat → Int32)) (s_traced_j56 : Int32) : Option (Int32 × (Nat → Int32) × Int32) :=
  bd2 (fX9_began s_trace_j56 s_traced_j56 21) (fun s_trace_3 s_traced_3 => bd2 (fX9_began s_trace_3 s_traced_3 20) (fun s_trace_4 s_traced_4 => bd1 (fX9_of s_isle v1 2) (fun r_5 => (if r_1 = 1 then some ((v1 + r_5), s_trace_4, s_traced_4) else (if r_1 = 3 then some (((v1 + r_5) - 1000), s_trace_4, s_traced_4) else some ((2 * (v1 + r_5)), s_trace_4, s_traced_4))))))
def fX9_markOf (s_isle : (Nat → Int32)) (s_trace : (Nat → Int32)) (s_traced : Int32) (v1 : Int32) : Option (Int32 × (Nat → Int32) × Int32) :=
  bd1 (fX9_of s_isle v1 0) (fun r_1 => (if r_1 < 4 then (if r_1 = 1 then (fX9_markOf_J56 s_isle v1 r_1 s_trace s_traced) else (if r_1 = 3 then bd2 (fX9_began s_trace s_traced 22) (fun s_trace_11 s_traced_11 => (fX9_markOf_J56 s_isle v1 r_1 s_trace_11 s_traced_11)) else bd2 (fX9_began s_trace s_traced 24) (fun s_trace_10 s_traced_10 => (fX9_markOf_J56 s_isle v1 r_1 s_trace_10 s_traced_10)))) else bd2 (fX9_began s_trace s_traced 23) (fun s_trace_12 s_traced_12 => bd2 (fX9_began s_trace_12 s_traced_12 20) (fun s_trace_13 s_traced_13 => bd3 (fX9_goatSize s_isle s_trace_13 s_traced_13 v1) (fun r_14 s_trace_14 s_traced_14 => some ((v1 - r_14), s_trace_14, s_traced_14))))))
abbrev rmX9_markOf : Room := { frames := 3, cells := 0, slots := 0, locals := 66 }
theorem ddX9_markOf : yX9_markOf.cls ≠ "java/lang/invoke/MethodHandle" ∧ yX9_markOf.cls ≠ "java/lang/invoke/VarHandle" ∧ (parseMethodDescriptor yX9_markOf.desc).map (fun d => d.parameters.length) = some 1 := by decide +kernel
set_option maxHeartbeats 4000000 in
set_option maxRecDepth 100000 in
theorem m_X9_markOf (l : Launch) (dC : Nat → ClassId) (dI : Nat → Nat → Nat) (cI cZ : ClassId) (q_s q_s_lane q_s_many q_s_item q_s_isle q_s_fresh q_s_then q_s_was q_s_tape q_s_isKept q_s_kept q_s_trace : Nat) (s_thrown : Int32) (s_status : Int32) (s_lane : (Nat → Int32)) (s_many : (Nat → Int32)) (s_item : (Nat → Int32)) (s_isle : (Nat → Int32)) (s_fresh : (Nat → Int32)) (s_then : (Nat → Int32)) (s_was : (Nat → Int32)) (s_acts : Int32) (s_tape : (Nat → Int32)) (s_taped : Int32) (s_cursor : Int32) (s_start : Int32) (s_token : Int32) (s_value : Int32) (s_fault : Int32) (s_faultAt : Int32) (s_latest : Int32) (s_isKept : (Nat → Int32)) (s_kept : (Nat → Int32)) (s_trace : (Nat → Int32)) (s_traced : Int32) (v1 : Int32) (sz : Nat) (res : Int32 × (Nat → Int32) × Int32) (hf : fX9_markOf s_isle s_trace s_traced v1 = some res) : Met l yX9_markOf wsX9_markOf rmX9_markOf (mtPc (dC, dI) (tyZ cI cZ) ((W_M cI cZ q_s q_s_lane q_s_many q_s_item q_s_isle q_s_fresh q_s_then q_s_was q_s_tape q_s_isKept q_s_kept q_s_trace s_thrown s_status s_lane s_many s_item s_isle s_fresh s_then s_was s_acts s_tape s_taped s_cursor s_start s_token s_value s_fault s_faultAt s_latest s_isKept s_kept s_trace s_traced)) [.ref q_s, .int v1] sz) (mtQi (dC, dI) (tyZ cI cZ) ((W_M cI cZ q_s q_s_lane q_s_many q_s_item q_s_isle q_s_fresh q_s_then q_s_was q_s_tape q_s_isKept q_s_kept q_s_trace s_thrown s_status s_lane s_many s_item s_isle s_fresh s_then s_was s_acts s_tape s_taped s_cursor s_start s_token s_value s_fault s_faultAt s_latest s_isKept s_kept s_trace s_traced)) ((W_M cI cZ q_s q_s_lane q_s_many q_s_item q_s_isle q_s_fresh q_s_then q_s_was q_s_tape q_s_isKept q_s_kept q_s_trace s_thrown s_status s_lane s_many s_item s_isle s_fresh s_then s_was s_acts s_tape s_taped s_cursor s_start s_token s_value s_fault s_faultAt s_latest s_isKept s_kept res.2.1 res.2.2)) res.1 sz) 0 0 (va_A ((W_M cI cZ q_s q_s_lane q_s_many q_s_item q_s_isle q_s_fresh q_s_then q_s_was q_s_tape q_s_isKept q_s_kept q_s_trace s_thrown s_status s_lane s_many s_item s_isle s_fresh s_then s_was s_acts s_tape s_taped s_cursor s_start s_token s_value s_fault s_faultAt s_latest s_isKept s_kept s_trace s_traced)) sz) := by
  refine Met.ofW (cc := cX9_markOf) (maxL := 4) (ret := (some .int)) (by decide) rfl ?_
  intro p e s m args below meth c s₁ B hml hv
  obtain ⟨rfl, hsz, hP, hK, hD0⟩ := hv
  have hx := B.exec
  have hb := B.bytes
  have hr := B.returns
  have hts := atoms_spec (ws := wsX9_markOf) B.pre
  have hown : s.vm.findClass RX9 = some m.cls := findClass_of_methodNamed B.named
  have hlocks := B.notSynchronized
  subst hsz
  have hD := hD0.self (sz := s.heap.size)
  obtain ⟨A, hAe⟩ : ∃ A, A = va_A ((W_M cI cZ q_s q_s_lane q_s_many q_s_item q_s_isle q_s_fresh q_s_then q_s_was q_s_tape q_s_isKept q_s_kept q_s_trace s_thrown s_status s_lane s_many s_item s_isle s_fresh s_then s_was s_acts s_tape s_taped s_cursor s_start s_token s_value s_fault s_faultAt s_latest s_isKept s_kept s_trace s_traced)) s.heap.size := ⟨_, rfl⟩
  rw [← hAe] at hD
  have hA : ∀ q : Nat, s.heap.size ≤ q → A q := fun q h => by rw [hAe]; exact Or.inr h
  have hS : va_S A s.heap s.heap [] := va_S.rf
  have hl := lv_entry ([.ref q_s, .int v1]) (n := 4) (Nat.le_of_ble_eq_true rfl)
  rw [lg_entry_eq]
  generalize (lg_sl ([.ref q_s, .int v1]) ++ List.replicate (4 - (lg_sl ([.ref q_s, .int v1])).length) Slot.unset).toArray = ls at hl ⊢
  have hl : lv_has ls 4 [(0, .ref q_s), (1, .int v1)] := hl
  obtain ⟨QQ, hQQ⟩ : ∃ Q, Q = MQ below (mtQi (dC, dI) (tyZ cI cZ) ((W_M cI cZ q_s q_s_lane q_s_many q_s_item q_s_isle q_s_fresh q_s_then q_s_was q_s_tape q_s_isKept q_s_kept q_s_trace s_thrown s_status s_lane s_many s_item s_isle s_fresh s_then s_was s_acts s_tape s_taped s_cursor s_start s_token s_value s_fault s_faultAt s_latest s_isKept s_kept s_trace s_traced)) ((W_M cI cZ q_s q_s_lane q_s_many q_s_item q_s_isle q_s_fresh q_s_then q_s_was q_s_tape q_s_isKept q_s_kept q_s_trace s_thrown s_status s_lane s_many s_item s_isle s_fresh s_then s_was s_acts s_tape s_taped s_cursor s_start s_token s_value s_fault s_faultAt s_latest s_isKept s_kept res.2.1 res.2.2)) res.1 s.heap.size) ([.ref q_s, .int v1] : List Value).toArray s 0 0 (va_A ((W_M cI cZ q_s q_s_lane q_s_many q_s_item q_s_isle q_s_fresh q_s_then q_s_was q_s_tape q_s_isKept q_s_kept q_s_trace s_thrown s_status s_lane s_many s_item s_isle s_fresh s_then s_was s_acts s_tape s_taped s_cursor s_start s_token s_value s_fault s_faultAt s_latest s_isKept s_kept s_trace s_traced)) s.heap.size) := ⟨_, rfl⟩
  rw [← hQQ]
  have w_0 := hts (Cond.fieldLink RX9 19 "TideInchesModel" "isle" "[I") (List.mem_of_getElem? (i := 1) rfl)
  have w_1 := (fun w hw => List.mem_cons_of_mem _ (List.mem_append_right _ hw) : ∀ w ∈ wsX90, w ∈ wsX9_markOf)
  have h := hf
  unfold fX9_markOf at h
  refine lv_aload_n hx hb dX9_markOf_0 rfl (lv_at hl 0 rfl) ?_
  refine va_get (D := (dC, dI)) (ci := 7) (v := .ref q_s_isle) (C := RX9) (T := TX9) (N := 23) hx hb hts w_1 hown hK hP 0 rfl rfl 5 (by decide) w_0 (fun _ h9 => h9) rfl dX9_markOf_1 ?_
  refine lv_iload_n hx hb dX9_markOf_4 rfl (lv_at hl 1 rfl) ?_
  refine lv_iconst (v := 0) hx hb dX9_markOf_5 (by decide) ?_
  obtain ⟨r_1, hc_1, h⟩ := bd1_of h
  refine cl_rS (As := [.ref q_s_isle, .int v1, .int 0]) (rest := []) ⟨hx, hb, hml, hown, hts⟩ (m_X9_of l dC dI cI cZ q_s_isle s_isle v1 0 (r_1) hc_1) (va_cwS 3 hts gX9_markOf_X9_of rfl rfl rfl ddX9_of ⟨Nat.le_of_ble_eq_true rfl, Nat.le_of_ble_eq_true rfl⟩) hK hP [4] rfl rfl rfl hl.1 (Nat.le_of_ble_eq_true rfl) ⟨Nat.zero_le _, Nat.zero_le _⟩ dX9_markOf_6 ?_
  refine lv_istore_n (lv' := [(2, .int r_1), (0, .ref q_s), (1, .int v1)]) hx hb dX9_markOf_9 rfl hl (by decide) rfl (fun ls hl => ?_)
  refine lv_iload_n hx hb dX9_markOf_10 rfl (lv_at hl 0 rfl) ?_
  refine lv_iconst (v := 4) hx hb dX9_markOf_11 (by decide) ?_
  refine lv_icmp_lt (tgt := 35) hx hb dX9_markOf_12 (by decide) (fun c_2 => ?_) (fun c_2 => ?_)
  · have h := (if_pos c_2).symm.trans h
    refine lv_iload_n hx hb dX9_markOf_35 rfl (lv_at hl 0 rfl) ?_
    refine lv_iconst (v := 1) hx hb dX9_markOf_36 (by decide) ?_
    have KJ56 : ∀ (s_trace_j56 : (Nat → Int32)) (s_traced_j56 : Int32) (H : Heap) (locs : List Loc) (ls : Array Slot), va_P (dC, dI) vwCl ((W_M cI cZ q_s q_s_lane q_s_many q_s_item q_s_isle q_s_fresh q_s_then q_s_was q_s_tape q_s_isKept q_s_kept q_s_trace s_thrown s_status s_lane s_many s_item s_isle s_fresh s_then s_was s_acts s_tape s_taped s_cursor s_start s_token s_value s_fault s_faultAt s_latest s_isKept s_kept s_trace_j56 s_traced_j56)) H → va_D A ((W_M cI cZ q_s q_s_lane q_s_many q_s_item q_s_isle q_s_fresh q_s_then q_s_was q_s_tape q_s_isKept q_s_kept q_s_trace s_thrown s_status s_lane s_many s_item s_isle s_fresh s_then s_was s_acts s_tape s_taped s_cursor s_start s_token s_value s_fault s_faultAt s_latest s_isKept s_kept s_trace_j56 s_traced_j56)) → va_S A s.heap H locs → lv_has ls 4 [(0, .ref q_s), (1, .int v1), (2, .int r_1)] → fX9_markOf_J56 s_isle v1 r_1 s_trace_j56 s_traced_j56 = some res → W p l e (headSpec wsX9_markOf rmX9_markOf).room s m ([.ref q_s, .int v1] : List Value).toArray below meth c H locs 0 0 QQ (F0 m 56 ls []) := by
      intro s_trace_j56 s_traced_j56 H locs ls hP hD hS hl h
      unfold fX9_markOf_J56 at h
      refine lv_aload_n hx hb dX9_markOf_56 rfl (lv_at hl 0 rfl) ?_
      refine lv_bipush (v := 21) hx hb dX9_markOf_57 (by decide) ?_
      obtain ⟨s_trace_3, s_traced_3, hc_3, h⟩ := bd2_of h
      refine cl_mVv (As := [.int 21]) (rest := []) (ws' := (W_M cI cZ q_s q_s_lane q_s_many q_s_item q_s_isle q_s_fresh q_s_then q_s_was q_s_tape q_s_isKept q_s_kept q_s_trace s_thrown s_status s_lane s_many s_item s_isle s_fresh s_then s_was s_acts s_tape s_taped s_cursor s_start s_token s_value s_fault s_faultAt s_latest s_isKept s_kept s_trace_3 s_traced_3)) (wr := []) ⟨hx, hb, hml, hown, hts⟩ (m_X9_began l dC dI cI cZ q_s q_s_lane q_s_many q_s_item q_s_isle q_s_fresh q_s_then q_s_was q_s_tape q_s_isKept q_s_kept q_s_trace s_thrown s_status s_lane s_many s_item s_isle s_fresh s_then s_was s_acts s_tape s_taped s_cursor s_start s_token s_value s_fault s_faultAt s_latest s_isKept s_kept s_trace_j56 s_traced_j56 21 _ (s_trace_3, s_traced_3) hc_3) (cwV 1 hts gX9_markOf_X9_began rfl rfl rfl ⟨rfl, ddX9_began⟩ ⟨Nat.le_of_ble_eq_true rfl, Nat.le_of_ble_eq_true rfl⟩) hK hP hD hS hA [0, 1, 2, 3, 4, 5, 6, 7, 8, 9, 10, 11] [] rfl rfl rfl rfl (by decide) [0, 1, 2, 3, 4, 5, 6, 7, 8, 9, 10, 11] rfl rfl rfl rfl rfl rfl rfl hl.1 (Nat.le_of_ble_eq_true rfl) ⟨Nat.zero_le _, Nat.zero_le _⟩ dX9_markOf_59 (fun H locs hP hD hS => ?_)
      refine lv_aload_n hx hb dX9_markOf_62 rfl (lv_at hl 0 rfl) ?_
      refine lv_bipush (v := 20) hx hb dX9_markOf_63 (by decide) ?_
      obtain ⟨s_trace_4, s_traced_4, hc_4, h⟩ := bd2_of h
      refine cl_mVv (As := [.int 20]) (rest := []) (ws' := (W_M cI cZ q_s q_s_lane q_s_many q_s_item q_s_isle q_s_fresh q_s_then q_s_was q_s_tape q_s_isKept q_s_kept q_s_trace s_thrown s_status s_lane s_many s_item s_isle s_fresh s_then s_was s_acts s_tape s_taped s_cursor s_start s_token s_value s_fault s_faultAt s_latest s_isKept s_kept s_trace_4 s_traced_4)) (wr := []) ⟨hx, hb, hml, hown, hts⟩ (m_X9_began l dC dI cI cZ q_s q_s_lane q_s_many q_s_item q_s_isle q_s_fresh q_s_then q_s_was q_s_tape q_s_isKept q_s_kept q_s_trace s_thrown s_status s_lane s_many s_item s_isle s_fresh s_then s_was s_acts s_tape s_taped s_cursor s_start s_token s_value s_fault s_faultAt s_latest s_isKept s_kept s_trace_3 s_traced_3 20 _ (s_trace_4, s_traced_4) hc_4) (cwV 1 hts gX9_markOf_X9_began rfl rfl rfl ⟨rfl, ddX9_began⟩ ⟨Nat.le_of_ble_eq_true rfl, Nat.le_of_ble_eq_true rfl⟩) hK hP hD hS hA [0, 1, 2, 3, 4, 5, 6, 7, 8, 9, 10, 11] [] rfl rfl rfl rfl (by decide) [0, 1, 2, 3, 4, 5, 6, 7, 8, 9, 10, 11] rfl rfl rfl rfl rfl rfl rfl hl.1 (Nat.le_of_ble_eq_true rfl) ⟨Nat.zero_le _, Nat.zero_le _⟩ dX9_markOf_65 (fun H locs hP hD hS => ?_)
      refine lv_iload_n hx hb dX9_markOf_68 rfl (lv_at hl 1 rfl) ?_
      refine lv_aload_n hx hb dX9_markOf_69 rfl (lv_at hl 0 rfl) ?_
      refine va_get (D := (dC, dI)) (ci := 7) (v := .ref q_s_isle) (C := RX9) (T := TX9) (N := 23) hx hb hts w_1 hown hK hP 0 rfl rfl 5 (by decide) w_0 (fun _ h9 => h9) rfl dX9_markOf_70 ?_
      refine lv_iload_n hx hb dX9_markOf_73 rfl (lv_at hl 1 rfl) ?_
      refine lv_iconst (v := 2) hx hb dX9_markOf_74 (by decide) ?_
      obtain ⟨r_5, hc_5, h⟩ := bd1_of h
      refine cl_rS (As := [.ref q_s_isle, .int v1, .int 2]) (rest := [.int v1]) ⟨hx, hb, hml, hown, hts⟩ (m_X9_of l dC dI cI cZ q_s_isle s_isle v1 2 (r_5) hc_5) (va_cwS 3 hts gX9_markOf_X9_of rfl rfl rfl ddX9_of ⟨Nat.le_of_ble_eq_true rfl, Nat.le_of_ble_eq_true rfl⟩) hK hP [4] rfl rfl rfl hl.1 (Nat.le_of_ble_eq_true rfl) ⟨Nat.zero_le _, Nat.zero_le _⟩ dX9_markOf_75 ?_
      refine lv_iadd hx hb dX9_markOf_78 ?_
      refine lv_istore_n (lv' := [(3, .int (v1 + r_5)), (0, .ref q_s), (1, .int v1), (2, .int r_1)]) hx hb dX9_markOf_79 rfl hl (by decide) rfl (fun ls hl => ?_)
      refine lv_iload_n hx hb dX9_markOf_80 rfl (lv_at hl 3 rfl) ?_
      refine lv_iconst (v := 1) hx hb dX9_markOf_81 (by decide) ?_
      refine lv_icmp_ne (tgt := 89) hx hb dX9_markOf_82 (by decide) (fun c_6 => ?_) (fun c_6 => ?_)
      · have h := (if_neg c_6).symm.trans h
        refine lv_iload_n hx hb dX9_markOf_89 rfl (lv_at hl 3 rfl) ?_
        refine lv_iconst (v := 3) hx hb dX9_markOf_90 (by decide) ?_
        refine lv_icmp_ne (tgt := 102) hx hb dX9_markOf_91 (by decide) (fun c_7 => ?_) (fun c_7 => ?_)
        · have h := (if_neg c_7).symm.trans h
          refine lv_iconst (v := 2) hx hb dX9_markOf_102 (by decide) ?_
          refine lv_iload_n hx hb dX9_markOf_103 rfl (lv_at hl 0 rfl) ?_
          refine lv_imul hx hb dX9_markOf_104 ?_
          have h := Option.some.inj h
          subst h
          rw [hQQ]
          subst hAe
          exact W.iret (v := (2 * (v1 + r_5))) hx hb hr (fun t ht hW => ⟨⟨_, (), rfl, rfl, by rw [ht]; exact hP, va_K.moved hW.alike hK, hD⟩, hS.F ht⟩) hS.2.2 dX9_markOf_105
        · have h := (if_pos c_7).symm.trans h
          refine lv_iload_n hx hb dX9_markOf_94 rfl (lv_at hl 0 rfl) ?_
          refine lv_sipush (v := 1000) hx hb dX9_markOf_95 (by decide) ?_
          refine lv_isub hx hb dX9_markOf_98 ?_
          refine lv_goto (tgt := 105) hx hb dX9_markOf_99 (by decide) ?_
          have h := Option.some.inj h
          subst h
          rw [hQQ]
          subst hAe
          exact W.iret (v := ((v1 + r_5) - 1000)) hx hb hr (fun t ht hW => ⟨⟨_, (), rfl, rfl, by rw [ht]; exact hP, va_K.moved hW.alike hK, hD⟩, hS.F ht⟩) hS.2.2 dX9_markOf_105
      · have h := (if_pos c_6).symm.trans h
        refine lv_iload_n hx hb dX9_markOf_85 rfl (lv_at hl 0 rfl) ?_
        refine lv_goto (tgt := 105) hx hb dX9_markOf_86 (by decide) ?_
        have h := Option.some.inj h
        subst h
        rw [hQQ]
        subst hAe
        exact W.iret (v := (v1 + r_5)) hx hb hr (fun t ht hW => ⟨⟨_, (), rfl, rfl, by rw [ht]; exact hP, va_K.moved hW.alike hK, hD⟩, hS.F ht⟩) hS.2.2 dX9_markOf_105
    refine lv_icmp_eq (tgt := 56) hx hb dX9_markOf_37 (by decide) (fun c_8 => ?_) (fun c_8 => ?_)
    · have h := (if_pos c_8).symm.trans h
      exact KJ56 s_trace s_traced _ _ _ hP hD hS (lv_sub hl [1, 2, 0] rfl) h
    · have h := (if_neg c_8).symm.trans h
      refine lv_aload_n hx hb dX9_markOf_40 rfl (lv_at hl 1 rfl) ?_
      refine lv_iload_n hx hb dX9_markOf_41 rfl (lv_at hl 0 rfl) ?_
      refine lv_iconst (v := 3) hx hb dX9_markOf_42 (by decide) ?_
      refine lv_icmp_ne (tgt := 51) hx hb dX9_markOf_43 (by decide) (fun c_9 => ?_) (fun c_9 => ?_)
      · have h := (if_neg c_9).symm.trans h
        refine lv_bipush (v := 24) hx hb dX9_markOf_51 (by decide) ?_
        obtain ⟨s_trace_10, s_traced_10, hc_10, h⟩ := bd2_of h
        refine cl_mVv (As := [.int 24]) (rest := []) (ws' := (W_M cI cZ q_s q_s_lane q_s_many q_s_item q_s_isle q_s_fresh q_s_then q_s_was q_s_tape q_s_isKept q_s_kept q_s_trace s_thrown s_status s_lane s_many s_item s_isle s_fresh s_then s_was s_acts s_tape s_taped s_cursor s_start s_token s_value s_fault s_faultAt s_latest s_isKept s_kept s_trace_10 s_traced_10)) (wr := []) ⟨hx, hb, hml, hown, hts⟩ (m_X9_began l dC dI cI cZ q_s q_s_lane q_s_many q_s_item q_s_isle q_s_fresh q_s_then q_s_was q_s_tape q_s_isKept q_s_kept q_s_trace s_thrown s_status s_lane s_many s_item s_isle s_fresh s_then s_was s_acts s_tape s_taped s_cursor s_start s_token s_value s_fault s_faultAt s_latest s_isKept s_kept s_trace s_traced 24 _ (s_trace_10, s_traced_10) hc_10) (cwV 1 hts gX9_markOf_X9_began rfl rfl rfl ⟨rfl, ddX9_began⟩ ⟨Nat.le_of_ble_eq_true rfl, Nat.le_of_ble_eq_true rfl⟩) hK hP hD hS hA [0, 1, 2, 3, 4, 5, 6, 7, 8, 9, 10, 11] [] rfl rfl rfl rfl (by decide) [0, 1, 2, 3, 4, 5, 6, 7, 8, 9, 10, 11] rfl rfl rfl rfl rfl rfl rfl hl.1 (Nat.le_of_ble_eq_true rfl) ⟨Nat.zero_le _, Nat.zero_le _⟩ dX9_markOf_53 (fun H locs hP hD hS => ?_)
        exact KJ56 s_trace_10 s_traced_10 _ _ _ hP hD hS (lv_sub hl [1, 2, 0] rfl) h
      · have h := (if_pos c_9).symm.trans h
        refine lv_bipush (v := 22) hx hb dX9_markOf_46 (by decide) ?_
        refine lv_goto (tgt := 53) hx hb dX9_markOf_48 (by decide) ?_
        obtain ⟨s_trace_11, s_traced_11, hc_11, h⟩ := bd2_of h
        refine cl_mVv (As := [.int 22]) (rest := []) (ws' := (W_M cI cZ q_s q_s_lane q_s_many q_s_item q_s_isle q_s_fresh q_s_then q_s_was q_s_tape q_s_isKept q_s_kept q_s_trace s_thrown s_status s_lane s_many s_item s_isle s_fresh s_then s_was s_acts s_tape s_taped s_cursor s_start s_token s_value s_fault s_faultAt s_latest s_isKept s_kept s_trace_11 s_traced_11)) (wr := []) ⟨hx, hb, hml, hown, hts⟩ (m_X9_began l dC dI cI cZ q_s q_s_lane q_s_many q_s_item q_s_isle q_s_fresh q_s_then q_s_was q_s_tape q_s_isKept q_s_kept q_s_trace s_thrown s_status s_lane s_many s_item s_isle s_fresh s_then s_was s_acts s_tape s_taped s_cursor s_start s_token s_value s_fault s_faultAt s_latest s_isKept s_kept s_trace s_traced 22 _ (s_trace_11, s_traced_11) hc_11) (cwV 1 hts gX9_markOf_X9_began rfl rfl rfl ⟨rfl, ddX9_began⟩ ⟨Nat.le_of_ble_eq_true rfl, Nat.le_of_ble_eq_true rfl⟩) hK hP hD hS hA [0, 1, 2, 3, 4, 5, 6, 7, 8, 9, 10, 11] [] rfl rfl rfl rfl (by decide) [0, 1, 2, 3, 4, 5, 6, 7, 8, 9, 10, 11] rfl rfl rfl rfl rfl rfl rfl hl.1 (Nat.le_of_ble_eq_true rfl) ⟨Nat.zero_le _, Nat.zero_le _⟩ dX9_markOf_53 (fun H locs hP hD hS => ?_)
        exact KJ56 s_trace_11 s_traced_11 _ _ _ hP hD hS (lv_sub hl [1, 2, 0] rfl) h
  · have h := (if_neg c_2).symm.trans h
    refine lv_aload_n hx hb dX9_markOf_15 rfl (lv_at hl 1 rfl) ?_
    refine lv_bipush (v := 23) hx hb dX9_markOf_16 (by decide) ?_
    obtain ⟨s_trace_12, s_traced_12, hc_12, h⟩ := bd2_of h
    refine cl_mVv (As := [.int 23]) (rest := []) (ws' := (W_M cI cZ q_s q_s_lane q_s_many q_s_item q_s_isle q_s_fresh q_s_then q_s_was q_s_tape q_s_isKept q_s_kept q_s_trace s_thrown s_status s_lane s_many s_item s_isle s_fresh s_then s_was s_acts s_tape s_taped s_cursor s_start s_token s_value s_fault s_faultAt s_latest s_isKept s_kept s_trace_12 s_traced_12)) (wr := []) ⟨hx, hb, hml, hown, hts⟩ (m_X9_began l dC dI cI cZ q_s q_s_lane q_s_many q_s_item q_s_isle q_s_fresh q_s_then q_s_was q_s_tape q_s_isKept q_s_kept q_s_trace s_thrown s_status s_lane s_many s_item s_isle s_fresh s_then s_was s_acts s_tape s_taped s_cursor s_start s_token s_value s_fault s_faultAt s_latest s_isKept s_kept s_trace s_traced 23 _ (s_trace_12, s_traced_12) hc_12) (cwV 1 hts gX9_markOf_X9_began rfl rfl rfl ⟨rfl, ddX9_began⟩ ⟨Nat.le_of_ble_eq_true rfl, Nat.le_of_ble_eq_true rfl⟩) hK hP hD hS hA [0, 1, 2, 3, 4, 5, 6, 7, 8, 9, 10, 11] [] rfl rfl rfl rfl (by decide) [0, 1, 2, 3, 4, 5, 6, 7, 8, 9, 10, 11] rfl rfl rfl rfl rfl rfl rfl hl.1 (Nat.le_of_ble_eq_true rfl) ⟨Nat.zero_le _, Nat.zero_le _⟩ dX9_markOf_18 (fun H locs hP hD hS => ?_)
    refine lv_aload_n hx hb dX9_markOf_21 rfl (lv_at hl 1 rfl) ?_
    refine lv_bipush (v := 20) hx hb dX9_markOf_22 (by decide) ?_
    obtain ⟨s_trace_13, s_traced_13, hc_13, h⟩ := bd2_of h
    refine cl_mVv (As := [.int 20]) (rest := []) (ws' := (W_M cI cZ q_s q_s_lane q_s_many q_s_item q_s_isle q_s_fresh q_s_then q_s_was q_s_tape q_s_isKept q_s_kept q_s_trace s_thrown s_status s_lane s_many s_item s_isle s_fresh s_then s_was s_acts s_tape s_taped s_cursor s_start s_token s_value s_fault s_faultAt s_latest s_isKept s_kept s_trace_13 s_traced_13)) (wr := []) ⟨hx, hb, hml, hown, hts⟩ (m_X9_began l dC dI cI cZ q_s q_s_lane q_s_many q_s_item q_s_isle q_s_fresh q_s_then q_s_was q_s_tape q_s_isKept q_s_kept q_s_trace s_thrown s_status s_lane s_many s_item s_isle s_fresh s_then s_was s_acts s_tape s_taped s_cursor s_start s_token s_value s_fault s_faultAt s_latest s_isKept s_kept s_trace_12 s_traced_12 20 _ (s_trace_13, s_traced_13) hc_13) (cwV 1 hts gX9_markOf_X9_began rfl rfl rfl ⟨rfl, ddX9_began⟩ ⟨Nat.le_of_ble_eq_true rfl, Nat.le_of_ble_eq_true rfl⟩) hK hP hD hS hA [0, 1, 2, 3, 4, 5, 6, 7, 8, 9, 10, 11] [] rfl rfl rfl rfl (by decide) [0, 1, 2, 3, 4, 5, 6, 7, 8, 9, 10, 11] rfl rfl rfl rfl rfl rfl rfl hl.1 (Nat.le_of_ble_eq_true rfl) ⟨Nat.zero_le _, Nat.zero_le _⟩ dX9_markOf_24 (fun H locs hP hD hS => ?_)
    refine lv_iload_n hx hb dX9_markOf_27 rfl (lv_at hl 2 rfl) ?_
    refine lv_aload_n hx hb dX9_markOf_28 rfl (lv_at hl 1 rfl) ?_
    refine lv_iload_n hx hb dX9_markOf_29 rfl (lv_at hl 2 rfl) ?_
    obtain ⟨r_14, s_trace_14, s_traced_14, hc_14, h⟩ := bd3_of h
    refine cl_mVi (As := [.int v1]) (rest := [.int v1]) (ws' := (W_M cI cZ q_s q_s_lane q_s_many q_s_item q_s_isle q_s_fresh q_s_then q_s_was q_s_tape q_s_isKept q_s_kept q_s_trace s_thrown s_status s_lane s_many s_item s_isle s_fresh s_then s_was s_acts s_tape s_taped s_cursor s_start s_token s_value s_fault s_faultAt s_latest s_isKept s_kept s_trace_14 s_traced_14)) (wr := []) ⟨hx, hb, hml, hown, hts⟩ (m_X9_goatSize l dC dI cI cZ q_s q_s_lane q_s_many q_s_item q_s_isle q_s_fresh q_s_then q_s_was q_s_tape q_s_isKept q_s_kept q_s_trace s_thrown s_status s_lane s_many s_item s_isle s_fresh s_then s_was s_acts s_tape s_taped s_cursor s_start s_token s_value s_fault s_faultAt s_latest s_isKept s_kept s_trace_13 s_traced_13 v1 _ (r_14, s_trace_14, s_traced_14) hc_14) (cwV 1 hts gX9_markOf_X9_goatSize rfl rfl rfl ⟨rfl, ddX9_goatSize⟩ ⟨Nat.le_of_ble_eq_true rfl, Nat.le_of_ble_eq_true rfl⟩) hK hP hD hS hA [0, 1, 2, 3, 4, 5, 6, 7, 8, 9, 10, 11] [] rfl rfl rfl rfl (by decide) [0, 1, 2, 3, 4, 5, 6, 7, 8, 9, 10, 11] rfl rfl rfl rfl rfl rfl rfl hl.1 (Nat.le_of_ble_eq_true rfl) ⟨Nat.zero_le _, Nat.zero_le _⟩ dX9_markOf_30 (fun H locs hP hD hS => ?_)
    refine lv_isub hx hb dX9_markOf_33 ?_
    have h := Option.some.inj h
    subst h
    rw [hQQ]
    subst hAe
    exact W.iret (v := (v1 - r_14)) hx hb hr (fun t ht hW => ⟨⟨_, (), rfl, rfl, by rw [ht]; exact hP, va_K.moved hW.alike hK, hD⟩, hS.F ht⟩) hS.2.2 dX9_markOf_34
def fX9_sizeOf_J32 (s_isle : (Nat → Int32)) (v1 : Int32) (r_1 : Int32) (s_trace_j32 : (Nat → Int32)) (s_traced_j32 : Int32) : Option (Int32 × (Nat → Int32) × Int32) :=
  bd2 (fX9_began s_trace_j32 s_traced_j32 11) (fun s_trace_3 s_traced_3 => bd3 (fX9_plainSize s_isle s_trace_3 s_traced_3 v1) (fun r_4 s_trace_4 s_traced_4 => bd3 (fX9_markOf s_isle s_trace_4 s_traced_4 v1) (fun r_5 s_trace_5 s_traced_5 => (if r_1 = 2 then some ((-(r_4 + r_5)), s_trace_5, s_traced_5) else some ((r_4 + r_5), s_trace_5, s_traced_5)))))
def fX9_sizeOf (s_isle : (Nat → Int32)) (s_trace : (Nat → Int32)) (s_traced : Int32) (v1 : Int32) : Option (Int32 × (Nat → Int32) × Int32) :=
  bd1 (fX9_of s_isle v1 0) (fun r_1 => (if r_1 < 4 then (if r_1 = 2 then bd2 (fX9_began s_trace s_traced 12) (fun s_trace_8 s_traced_8 => (fX9_sizeOf_J32 s_isle v1 r_1 s_trace_8 s_traced_8)) else (fX9_sizeOf_J32 s_isle v1 r_1 s_trace s_traced)) else bd3 (fX9_goatSize s_isle s_trace s_traced v1) (fun r_9 s_trace_9 s_traced_9 => some (r_9, s_trace_9, s_traced_9))))
abbrev rmX9_sizeOf : Room := { frames := 4, cells := 0, slots := 0, locals := 89 }
theorem ddX9_sizeOf : yX9_sizeOf.cls ≠ "java/lang/invoke/MethodHandle" ∧ yX9_sizeOf.cls ≠ "java/lang/invoke/VarHandle" ∧ (parseMethodDescriptor yX9_sizeOf.desc).map (fun d => d.parameters.length) = some 1 := by decide +kernel
set_option maxHeartbeats 4000000 in
set_option maxRecDepth 100000 in
theorem m_X9_sizeOf (l : Launch) (dC : Nat → ClassId) (dI : Nat → Nat → Nat) (cI cZ : ClassId) (q_s q_s_lane q_s_many q_s_item q_s_isle q_s_fresh q_s_then q_s_was q_s_tape q_s_isKept q_s_kept q_s_trace : Nat) (s_thrown : Int32) (s_status : Int32) (s_lane : (Nat → Int32)) (s_many : (Nat → Int32)) (s_item : (Nat → Int32)) (s_isle : (Nat → Int32)) (s_fresh : (Nat → Int32)) (s_then : (Nat → Int32)) (s_was : (Nat → Int32)) (s_acts : Int32) (s_tape : (Nat → Int32)) (s_taped : Int32) (s_cursor : Int32) (s_start : Int32) (s_token : Int32) (s_value : Int32) (s_fault : Int32) (s_faultAt : Int32) (s_latest : Int32) (s_isKept : (Nat → Int32)) (s_kept : (Nat → Int32)) (s_trace : (Nat → Int32)) (s_traced : Int32) (v1 : Int32) (sz : Nat) (res : Int32 × (Nat → Int32) × Int32) (hf : fX9_sizeOf s_isle s_trace s_traced v1 = some res) : Met l yX9_sizeOf wsX9_sizeOf rmX9_sizeOf (mtPc (dC, dI) (tyZ cI cZ) ((W_M cI cZ q_s q_s_lane q_s_many q_s_item q_s_isle q_s_fresh q_s_then q_s_was q_s_tape q_s_isKept q_s_kept q_s_trace s_thrown s_status s_lane s_many s_item s_isle s_fresh s_then s_was s_acts s_tape s_taped s_cursor s_start s_token s_value s_fault s_faultAt s_latest s_isKept s_kept s_trace s_traced)) [.ref q_s, .int v1] sz) (mtQi (dC, dI) (tyZ cI cZ) ((W_M cI cZ q_s q_s_lane q_s_many q_s_item q_s_isle q_s_fresh q_s_then q_s_was q_s_tape q_s_isKept q_s_kept q_s_trace s_thrown s_status s_lane s_many s_item s_isle s_fresh s_then s_was s_acts s_tape s_taped s_cursor s_start s_token s_value s_fault s_faultAt s_latest s_isKept s_kept s_trace s_traced)) ((W_M cI cZ q_s q_s_lane q_s_many q_s_item q_s_isle q_s_fresh q_s_then q_s_was q_s_tape q_s_isKept q_s_kept q_s_trace s_thrown s_status s_lane s_many s_item s_isle s_fresh s_then s_was s_acts s_tape s_taped s_cursor s_start s_token s_value s_fault s_faultAt s_latest s_isKept s_kept res.2.1 res.2.2)) res.1 sz) 0 0 (va_A ((W_M cI cZ q_s q_s_lane q_s_many q_s_item q_s_isle q_s_fresh q_s_then q_s_was q_s_tape q_s_isKept q_s_kept q_s_trace s_thrown s_status s_lane s_many s_item s_isle s_fresh s_then s_was s_acts s_tape s_taped s_cursor s_start s_token s_value s_fault s_faultAt s_latest s_isKept s_kept s_trace s_traced)) sz) := by
  refine Met.ofW (cc := cX9_sizeOf) (maxL := 4) (ret := (some .int)) (by decide) rfl ?_
  intro p e s m args below meth c s₁ B hml hv
  obtain ⟨rfl, hsz, hP, hK, hD0⟩ := hv
  have hx := B.exec
  have hb := B.bytes
  have hr := B.returns
  have hts := atoms_spec (ws := wsX9_sizeOf) B.pre
  have hown : s.vm.findClass RX9 = some m.cls := findClass_of_methodNamed B.named
  have hlocks := B.notSynchronized
  subst hsz
  have hD := hD0.self (sz := s.heap.size)
  obtain ⟨A, hAe⟩ : ∃ A, A = va_A ((W_M cI cZ q_s q_s_lane q_s_many q_s_item q_s_isle q_s_fresh q_s_then q_s_was q_s_tape q_s_isKept q_s_kept q_s_trace s_thrown s_status s_lane s_many s_item s_isle s_fresh s_then s_was s_acts s_tape s_taped s_cursor s_start s_token s_value s_fault s_faultAt s_latest s_isKept s_kept s_trace s_traced)) s.heap.size := ⟨_, rfl⟩
  rw [← hAe] at hD
  have hA : ∀ q : Nat, s.heap.size ≤ q → A q := fun q h => by rw [hAe]; exact Or.inr h
  have hS : va_S A s.heap s.heap [] := va_S.rf
  have hl := lv_entry ([.ref q_s, .int v1]) (n := 4) (Nat.le_of_ble_eq_true rfl)
  rw [lg_entry_eq]
  generalize (lg_sl ([.ref q_s, .int v1]) ++ List.replicate (4 - (lg_sl ([.ref q_s, .int v1])).length) Slot.unset).toArray = ls at hl ⊢
  have hl : lv_has ls 4 [(0, .ref q_s), (1, .int v1)] := hl
  obtain ⟨QQ, hQQ⟩ : ∃ Q, Q = MQ below (mtQi (dC, dI) (tyZ cI cZ) ((W_M cI cZ q_s q_s_lane q_s_many q_s_item q_s_isle q_s_fresh q_s_then q_s_was q_s_tape q_s_isKept q_s_kept q_s_trace s_thrown s_status s_lane s_many s_item s_isle s_fresh s_then s_was s_acts s_tape s_taped s_cursor s_start s_token s_value s_fault s_faultAt s_latest s_isKept s_kept s_trace s_traced)) ((W_M cI cZ q_s q_s_lane q_s_many q_s_item q_s_isle q_s_fresh q_s_then q_s_was q_s_tape q_s_isKept q_s_kept q_s_trace s_thrown s_status s_lane s_many s_item s_isle s_fresh s_then s_was s_acts s_tape s_taped s_cursor s_start s_token s_value s_fault s_faultAt s_latest s_isKept s_kept res.2.1 res.2.2)) res.1 s.heap.size) ([.ref q_s, .int v1] : List Value).toArray s 0 0 (va_A ((W_M cI cZ q_s q_s_lane q_s_many q_s_item q_s_isle q_s_fresh q_s_then q_s_was q_s_tape q_s_isKept q_s_kept q_s_trace s_thrown s_status s_lane s_many s_item s_isle s_fresh s_then s_was s_acts s_tape s_taped s_cursor s_start s_token s_value s_fault s_faultAt s_latest s_isKept s_kept s_trace s_traced)) s.heap.size) := ⟨_, rfl⟩
  rw [← hQQ]
  have w_0 := hts (Cond.fieldLink RX9 19 "TideInchesModel" "isle" "[I") (List.mem_of_getElem? (i := 1) rfl)
  have w_1 := (fun w hw => List.mem_cons_of_mem _ (List.mem_append_right _ hw) : ∀ w ∈ wsX90, w ∈ wsX9_sizeOf)
  have h := hf
  unfold fX9_sizeOf at h
  refine lv_aload_n hx hb dX9_sizeOf_0 rfl (lv_at hl 0 rfl) ?_
  refine va_get (D := (dC, dI)) (ci := 7) (v := .ref q_s_isle) (C := RX9) (T := TX9) (N := 23) hx hb hts w_1 hown hK hP 0 rfl rfl 5 (by decide) w_0 (fun _ h9 => h9) rfl dX9_sizeOf_1 ?_
  refine lv_iload_n hx hb dX9_sizeOf_4 rfl (lv_at hl 1 rfl) ?_
  refine lv_iconst (v := 0) hx hb dX9_sizeOf_5 (by decide) ?_
  obtain ⟨r_1, hc_1, h⟩ := bd1_of h
  refine cl_rS (As := [.ref q_s_isle, .int v1, .int 0]) (rest := []) ⟨hx, hb, hml, hown, hts⟩ (m_X9_of l dC dI cI cZ q_s_isle s_isle v1 0 (r_1) hc_1) (va_cwS 3 hts gX9_sizeOf_X9_of rfl rfl rfl ddX9_of ⟨Nat.le_of_ble_eq_true rfl, Nat.le_of_ble_eq_true rfl⟩) hK hP [4] rfl rfl rfl hl.1 (Nat.le_of_ble_eq_true rfl) ⟨Nat.zero_le _, Nat.zero_le _⟩ dX9_sizeOf_6 ?_
  refine lv_istore_n (lv' := [(2, .int r_1), (0, .ref q_s), (1, .int v1)]) hx hb dX9_sizeOf_9 rfl hl (by decide) rfl (fun ls hl => ?_)
  refine lv_iload_n hx hb dX9_sizeOf_10 rfl (lv_at hl 0 rfl) ?_
  refine lv_iconst (v := 4) hx hb dX9_sizeOf_11 (by decide) ?_
  refine lv_icmp_lt (tgt := 21) hx hb dX9_sizeOf_12 (by decide) (fun c_2 => ?_) (fun c_2 => ?_)
  · have h := (if_pos c_2).symm.trans h
    refine lv_iload_n hx hb dX9_sizeOf_21 rfl (lv_at hl 0 rfl) ?_
    refine lv_iconst (v := 2) hx hb dX9_sizeOf_22 (by decide) ?_
    have KJ32 : ∀ (s_trace_j32 : (Nat → Int32)) (s_traced_j32 : Int32) (H : Heap) (locs : List Loc) (ls : Array Slot), va_P (dC, dI) vwCl ((W_M cI cZ q_s q_s_lane q_s_many q_s_item q_s_isle q_s_fresh q_s_then q_s_was q_s_tape q_s_isKept q_s_kept q_s_trace s_thrown s_status s_lane s_many s_item s_isle s_fresh s_then s_was s_acts s_tape s_taped s_cursor s_start s_token s_value s_fault s_faultAt s_latest s_isKept s_kept s_trace_j32 s_traced_j32)) H → va_D A ((W_M cI cZ q_s q_s_lane q_s_many q_s_item q_s_isle q_s_fresh q_s_then q_s_was q_s_tape q_s_isKept q_s_kept q_s_trace s_thrown s_status s_lane s_many s_item s_isle s_fresh s_then s_was s_acts s_tape s_taped s_cursor s_start s_token s_value s_fault s_faultAt s_latest s_isKept s_kept s_trace_j32 s_traced_j32)) → va_S A s.heap H locs → lv_has ls 4 [(0, .ref q_s), (1, .int v1), (2, .int r_1)] → fX9_sizeOf_J32 s_isle v1 r_1 s_trace_j32 s_traced_j32 = some res → W p l e (headSpec wsX9_sizeOf rmX9_sizeOf).room s m ([.ref q_s, .int v1] : List Value).toArray below meth c H locs 0 0 QQ (F0 m 32 ls []) := by
      intro s_trace_j32 s_traced_j32 H locs ls hP hD hS hl h
      unfold fX9_sizeOf_J32 at h
      refine lv_aload_n hx hb dX9_sizeOf_32 rfl (lv_at hl 0 rfl) ?_
      refine lv_bipush (v := 11) hx hb dX9_sizeOf_33 (by decide) ?_
      obtain ⟨s_trace_3, s_traced_3, hc_3, h⟩ := bd2_of h
      refine cl_mVv (As := [.int 11]) (rest := []) (ws' := (W_M cI cZ q_s q_s_lane q_s_many q_s_item q_s_isle q_s_fresh q_s_then q_s_was q_s_tape q_s_isKept q_s_kept q_s_trace s_thrown s_status s_lane s_many s_item s_isle s_fresh s_then s_was s_acts s_tape s_taped s_cursor s_start s_token s_value s_fault s_faultAt s_latest s_isKept s_kept s_trace_3 s_traced_3)) (wr := []) ⟨hx, hb, hml, hown, hts⟩ (m_X9_began l dC dI cI cZ q_s q_s_lane q_s_many q_s_item q_s_isle q_s_fresh q_s_then q_s_was q_s_tape q_s_isKept q_s_kept q_s_trace s_thrown s_status s_lane s_many s_item s_isle s_fresh s_then s_was s_acts s_tape s_taped s_cursor s_start s_token s_value s_fault s_faultAt s_latest s_isKept s_kept s_trace_j32 s_traced_j32 11 _ (s_trace_3, s_traced_3) hc_3) (cwV 1 hts gX9_sizeOf_X9_began rfl rfl rfl ⟨rfl, ddX9_began⟩ ⟨Nat.le_of_ble_eq_true rfl, Nat.le_of_ble_eq_true rfl⟩) hK hP hD hS hA [0, 1, 2, 3, 4, 5, 6, 7, 8, 9, 10, 11] [] rfl rfl rfl rfl (by decide) [0, 1, 2, 3, 4, 5, 6, 7, 8, 9, 10, 11] rfl rfl rfl rfl rfl rfl rfl hl.1 (Nat.le_of_ble_eq_true rfl) ⟨Nat.zero_le _, Nat.zero_le _⟩ dX9_sizeOf_35 (fun H locs hP hD hS => ?_)
      refine lv_aload_n hx hb dX9_sizeOf_38 rfl (lv_at hl 0 rfl) ?_
      refine lv_iload_n hx hb dX9_sizeOf_39 rfl (lv_at hl 1 rfl) ?_
      obtain ⟨r_4, s_trace_4, s_traced_4, hc_4, h⟩ := bd3_of h
      refine cl_mVi (As := [.int v1]) (rest := []) (ws' := (W_M cI cZ q_s q_s_lane q_s_many q_s_item q_s_isle q_s_fresh q_s_then q_s_was q_s_tape q_s_isKept q_s_kept q_s_trace s_thrown s_status s_lane s_many s_item s_isle s_fresh s_then s_was s_acts s_tape s_taped s_cursor s_start s_token s_value s_fault s_faultAt s_latest s_isKept s_kept s_trace_4 s_traced_4)) (wr := []) ⟨hx, hb, hml, hown, hts⟩ (m_X9_plainSize l dC dI cI cZ q_s q_s_lane q_s_many q_s_item q_s_isle q_s_fresh q_s_then q_s_was q_s_tape q_s_isKept q_s_kept q_s_trace s_thrown s_status s_lane s_many s_item s_isle s_fresh s_then s_was s_acts s_tape s_taped s_cursor s_start s_token s_value s_fault s_faultAt s_latest s_isKept s_kept s_trace_3 s_traced_3 v1 _ (r_4, s_trace_4, s_traced_4) hc_4) (cwV 1 hts gX9_sizeOf_X9_plainSize rfl rfl rfl ⟨rfl, ddX9_plainSize⟩ ⟨Nat.le_of_ble_eq_true rfl, Nat.le_of_ble_eq_true rfl⟩) hK hP hD hS hA [0, 1, 2, 3, 4, 5, 6, 7, 8, 9, 10, 11] [] rfl rfl rfl rfl (by decide) [0, 1, 2, 3, 4, 5, 6, 7, 8, 9, 10, 11] rfl rfl rfl rfl rfl rfl rfl hl.1 (Nat.le_of_ble_eq_true rfl) ⟨Nat.zero_le _, Nat.zero_le _⟩ dX9_sizeOf_40 (fun H locs hP hD hS => ?_)
      refine lv_istore_n (lv' := [(3, .int r_4), (0, .ref q_s), (1, .int v1), (2, .int r_1)]) hx hb dX9_sizeOf_43 rfl hl (by decide) rfl (fun ls hl => ?_)
      refine lv_iload_n hx hb dX9_sizeOf_44 rfl (lv_at hl 0 rfl) ?_
      refine lv_aload_n hx hb dX9_sizeOf_45 rfl (lv_at hl 1 rfl) ?_
      refine lv_iload_n hx hb dX9_sizeOf_46 rfl (lv_at hl 2 rfl) ?_
      obtain ⟨r_5, s_trace_5, s_traced_5, hc_5, h⟩ := bd3_of h
      refine cl_mVi (As := [.int v1]) (rest := [.int r_4]) (ws' := (W_M cI cZ q_s q_s_lane q_s_many q_s_item q_s_isle q_s_fresh q_s_then q_s_was q_s_tape q_s_isKept q_s_kept q_s_trace s_thrown s_status s_lane s_many s_item s_isle s_fresh s_then s_was s_acts s_tape s_taped s_cursor s_start s_token s_value s_fault s_faultAt s_latest s_isKept s_kept s_trace_5 s_traced_5)) (wr := []) ⟨hx, hb, hml, hown, hts⟩ (m_X9_markOf l dC dI cI cZ q_s q_s_lane q_s_many q_s_item q_s_isle q_s_fresh q_s_then q_s_was q_s_tape q_s_isKept q_s_kept q_s_trace s_thrown s_status s_lane s_many s_item s_isle s_fresh s_then s_was s_acts s_tape s_taped s_cursor s_start s_token s_value s_fault s_faultAt s_latest s_isKept s_kept s_trace_4 s_traced_4 v1 _ (r_5, s_trace_5, s_traced_5) hc_5) (cwV 1 hts gX9_sizeOf_X9_markOf rfl rfl rfl ⟨rfl, ddX9_markOf⟩ ⟨Nat.le_of_ble_eq_true rfl, Nat.le_of_ble_eq_true rfl⟩) hK hP hD hS hA [0, 1, 2, 3, 4, 5, 6, 7, 8, 9, 10, 11] [] rfl rfl rfl rfl (by decide) [0, 1, 2, 3, 4, 5, 6, 7, 8, 9, 10, 11] rfl rfl rfl rfl rfl rfl rfl hl.1 (Nat.le_of_ble_eq_true rfl) ⟨Nat.zero_le _, Nat.zero_le _⟩ dX9_sizeOf_47 (fun H locs hP hD hS => ?_)
      refine lv_iadd hx hb dX9_sizeOf_50 ?_
      refine lv_istore_n (lv' := [(3, .int (r_4 + r_5)), (0, .ref q_s), (1, .int v1), (2, .int r_1)]) hx hb dX9_sizeOf_51 rfl hl (by decide) rfl (fun ls hl => ?_)
      refine lv_iload_n hx hb dX9_sizeOf_52 rfl (lv_at hl 3 rfl) ?_
      refine lv_iconst (v := 2) hx hb dX9_sizeOf_53 (by decide) ?_
      refine lv_icmp_ne (tgt := 62) hx hb dX9_sizeOf_54 (by decide) (fun c_6 => ?_) (fun c_6 => ?_)
      · have h := (if_neg c_6).symm.trans h
        refine lv_iload_n hx hb dX9_sizeOf_62 rfl (lv_at hl 0 rfl) ?_
        have h := Option.some.inj h
        subst h
        rw [hQQ]
        subst hAe
        exact W.iret (v := (r_4 + r_5)) hx hb hr (fun t ht hW => ⟨⟨_, (), rfl, rfl, by rw [ht]; exact hP, va_K.moved hW.alike hK, hD⟩, hS.F ht⟩) hS.2.2 dX9_sizeOf_63
      · have h := (if_pos c_6).symm.trans h
        refine lv_iload_n hx hb dX9_sizeOf_57 rfl (lv_at hl 0 rfl) ?_
        refine lv_ineg hx hb dX9_sizeOf_58 ?_
        refine lv_goto (tgt := 63) hx hb dX9_sizeOf_59 (by decide) ?_
        have h := Option.some.inj h
        subst h
        rw [hQQ]
        subst hAe
        exact W.iret (v := (-(r_4 + r_5))) hx hb hr (fun t ht hW => ⟨⟨_, (), rfl, rfl, by rw [ht]; exact hP, va_K.moved hW.alike hK, hD⟩, hS.F ht⟩) hS.2.2 dX9_sizeOf_63
    refine lv_icmp_ne (tgt := 32) hx hb dX9_sizeOf_23 (by decide) (fun c_7 => ?_) (fun c_7 => ?_)
    · have h := (if_neg c_7).symm.trans h
      exact KJ32 s_trace s_traced _ _ _ hP hD hS (lv_sub hl [1, 2, 0] rfl) h
    · have h := (if_pos c_7).symm.trans h
      refine lv_aload_n hx hb dX9_sizeOf_26 rfl (lv_at hl 1 rfl) ?_
      refine lv_bipush (v := 12) hx hb dX9_sizeOf_27 (by decide) ?_
      obtain ⟨s_trace_8, s_traced_8, hc_8, h⟩ := bd2_of h
      refine cl_mVv (As := [.int 12]) (rest := []) (ws' := (W_M cI cZ q_s q_s_lane q_s_many q_s_item q_s_isle q_s_fresh q_s_then q_s_was q_s_tape q_s_isKept q_s_kept q_s_trace s_thrown s_status s_lane s_many s_item s_isle s_fresh s_then s_was s_acts s_tape s_taped s_cursor s_start s_token s_value s_fault s_faultAt s_latest s_isKept s_kept s_trace_8 s_traced_8)) (wr := []) ⟨hx, hb, hml, hown, hts⟩ (m_X9_began l dC dI cI cZ q_s q_s_lane q_s_many q_s_item q_s_isle q_s_fresh q_s_then q_s_was q_s_tape q_s_isKept q_s_kept q_s_trace s_thrown s_status s_lane s_many s_item s_isle s_fresh s_then s_was s_acts s_tape s_taped s_cursor s_start s_token s_value s_fault s_faultAt s_latest s_isKept s_kept s_trace s_traced 12 _ (s_trace_8, s_traced_8) hc_8) (cwV 1 hts gX9_sizeOf_X9_began rfl rfl rfl ⟨rfl, ddX9_began⟩ ⟨Nat.le_of_ble_eq_true rfl, Nat.le_of_ble_eq_true rfl⟩) hK hP hD hS hA [0, 1, 2, 3, 4, 5, 6, 7, 8, 9, 10, 11] [] rfl rfl rfl rfl (by decide) [0, 1, 2, 3, 4, 5, 6, 7, 8, 9, 10, 11] rfl rfl rfl rfl rfl rfl rfl hl.1 (Nat.le_of_ble_eq_true rfl) ⟨Nat.zero_le _, Nat.zero_le _⟩ dX9_sizeOf_29 (fun H locs hP hD hS => ?_)
      exact KJ32 s_trace_8 s_traced_8 _ _ _ hP hD hS (lv_sub hl [1, 2, 0] rfl) h
  · have h := (if_neg c_2).symm.trans h
    refine lv_aload_n hx hb dX9_sizeOf_15 rfl (lv_at hl 1 rfl) ?_
    refine lv_iload_n hx hb dX9_sizeOf_16 rfl (lv_at hl 2 rfl) ?_
    obtain ⟨r_9, s_trace_9, s_traced_9, hc_9, h⟩ := bd3_of h
    refine cl_mVi (As := [.int v1]) (rest := []) (ws' := (W_M cI cZ q_s q_s_lane q_s_many q_s_item q_s_isle q_s_fresh q_s_then q_s_was q_s_tape q_s_isKept q_s_kept q_s_trace s_thrown s_status s_lane s_many s_item s_isle s_fresh s_then s_was s_acts s_tape s_taped s_cursor s_start s_token s_value s_fault s_faultAt s_latest s_isKept s_kept s_trace_9 s_traced_9)) (wr := []) ⟨hx, hb, hml, hown, hts⟩ (m_X9_goatSize l dC dI cI cZ q_s q_s_lane q_s_many q_s_item q_s_isle q_s_fresh q_s_then q_s_was q_s_tape q_s_isKept q_s_kept q_s_trace s_thrown s_status s_lane s_many s_item s_isle s_fresh s_then s_was s_acts s_tape s_taped s_cursor s_start s_token s_value s_fault s_faultAt s_latest s_isKept s_kept s_trace s_traced v1 _ (r_9, s_trace_9, s_traced_9) hc_9) (cwV 1 hts gX9_sizeOf_X9_goatSize rfl rfl rfl ⟨rfl, ddX9_goatSize⟩ ⟨Nat.le_of_ble_eq_true rfl, Nat.le_of_ble_eq_true rfl⟩) hK hP hD hS hA [0, 1, 2, 3, 4, 5, 6, 7, 8, 9, 10, 11] [] rfl rfl rfl rfl (by decide) [0, 1, 2, 3, 4, 5, 6, 7, 8, 9, 10, 11] rfl rfl rfl rfl rfl rfl rfl hl.1 (Nat.le_of_ble_eq_true rfl) ⟨Nat.zero_le _, Nat.zero_le _⟩ dX9_sizeOf_17 (fun H locs hP hD hS => ?_)
    have h := Option.some.inj h
    subst h
    rw [hQQ]
    subst hAe
    exact W.iret (v := r_9) hx hb hr (fun t ht hW => ⟨⟨_, (), rfl, rfl, by rw [ht]; exact hP, va_K.moved hW.alike hK, hD⟩, hS.F ht⟩) hS.2.2 dX9_sizeOf_20
def fX9_ask (s_isle : (Nat → Int32)) (s_trace : (Nat → Int32)) (s_traced : Int32) (v1 : Int32) (v2 : Int32) : Option (Int32 × Int32 × (Nat → Int32) × Int32) :=
  bd1 (fX9_isBidder s_isle v1) (fun r_1 => (if r_1 = 0 then some ((-1000001), 0, s_trace, s_traced) else bd1 (fX9_in v2.toInt64 0 1) (fun r_3 => (if r_3 = 0 then some ((-1000001), 0, s_trace, s_traced) else (if v2 = 0 then bd3 (fX9_sizeOf s_isle s_trace 0 v1) (fun r_7 s_trace_7 s_traced_7 => some (r_7, 0, s_trace_7, s_traced_7)) else bd3 (fX9_markOf s_isle s_trace 0 v1) (fun r_6 s_trace_6 s_traced_6 => some (r_6, 0, s_trace_6, s_traced_6)))))))
abbrev rmX9_ask : Room := { frames := 5, cells := 0, slots := 0, locals := 112 }
theorem ddX9_ask : yX9_ask.cls ≠ "java/lang/invoke/MethodHandle" ∧ yX9_ask.cls ≠ "java/lang/invoke/VarHandle" ∧ (parseMethodDescriptor yX9_ask.desc).map (fun d => d.parameters.length) = some 2 := by decide +kernel
set_option maxHeartbeats 4000000 in
set_option maxRecDepth 100000 in
theorem m_X9_ask (l : Launch) (dC : Nat → ClassId) (dI : Nat → Nat → Nat) (cI cZ : ClassId) (q_s q_s_lane q_s_many q_s_item q_s_isle q_s_fresh q_s_then q_s_was q_s_tape q_s_isKept q_s_kept q_s_trace : Nat) (s_thrown : Int32) (s_status : Int32) (s_lane : (Nat → Int32)) (s_many : (Nat → Int32)) (s_item : (Nat → Int32)) (s_isle : (Nat → Int32)) (s_fresh : (Nat → Int32)) (s_then : (Nat → Int32)) (s_was : (Nat → Int32)) (s_acts : Int32) (s_tape : (Nat → Int32)) (s_taped : Int32) (s_cursor : Int32) (s_start : Int32) (s_token : Int32) (s_value : Int32) (s_fault : Int32) (s_faultAt : Int32) (s_latest : Int32) (s_isKept : (Nat → Int32)) (s_kept : (Nat → Int32)) (s_trace : (Nat → Int32)) (s_traced : Int32) (v1 : Int32) (v2 : Int32) (sz : Nat) (res : Int32 × Int32 × (Nat → Int32) × Int32) (hf : fX9_ask s_isle s_trace s_traced v1 v2 = some res) : Met l yX9_ask wsX9_ask rmX9_ask (mtPc (dC, dI) (tyZ cI cZ) ((W_M cI cZ q_s q_s_lane q_s_many q_s_item q_s_isle q_s_fresh q_s_then q_s_was q_s_tape q_s_isKept q_s_kept q_s_trace s_thrown s_status s_lane s_many s_item s_isle s_fresh s_then s_was s_acts s_tape s_taped s_cursor s_start s_token s_value s_fault s_faultAt s_latest s_isKept s_kept s_trace s_traced)) [.ref q_s, .int v1, .int v2] sz) (mtQi (dC, dI) (tyZ cI cZ) ((W_M cI cZ q_s q_s_lane q_s_many q_s_item q_s_isle q_s_fresh q_s_then q_s_was q_s_tape q_s_isKept q_s_kept q_s_trace s_thrown s_status s_lane s_many s_item s_isle s_fresh s_then s_was s_acts s_tape s_taped s_cursor s_start s_token s_value s_fault s_faultAt s_latest s_isKept s_kept s_trace s_traced)) ((W_M cI cZ q_s q_s_lane q_s_many q_s_item q_s_isle q_s_fresh q_s_then q_s_was q_s_tape q_s_isKept q_s_kept q_s_trace res.2.1 s_status s_lane s_many s_item s_isle s_fresh s_then s_was s_acts s_tape s_taped s_cursor s_start s_token s_value s_fault s_faultAt s_latest s_isKept s_kept res.2.2.1 res.2.2.2)) res.1 sz) 0 0 (va_A ((W_M cI cZ q_s q_s_lane q_s_many q_s_item q_s_isle q_s_fresh q_s_then q_s_was q_s_tape q_s_isKept q_s_kept q_s_trace s_thrown s_status s_lane s_many s_item s_isle s_fresh s_then s_was s_acts s_tape s_taped s_cursor s_start s_token s_value s_fault s_faultAt s_latest s_isKept s_kept s_trace s_traced)) sz) := by
  refine Met.ofW (cc := cX9_ask) (maxL := 3) (ret := (some .int)) (by decide) rfl ?_
  intro p e s m args below meth c s₁ B hml hv
  obtain ⟨rfl, hsz, hP, hK, hD0⟩ := hv
  have hx := B.exec
  have hb := B.bytes
  have hr := B.returns
  have hts := atoms_spec (ws := wsX9_ask) B.pre
  have hown : s.vm.findClass RX9 = some m.cls := findClass_of_methodNamed B.named
  have hlocks := B.notSynchronized
  subst hsz
  have hD := hD0.self (sz := s.heap.size)
  obtain ⟨A, hAe⟩ : ∃ A, A = va_A ((W_M cI cZ q_s q_s_lane q_s_many q_s_item q_s_isle q_s_fresh q_s_then q_s_was q_s_tape q_s_isKept q_s_kept q_s_trace s_thrown s_status s_lane s_many s_item s_isle s_fresh s_then s_was s_acts s_tape s_taped s_cursor s_start s_token s_value s_fault s_faultAt s_latest s_isKept s_kept s_trace s_traced)) s.heap.size := ⟨_, rfl⟩
  rw [← hAe] at hD
  have hA : ∀ q : Nat, s.heap.size ≤ q → A q := fun q h => by rw [hAe]; exact Or.inr h
  have hS : va_S A s.heap s.heap [] := va_S.rf
  have hl := lv_entry ([.ref q_s, .int v1, .int v2]) (n := 3) (Nat.le_of_ble_eq_true rfl)
  rw [lg_entry_eq]
  generalize (lg_sl ([.ref q_s, .int v1, .int v2]) ++ List.replicate (3 - (lg_sl ([.ref q_s, .int v1, .int v2])).length) Slot.unset).toArray = ls at hl ⊢
  have hl : lv_has ls 3 [(0, .ref q_s), (1, .int v1), (2, .int v2)] := hl
  obtain ⟨QQ, hQQ⟩ : ∃ Q, Q = MQ below (mtQi (dC, dI) (tyZ cI cZ) ((W_M cI cZ q_s q_s_lane q_s_many q_s_item q_s_isle q_s_fresh q_s_then q_s_was q_s_tape q_s_isKept q_s_kept q_s_trace s_thrown s_status s_lane s_many s_item s_isle s_fresh s_then s_was s_acts s_tape s_taped s_cursor s_start s_token s_value s_fault s_faultAt s_latest s_isKept s_kept s_trace s_traced)) ((W_M cI cZ q_s q_s_lane q_s_many q_s_item q_s_isle q_s_fresh q_s_then q_s_was q_s_tape q_s_isKept q_s_kept q_s_trace res.2.1 s_status s_lane s_many s_item s_isle s_fresh s_then s_was s_acts s_tape s_taped s_cursor s_start s_token s_value s_fault s_faultAt s_latest s_isKept s_kept res.2.2.1 res.2.2.2)) res.1 s.heap.size) ([.ref q_s, .int v1, .int v2] : List Value).toArray s 0 0 (va_A ((W_M cI cZ q_s q_s_lane q_s_many q_s_item q_s_isle q_s_fresh q_s_then q_s_was q_s_tape q_s_isKept q_s_kept q_s_trace s_thrown s_status s_lane s_many s_item s_isle s_fresh s_then s_was s_acts s_tape s_taped s_cursor s_start s_token s_value s_fault s_faultAt s_latest s_isKept s_kept s_trace s_traced)) s.heap.size) := ⟨_, rfl⟩
  rw [← hQQ]
  have w_0 := hts (Cond.fieldLink RX9 44 "TideInchesModel" "thrown" "I") (List.mem_of_getElem? (i := 1) rfl)
  have w_1 := (fun w hw => List.mem_cons_of_mem _ (List.mem_append_right _ hw) : ∀ w ∈ wsX90, w ∈ wsX9_ask)
  have w_2 := hts (Cond.constant RX9 64 (-1000001)) (List.mem_of_getElem? (i := 2) rfl)
  have w_3 := hts (Cond.fieldLink RX9 248 "TideInchesModel" "traced" "I") (List.mem_of_getElem? (i := 3) rfl)
  have h := hf
  unfold fX9_ask at h
  refine lv_aload_n hx hb dX9_ask_0 rfl (lv_at hl 0 rfl) ?_
  refine lv_iconst (v := 0) hx hb dX9_ask_1 (by decide) ?_
  refine va_put (D := (dC, dI)) (ci := 7) (v := .int 0) (ty := .int) (C := RX9) (T := TX9) (N := 23) hx hb hts w_1 tyX9 tyX9_ok nmX9 hown hK hP hD hS 0 rfl rfl 0 (by decide) w_0 (fun _ h9 => h9) rfl (by decide +kernel) rfl rfl (Nat.le_of_ble_eq_true rfl) dX9_ask_2 (fun H locs hP hD hS => ?_)
  have hP : va_P (dC, dI) vwCl ((W_M cI cZ q_s q_s_lane q_s_many q_s_item q_s_isle q_s_fresh q_s_then q_s_was q_s_tape q_s_isKept q_s_kept q_s_trace 0 s_status s_lane s_many s_item s_isle s_fresh s_then s_was s_acts s_tape s_taped s_cursor s_start s_token s_value s_fault s_faultAt s_latest s_isKept s_kept s_trace s_traced)) H := hP
  have hD : va_D A ((W_M cI cZ q_s q_s_lane q_s_many q_s_item q_s_isle q_s_fresh q_s_then q_s_was q_s_tape q_s_isKept q_s_kept q_s_trace 0 s_status s_lane s_many s_item s_isle s_fresh s_then s_was s_acts s_tape s_taped s_cursor s_start s_token s_value s_fault s_faultAt s_latest s_isKept s_kept s_trace s_traced)) := hD
  refine lv_aload_n hx hb dX9_ask_5 rfl (lv_at hl 0 rfl) ?_
  refine lv_iload_n hx hb dX9_ask_6 rfl (lv_at hl 1 rfl) ?_
  obtain ⟨r_1, hc_1, h⟩ := bd1_of h
  refine cl_rV (As := [.int v1]) (rest := []) ⟨hx, hb, hml, hown, hts⟩ (m_X9_isBidder l dC dI cI cZ q_s q_s_lane q_s_many q_s_item q_s_isle q_s_fresh q_s_then q_s_was q_s_tape q_s_isKept q_s_kept q_s_trace 0 s_status s_lane s_many s_item s_isle s_fresh s_then s_was s_acts s_tape s_taped s_cursor s_start s_token s_value s_fault s_faultAt s_latest s_isKept s_kept s_trace s_traced v1 (r_1) hc_1) (cwV 1 hts gX9_ask_X9_isBidder rfl rfl rfl ⟨rfl, ddX9_isBidder⟩ ⟨Nat.le_of_ble_eq_true rfl, Nat.le_of_ble_eq_true rfl⟩) hK hP [0, 1, 2, 3, 4, 5, 6, 7, 8, 9, 10, 11] rfl rfl rfl rfl rfl hl.1 (Nat.le_of_ble_eq_true rfl) ⟨Nat.zero_le _, Nat.zero_le _⟩ dX9_ask_7 ?_
  refine lv_if_eq (tgt := 23) hx hb dX9_ask_10 (by decide) (fun c_2 => ?_) (fun c_2 => ?_)
  · have h := (if_pos c_2).symm.trans h
    refine lv_ldc hx hb hown w_2 dX9_ask_23 ?_
    have h := Option.some.inj h
    subst h
    rw [hQQ]
    subst hAe
    exact W.iret (v := (-1000001)) hx hb hr (fun t ht hW => ⟨⟨_, (), rfl, rfl, by rw [ht]; exact hP, va_K.moved hW.alike hK, hD⟩, hS.F ht⟩) hS.2.2 dX9_ask_25
  · have h := (if_neg c_2).symm.trans h
    refine lv_iload_n hx hb dX9_ask_13 rfl (lv_at hl 2 rfl) ?_
    refine lv_i2l hx hb dX9_ask_14 rfl ?_
    refine lv_lconst (v := 0) hx hb dX9_ask_15 (by decide) ?_
    refine lv_lconst (v := 1) hx hb dX9_ask_16 (by decide) ?_
    obtain ⟨r_3, hc_3, h⟩ := bd1_of h
    refine cl_pS (As := [.long v2.toInt64, .long 0, .long 1]) (rest := []) ⟨hx, hb, hml, hown, hts⟩ (m_X9_in l v2.toInt64 0 1 (r_3) hc_3) (va_cwS 3 hts gX9_ask_X9_in rfl rfl rfl ddX9_in ⟨Nat.le_of_ble_eq_true rfl, Nat.le_of_ble_eq_true rfl⟩) rfl rfl hl.1 (Nat.le_of_ble_eq_true rfl) ⟨Nat.zero_le _, Nat.zero_le _⟩ dX9_ask_17 ?_
    refine lv_if_ne (tgt := 26) hx hb dX9_ask_20 (by decide) (fun c_4 => ?_) (fun c_4 => ?_)
    · have h := (if_neg c_4).symm.trans h
      refine lv_aload_n hx hb dX9_ask_26 rfl (lv_at hl 0 rfl) ?_
      refine lv_iconst (v := 0) hx hb dX9_ask_27 (by decide) ?_
      refine va_put (D := (dC, dI)) (ci := 7) (v := .int 0) (ty := .int) (C := RX9) (T := TX9) (N := 23) hx hb hts w_1 tyX9 tyX9_ok nmX9 hown hK hP hD hS 0 rfl rfl 22 (by decide) w_3 (fun _ h9 => h9) rfl (by decide +kernel) rfl rfl (Nat.le_of_ble_eq_true rfl) dX9_ask_28 (fun H locs hP hD hS => ?_)
      have hP : va_P (dC, dI) vwCl ((W_M cI cZ q_s q_s_lane q_s_many q_s_item q_s_isle q_s_fresh q_s_then q_s_was q_s_tape q_s_isKept q_s_kept q_s_trace 0 s_status s_lane s_many s_item s_isle s_fresh s_then s_was s_acts s_tape s_taped s_cursor s_start s_token s_value s_fault s_faultAt s_latest s_isKept s_kept s_trace 0)) H := hP
      have hD : va_D A ((W_M cI cZ q_s q_s_lane q_s_many q_s_item q_s_isle q_s_fresh q_s_then q_s_was q_s_tape q_s_isKept q_s_kept q_s_trace 0 s_status s_lane s_many s_item s_isle s_fresh s_then s_was s_acts s_tape s_taped s_cursor s_start s_token s_value s_fault s_faultAt s_latest s_isKept s_kept s_trace 0)) := hD
      refine lv_iload_n hx hb dX9_ask_31 rfl (lv_at hl 2 rfl) ?_
      refine lv_if_ne (tgt := 43) hx hb dX9_ask_32 (by decide) (fun c_5 => ?_) (fun c_5 => ?_)
      · have h := (if_neg c_5).symm.trans h
        refine lv_aload_n hx hb dX9_ask_43 rfl (lv_at hl 0 rfl) ?_
        refine lv_iload_n hx hb dX9_ask_44 rfl (lv_at hl 1 rfl) ?_
        obtain ⟨r_6, s_trace_6, s_traced_6, hc_6, h⟩ := bd3_of h
        refine cl_mVi (As := [.int v1]) (rest := []) (ws' := (W_M cI cZ q_s q_s_lane q_s_many q_s_item q_s_isle q_s_fresh q_s_then q_s_was q_s_tape q_s_isKept q_s_kept q_s_trace 0 s_status s_lane s_many s_item s_isle s_fresh s_then s_was s_acts s_tape s_taped s_cursor s_start s_token s_value s_fault s_faultAt s_latest s_isKept s_kept s_trace_6 s_traced_6)) (wr := []) ⟨hx, hb, hml, hown, hts⟩ (m_X9_markOf l dC dI cI cZ q_s q_s_lane q_s_many q_s_item q_s_isle q_s_fresh q_s_then q_s_was q_s_tape q_s_isKept q_s_kept q_s_trace 0 s_status s_lane s_many s_item s_isle s_fresh s_then s_was s_acts s_tape s_taped s_cursor s_start s_token s_value s_fault s_faultAt s_latest s_isKept s_kept s_trace 0 v1 _ (r_6, s_trace_6, s_traced_6) hc_6) (cwV 1 hts gX9_ask_X9_markOf rfl rfl rfl ⟨rfl, ddX9_markOf⟩ ⟨Nat.le_of_ble_eq_true rfl, Nat.le_of_ble_eq_true rfl⟩) hK hP hD hS hA [0, 1, 2, 3, 4, 5, 6, 7, 8, 9, 10, 11] [] rfl rfl rfl rfl (by decide) [0, 1, 2, 3, 4, 5, 6, 7, 8, 9, 10, 11] rfl rfl rfl rfl rfl rfl rfl hl.1 (Nat.le_of_ble_eq_true rfl) ⟨Nat.zero_le _, Nat.zero_le _⟩ dX9_ask_45 (fun H locs hP hD hS => ?_)
        have h := Option.some.inj h
        subst h
        rw [hQQ]
        subst hAe
        exact W.iret (v := r_6) hx hb hr (fun t ht hW => ⟨⟨_, (), rfl, rfl, by rw [ht]; exact hP, va_K.moved hW.alike hK, hD⟩, hS.F ht⟩) hS.2.2 dX9_ask_48
      · have h := (if_pos c_5).symm.trans h
        refine lv_aload_n hx hb dX9_ask_35 rfl (lv_at hl 0 rfl) ?_
        refine lv_iload_n hx hb dX9_ask_36 rfl (lv_at hl 1 rfl) ?_
        obtain ⟨r_7, s_trace_7, s_traced_7, hc_7, h⟩ := bd3_of h
        refine cl_mVi (As := [.int v1]) (rest := []) (ws' := (W_M cI cZ q_s q_s_lane q_s_many q_s_item q_s_isle q_s_fresh q_s_then q_s_was q_s_tape q_s_isKept q_s_kept q_s_trace 0 s_status s_lane s_many s_item s_isle s_fresh s_then s_was s_acts s_tape s_taped s_cursor s_start s_token s_value s_fault s_faultAt s_latest s_isKept s_kept s_trace_7 s_traced_7)) (wr := []) ⟨hx, hb, hml, hown, hts⟩ (m_X9_sizeOf l dC dI cI cZ q_s q_s_lane q_s_many q_s_item q_s_isle q_s_fresh q_s_then q_s_was q_s_tape q_s_isKept q_s_kept q_s_trace 0 s_status s_lane s_many s_item s_isle s_fresh s_then s_was s_acts s_tape s_taped s_cursor s_start s_token s_value s_fault s_faultAt s_latest s_isKept s_kept s_trace 0 v1 _ (r_7, s_trace_7, s_traced_7) hc_7) (cwV 1 hts gX9_ask_X9_sizeOf rfl rfl rfl ⟨rfl, ddX9_sizeOf⟩ ⟨Nat.le_of_ble_eq_true rfl, Nat.le_of_ble_eq_true rfl⟩) hK hP hD hS hA [0, 1, 2, 3, 4, 5, 6, 7, 8, 9, 10, 11] [] rfl rfl rfl rfl (by decide) [0, 1, 2, 3, 4, 5, 6, 7, 8, 9, 10, 11] rfl rfl rfl rfl rfl rfl rfl hl.1 (Nat.le_of_ble_eq_true rfl) ⟨Nat.zero_le _, Nat.zero_le _⟩ dX9_ask_37 (fun H locs hP hD hS => ?_)
        refine lv_goto (tgt := 48) hx hb dX9_ask_40 (by decide) ?_
        have h := Option.some.inj h
        subst h
        rw [hQQ]
        subst hAe
        exact W.iret (v := r_7) hx hb hr (fun t ht hW => ⟨⟨_, (), rfl, rfl, by rw [ht]; exact hP, va_K.moved hW.alike hK, hD⟩, hS.F ht⟩) hS.2.2 dX9_ask_48
    · have h := (if_pos c_4).symm.trans h
      refine lv_ldc hx hb hown w_2 dX9_ask_23 ?_
      have h := Option.some.inj h
      subst h
      rw [hQQ]
      subst hAe
      exact W.iret (v := (-1000001)) hx hb hr (fun t ht hW => ⟨⟨_, (), rfl, rfl, by rw [ht]; exact hP, va_K.moved hW.alike hK, hD⟩, hS.F ht⟩) hS.2.2 dX9_ask_25
def fX9_trace (s_trace : (Nat → Int32)) (s_traced : Int32) (v1 : Int32) : Option (Int32 × Int32) :=
  bd1 (fX9_in v1.toInt64 0 ((s_traced - 1).toInt64)) (fun r_1 => (if r_1 = 0 then some ((-1000000), 0) else chk (¬ (v1 < 0 ∨ 16 ≤ v1.toNatClampNeg)) (some ((s_trace v1.toNatClampNeg), 0))))
abbrev rmX9_trace : Room := { frames := 1, cells := 0, slots := 0, locals := 25 }
theorem ddX9_trace : yX9_trace.cls ≠ "java/lang/invoke/MethodHandle" ∧ yX9_trace.cls ≠ "java/lang/invoke/VarHandle" ∧ (parseMethodDescriptor yX9_trace.desc).map (fun d => d.parameters.length) = some 1 := by decide +kernel
set_option maxHeartbeats 4000000 in
set_option maxRecDepth 100000 in
theorem m_X9_trace (l : Launch) (dC : Nat → ClassId) (dI : Nat → Nat → Nat) (cI cZ : ClassId) (q_s q_s_lane q_s_many q_s_item q_s_isle q_s_fresh q_s_then q_s_was q_s_tape q_s_isKept q_s_kept q_s_trace : Nat) (s_thrown : Int32) (s_status : Int32) (s_lane : (Nat → Int32)) (s_many : (Nat → Int32)) (s_item : (Nat → Int32)) (s_isle : (Nat → Int32)) (s_fresh : (Nat → Int32)) (s_then : (Nat → Int32)) (s_was : (Nat → Int32)) (s_acts : Int32) (s_tape : (Nat → Int32)) (s_taped : Int32) (s_cursor : Int32) (s_start : Int32) (s_token : Int32) (s_value : Int32) (s_fault : Int32) (s_faultAt : Int32) (s_latest : Int32) (s_isKept : (Nat → Int32)) (s_kept : (Nat → Int32)) (s_trace : (Nat → Int32)) (s_traced : Int32) (v1 : Int32) (sz : Nat) (res : Int32 × Int32) (hf : fX9_trace s_trace s_traced v1 = some res) : Met l yX9_trace wsX9_trace rmX9_trace (mtPc (dC, dI) (tyZ cI cZ) ((W_M cI cZ q_s q_s_lane q_s_many q_s_item q_s_isle q_s_fresh q_s_then q_s_was q_s_tape q_s_isKept q_s_kept q_s_trace s_thrown s_status s_lane s_many s_item s_isle s_fresh s_then s_was s_acts s_tape s_taped s_cursor s_start s_token s_value s_fault s_faultAt s_latest s_isKept s_kept s_trace s_traced)) [.ref q_s, .int v1] sz) (mtQi (dC, dI) (tyZ cI cZ) ((W_M cI cZ q_s q_s_lane q_s_many q_s_item q_s_isle q_s_fresh q_s_then q_s_was q_s_tape q_s_isKept q_s_kept q_s_trace s_thrown s_status s_lane s_many s_item s_isle s_fresh s_then s_was s_acts s_tape s_taped s_cursor s_start s_token s_value s_fault s_faultAt s_latest s_isKept s_kept s_trace s_traced)) ((W_M cI cZ q_s q_s_lane q_s_many q_s_item q_s_isle q_s_fresh q_s_then q_s_was q_s_tape q_s_isKept q_s_kept q_s_trace res.2 s_status s_lane s_many s_item s_isle s_fresh s_then s_was s_acts s_tape s_taped s_cursor s_start s_token s_value s_fault s_faultAt s_latest s_isKept s_kept s_trace s_traced)) res.1 sz) 0 0 (va_A ((W_M cI cZ q_s q_s_lane q_s_many q_s_item q_s_isle q_s_fresh q_s_then q_s_was q_s_tape q_s_isKept q_s_kept q_s_trace s_thrown s_status s_lane s_many s_item s_isle s_fresh s_then s_was s_acts s_tape s_taped s_cursor s_start s_token s_value s_fault s_faultAt s_latest s_isKept s_kept s_trace s_traced)) sz) := by
  refine Met.ofW (cc := cX9_trace) (maxL := 2) (ret := (some .int)) (by decide) rfl ?_
  intro p e s m args below meth c s₁ B hml hv
  obtain ⟨rfl, hsz, hP, hK, hD0⟩ := hv
  have hx := B.exec
  have hb := B.bytes
  have hr := B.returns
  have hts := atoms_spec (ws := wsX9_trace) B.pre
  have hown : s.vm.findClass RX9 = some m.cls := findClass_of_methodNamed B.named
  have hlocks := B.notSynchronized
  subst hsz
  have hD := hD0.self (sz := s.heap.size)
  obtain ⟨A, hAe⟩ : ∃ A, A = va_A ((W_M cI cZ q_s q_s_lane q_s_many q_s_item q_s_isle q_s_fresh q_s_then q_s_was q_s_tape q_s_isKept q_s_kept q_s_trace s_thrown s_status s_lane s_many s_item s_isle s_fresh s_then s_was s_acts s_tape s_taped s_cursor s_start s_token s_value s_fault s_faultAt s_latest s_isKept s_kept s_trace s_traced)) s.heap.size := ⟨_, rfl⟩
  rw [← hAe] at hD
  have hA : ∀ q : Nat, s.heap.size ≤ q → A q := fun q h => by rw [hAe]; exact Or.inr h
  have hS : va_S A s.heap s.heap [] := va_S.rf
  have hl := lv_entry ([.ref q_s, .int v1]) (n := 2) (Nat.le_of_ble_eq_true rfl)
  rw [lg_entry_eq]
  generalize (lg_sl ([.ref q_s, .int v1]) ++ List.replicate (2 - (lg_sl ([.ref q_s, .int v1])).length) Slot.unset).toArray = ls at hl ⊢
  have hl : lv_has ls 2 [(0, .ref q_s), (1, .int v1)] := hl
  obtain ⟨QQ, hQQ⟩ : ∃ Q, Q = MQ below (mtQi (dC, dI) (tyZ cI cZ) ((W_M cI cZ q_s q_s_lane q_s_many q_s_item q_s_isle q_s_fresh q_s_then q_s_was q_s_tape q_s_isKept q_s_kept q_s_trace s_thrown s_status s_lane s_many s_item s_isle s_fresh s_then s_was s_acts s_tape s_taped s_cursor s_start s_token s_value s_fault s_faultAt s_latest s_isKept s_kept s_trace s_traced)) ((W_M cI cZ q_s q_s_lane q_s_many q_s_item q_s_isle q_s_fresh q_s_then q_s_was q_s_tape q_s_isKept q_s_kept q_s_trace res.2 s_status s_lane s_many s_item s_isle s_fresh s_then s_was s_acts s_tape s_taped s_cursor s_start s_token s_value s_fault s_faultAt s_latest s_isKept s_kept s_trace s_traced)) res.1 s.heap.size) ([.ref q_s, .int v1] : List Value).toArray s 0 0 (va_A ((W_M cI cZ q_s q_s_lane q_s_many q_s_item q_s_isle q_s_fresh q_s_then q_s_was q_s_tape q_s_isKept q_s_kept q_s_trace s_thrown s_status s_lane s_many s_item s_isle s_fresh s_then s_was s_acts s_tape s_taped s_cursor s_start s_token s_value s_fault s_faultAt s_latest s_isKept s_kept s_trace s_traced)) s.heap.size) := ⟨_, rfl⟩
  rw [← hQQ]
  have w_0 := hts (Cond.fieldLink RX9 44 "TideInchesModel" "thrown" "I") (List.mem_of_getElem? (i := 1) rfl)
  have w_1 := (fun w hw => List.mem_cons_of_mem _ (List.mem_append_right _ hw) : ∀ w ∈ wsX90, w ∈ wsX9_trace)
  have w_2 := hts (Cond.fieldLink RX9 248 "TideInchesModel" "traced" "I") (List.mem_of_getElem? (i := 2) rfl)
  have w_3 := hts (Cond.constant RX9 87 (-1000000)) (List.mem_of_getElem? (i := 4) rfl)
  have w_4 := hts (Cond.fieldLink RX9 41 "TideInchesModel" "trace" "[I") (List.mem_of_getElem? (i := 3) rfl)
  have h := hf
  unfold fX9_trace at h
  refine lv_aload_n hx hb dX9_trace_0 rfl (lv_at hl 0 rfl) ?_
  refine lv_iconst (v := 0) hx hb dX9_trace_1 (by decide) ?_
  refine va_put (D := (dC, dI)) (ci := 7) (v := .int 0) (ty := .int) (C := RX9) (T := TX9) (N := 23) hx hb hts w_1 tyX9 tyX9_ok nmX9 hown hK hP hD hS 0 rfl rfl 0 (by decide) w_0 (fun _ h9 => h9) rfl (by decide +kernel) rfl rfl (Nat.le_of_ble_eq_true rfl) dX9_trace_2 (fun H locs hP hD hS => ?_)
  have hP : va_P (dC, dI) vwCl ((W_M cI cZ q_s q_s_lane q_s_many q_s_item q_s_isle q_s_fresh q_s_then q_s_was q_s_tape q_s_isKept q_s_kept q_s_trace 0 s_status s_lane s_many s_item s_isle s_fresh s_then s_was s_acts s_tape s_taped s_cursor s_start s_token s_value s_fault s_faultAt s_latest s_isKept s_kept s_trace s_traced)) H := hP
  have hD : va_D A ((W_M cI cZ q_s q_s_lane q_s_many q_s_item q_s_isle q_s_fresh q_s_then q_s_was q_s_tape q_s_isKept q_s_kept q_s_trace 0 s_status s_lane s_many s_item s_isle s_fresh s_then s_was s_acts s_tape s_taped s_cursor s_start s_token s_value s_fault s_faultAt s_latest s_isKept s_kept s_trace s_traced)) := hD
  refine lv_iload_n hx hb dX9_trace_5 rfl (lv_at hl 1 rfl) ?_
  refine lv_i2l hx hb dX9_trace_6 rfl ?_
  refine lv_lconst (v := 0) hx hb dX9_trace_7 (by decide) ?_
  refine lv_aload_n hx hb dX9_trace_8 rfl (lv_at hl 0 rfl) ?_
  refine va_get (D := (dC, dI)) (ci := 7) (v := .int s_traced) (C := RX9) (T := TX9) (N := 23) hx hb hts w_1 hown hK hP 0 rfl rfl 22 (by decide) w_2 (fun _ h9 => h9) rfl dX9_trace_9 ?_
  refine lv_iconst (v := 1) hx hb dX9_trace_12 (by decide) ?_
  refine lv_isub hx hb dX9_trace_13 ?_
  refine lv_i2l hx hb dX9_trace_14 rfl ?_
  obtain ⟨r_1, hc_1, h⟩ := bd1_of h
  refine cl_pS (As := [.long v1.toInt64, .long 0, .long ((s_traced - 1).toInt64)]) (rest := []) ⟨hx, hb, hml, hown, hts⟩ (m_X9_in l v1.toInt64 0 ((s_traced - 1).toInt64) (r_1) hc_1) (va_cwS 3 hts gX9_trace_X9_in rfl rfl rfl ddX9_in ⟨Nat.le_of_ble_eq_true rfl, Nat.le_of_ble_eq_true rfl⟩) rfl rfl hl.1 (Nat.le_of_ble_eq_true rfl) ⟨Nat.zero_le _, Nat.zero_le _⟩ dX9_trace_15 ?_
  refine lv_if_eq (tgt := 30) hx hb dX9_trace_18 (by decide) (fun c_2 => ?_) (fun c_2 => ?_)
  · have h := (if_pos c_2).symm.trans h
    refine lv_ldc hx hb hown w_3 dX9_trace_30 ?_
    have h := Option.some.inj h
    subst h
    rw [hQQ]
    subst hAe
    exact W.iret (v := (-1000000)) hx hb hr (fun t ht hW => ⟨⟨_, (), rfl, rfl, by rw [ht]; exact hP, va_K.moved hW.alike hK, hD⟩, hS.F ht⟩) hS.2.2 dX9_trace_32
  · have h := (if_neg c_2).symm.trans h
    refine lv_aload_n hx hb dX9_trace_21 rfl (lv_at hl 0 rfl) ?_
    refine va_get (D := (dC, dI)) (ci := 7) (v := .ref q_s_trace) (C := RX9) (T := TX9) (N := 23) hx hb hts w_1 hown hK hP 0 rfl rfl 21 (by decide) w_4 (fun _ h9 => h9) rfl dX9_trace_22 ?_
    refine lv_iload_n hx hb dX9_trace_25 rfl (lv_at hl 1 rfl) ?_
    obtain ⟨b_3, h⟩ := chk_of h
    refine va_iald hx hb hK hP 11 0 rfl rfl (i := v1) b_3 dX9_trace_26 ?_
    refine lv_goto (tgt := 32) hx hb dX9_trace_27 (by decide) ?_
    have h := Option.some.inj h
    subst h
    rw [hQQ]
    subst hAe
    exact W.iret (v := (s_trace v1.toNatClampNeg)) hx hb hr (fun t ht hW => ⟨⟨_, (), rfl, rfl, by rw [ht]; exact hP, va_K.moved hW.alike hK, hD⟩, hS.F ht⟩) hS.2.2 dX9_trace_32
def fX9_count_L58 (s_lane : (Nat → Int32)) : Nat → Int32 → Int32 → Option (Int32 × Int32)
  | 0, _, _ => none
  | n + 1, v2_h58, v3_h58 => (if 8 ≤ v3_h58 then some (v2_h58, 0) else chk (¬ (v3_h58 < 0 ∨ 8 ≤ v3_h58.toNatClampNeg)) ((if (s_lane v3_h58.toNatClampNeg) < 0 then ((fX9_count_L58 s_lane n) (v2_h58 + 0) (v3_h58 + 1)) else ((fX9_count_L58 s_lane n) (v2_h58 + 1) (v3_h58 + 1)))))
def fX9_count (s_lane : (Nat → Int32)) (s_isle : (Nat → Int32)) (s_acts : Int32) (s_taped : Int32) (v1 : Int32) : Option (Int32 × Int32) :=
  (if v1 = 0 then (fX9_count_L58 s_lane FU 0 0) else (if v1 = 1 then some ((s_isle (4 : Int32).toNatClampNeg), 0) else (if v1 = 2 then bd1 (fX9_levelBy s_isle (s_isle (5 : Int32).toNatClampNeg)) (fun r_7 => some (r_7, 0)) else (if v1 = 3 then some ((s_isle (3 : Int32).toNatClampNeg), 0) else (if v1 = 4 then some ((s_isle (5 : Int32).toNatClampNeg), 0) else (if v1 = 5 then bd1 (fX9_heldOf s_isle) (fun r_11 => some (r_11, 0)) else (if v1 = 6 then some (s_acts, 0) else (if v1 = 7 then some (s_taped, 0) else some ((-1000001), 0)))))))))
abbrev rmX9_count : Room := { frames := 1, cells := 0, slots := 0, locals := 22 }
theorem ddX9_count : yX9_count.cls ≠ "java/lang/invoke/MethodHandle" ∧ yX9_count.cls ≠ "java/lang/invoke/VarHandle" ∧ (parseMethodDescriptor yX9_count.desc).map (fun d => d.parameters.length) = some 1 := by decide +kernel
set_option maxHeartbeats 4000000 in
set_option maxRecDepth 100000 in
theorem m_X9_count (l : Launch) (dC : Nat → ClassId) (dI : Nat → Nat → Nat) (cI cZ : ClassId) (q_s q_s_lane q_s_many q_s_item q_s_isle q_s_fresh q_s_then q_s_was q_s_tape q_s_isKept q_s_kept q_s_trace : Nat) (s_thrown : Int32) (s_status : Int32) (s_lane : (Nat → Int32)) (s_many : (Nat → Int32)) (s_item : (Nat → Int32)) (s_isle : (Nat → Int32)) (s_fresh : (Nat → Int32)) (s_then : (Nat → Int32)) (s_was : (Nat → Int32)) (s_acts : Int32) (s_tape : (Nat → Int32)) (s_taped : Int32) (s_cursor : Int32) (s_start : Int32) (s_token : Int32) (s_value : Int32) (s_fault : Int32) (s_faultAt : Int32) (s_latest : Int32) (s_isKept : (Nat → Int32)) (s_kept : (Nat → Int32)) (s_trace : (Nat → Int32)) (s_traced : Int32) (v1 : Int32) (sz : Nat) (res : Int32 × Int32) (hf : fX9_count s_lane s_isle s_acts s_taped v1 = some res) : Met l yX9_count wsX9_count rmX9_count (mtPc (dC, dI) (tyZ cI cZ) ((W_M cI cZ q_s q_s_lane q_s_many q_s_item q_s_isle q_s_fresh q_s_then q_s_was q_s_tape q_s_isKept q_s_kept q_s_trace s_thrown s_status s_lane s_many s_item s_isle s_fresh s_then s_was s_acts s_tape s_taped s_cursor s_start s_token s_value s_fault s_faultAt s_latest s_isKept s_kept s_trace s_traced)) [.ref q_s, .int v1] sz) (mtQi (dC, dI) (tyZ cI cZ) ((W_M cI cZ q_s q_s_lane q_s_many q_s_item q_s_isle q_s_fresh q_s_then q_s_was q_s_tape q_s_isKept q_s_kept q_s_trace s_thrown s_status s_lane s_many s_item s_isle s_fresh s_then s_was s_acts s_tape s_taped s_cursor s_start s_token s_value s_fault s_faultAt s_latest s_isKept s_kept s_trace s_traced)) ((W_M cI cZ q_s q_s_lane q_s_many q_s_item q_s_isle q_s_fresh q_s_then q_s_was q_s_tape q_s_isKept q_s_kept q_s_trace res.2 s_status s_lane s_many s_item s_isle s_fresh s_then s_was s_acts s_tape s_taped s_cursor s_start s_token s_value s_fault s_faultAt s_latest s_isKept s_kept s_trace s_traced)) res.1 sz) 0 0 (va_A ((W_M cI cZ q_s q_s_lane q_s_many q_s_item q_s_isle q_s_fresh q_s_then q_s_was q_s_tape q_s_isKept q_s_kept q_s_trace s_thrown s_status s_lane s_many s_item s_isle s_fresh s_then s_was s_acts s_tape s_taped s_cursor s_start s_token s_value s_fault s_faultAt s_latest s_isKept s_kept s_trace s_traced)) sz) := by
  refine Met.ofW (cc := cX9_count) (maxL := 4) (ret := (some .int)) (by decide) rfl ?_
  intro p e s m args below meth c s₁ B hml hv
  obtain ⟨rfl, hsz, hP, hK, hD0⟩ := hv
  have hx := B.exec
  have hb := B.bytes
  have hr := B.returns
  have hts := atoms_spec (ws := wsX9_count) B.pre
  have hown : s.vm.findClass RX9 = some m.cls := findClass_of_methodNamed B.named
  have hlocks := B.notSynchronized
  subst hsz
  have hD := hD0.self (sz := s.heap.size)
  obtain ⟨A, hAe⟩ : ∃ A, A = va_A ((W_M cI cZ q_s q_s_lane q_s_many q_s_item q_s_isle q_s_fresh q_s_then q_s_was q_s_tape q_s_isKept q_s_kept q_s_trace s_thrown s_status s_lane s_many s_item s_isle s_fresh s_then s_was s_acts s_tape s_taped s_cursor s_start s_token s_value s_fault s_faultAt s_latest s_isKept s_kept s_trace s_traced)) s.heap.size := ⟨_, rfl⟩
  rw [← hAe] at hD
  have hA : ∀ q : Nat, s.heap.size ≤ q → A q := fun q h => by rw [hAe]; exact Or.inr h
  have hS : va_S A s.heap s.heap [] := va_S.rf
  have hl := lv_entry ([.ref q_s, .int v1]) (n := 4) (Nat.le_of_ble_eq_true rfl)
  rw [lg_entry_eq]
  generalize (lg_sl ([.ref q_s, .int v1]) ++ List.replicate (4 - (lg_sl ([.ref q_s, .int v1])).length) Slot.unset).toArray = ls at hl ⊢
  have hl : lv_has ls 4 [(0, .ref q_s), (1, .int v1)] := hl
  obtain ⟨QQ, hQQ⟩ : ∃ Q, Q = MQ below (mtQi (dC, dI) (tyZ cI cZ) ((W_M cI cZ q_s q_s_lane q_s_many q_s_item q_s_isle q_s_fresh q_s_then q_s_was q_s_tape q_s_isKept q_s_kept q_s_trace s_thrown s_status s_lane s_many s_item s_isle s_fresh s_then s_was s_acts s_tape s_taped s_cursor s_start s_token s_value s_fault s_faultAt s_latest s_isKept s_kept s_trace s_traced)) ((W_M cI cZ q_s q_s_lane q_s_many q_s_item q_s_isle q_s_fresh q_s_then q_s_was q_s_tape q_s_isKept q_s_kept q_s_trace res.2 s_status s_lane s_many s_item s_isle s_fresh s_then s_was s_acts s_tape s_taped s_cursor s_start s_token s_value s_fault s_faultAt s_latest s_isKept s_kept s_trace s_traced)) res.1 s.heap.size) ([.ref q_s, .int v1] : List Value).toArray s 0 0 (va_A ((W_M cI cZ q_s q_s_lane q_s_many q_s_item q_s_isle q_s_fresh q_s_then q_s_was q_s_tape q_s_isKept q_s_kept q_s_trace s_thrown s_status s_lane s_many s_item s_isle s_fresh s_then s_was s_acts s_tape s_taped s_cursor s_start s_token s_value s_fault s_faultAt s_latest s_isKept s_kept s_trace s_traced)) s.heap.size) := ⟨_, rfl⟩
  rw [← hQQ]
  have w_0 := hts (Cond.fieldLink RX9 44 "TideInchesModel" "thrown" "I") (List.mem_of_getElem? (i := 1) rfl)
  have w_1 := (fun w hw => List.mem_cons_of_mem _ (List.mem_append_right _ hw) : ∀ w ∈ wsX90, w ∈ wsX9_count)
  have w_2 := hts (Cond.fieldLink RX9 7 "TideInchesModel" "lane" "[I") (List.mem_of_getElem? (i := 2) rfl)
  have w_3 := hts (Cond.fieldLink RX9 19 "TideInchesModel" "isle" "[I") (List.mem_of_getElem? (i := 3) rfl)
  have w_4 := hts (Cond.fieldLink RX9 145 "TideInchesModel" "acts" "I") (List.mem_of_getElem? (i := 4) rfl)
  have w_5 := hts (Cond.fieldLink RX9 71 "TideInchesModel" "taped" "I") (List.mem_of_getElem? (i := 5) rfl)
  have w_6 := hts (Cond.constant RX9 64 (-1000001)) (List.mem_of_getElem? (i := 6) rfl)
  have h := hf
  unfold fX9_count at h
  refine lv_aload_n hx hb dX9_count_0 rfl (lv_at hl 0 rfl) ?_
  refine lv_iconst (v := 0) hx hb dX9_count_1 (by decide) ?_
  refine va_put (D := (dC, dI)) (ci := 7) (v := .int 0) (ty := .int) (C := RX9) (T := TX9) (N := 23) hx hb hts w_1 tyX9 tyX9_ok nmX9 hown hK hP hD hS 0 rfl rfl 0 (by decide) w_0 (fun _ h9 => h9) rfl (by decide +kernel) rfl rfl (Nat.le_of_ble_eq_true rfl) dX9_count_2 (fun H locs hP hD hS => ?_)
  have hP : va_P (dC, dI) vwCl ((W_M cI cZ q_s q_s_lane q_s_many q_s_item q_s_isle q_s_fresh q_s_then q_s_was q_s_tape q_s_isKept q_s_kept q_s_trace 0 s_status s_lane s_many s_item s_isle s_fresh s_then s_was s_acts s_tape s_taped s_cursor s_start s_token s_value s_fault s_faultAt s_latest s_isKept s_kept s_trace s_traced)) H := hP
  have hD : va_D A ((W_M cI cZ q_s q_s_lane q_s_many q_s_item q_s_isle q_s_fresh q_s_then q_s_was q_s_tape q_s_isKept q_s_kept q_s_trace 0 s_status s_lane s_many s_item s_isle s_fresh s_then s_was s_acts s_tape s_taped s_cursor s_start s_token s_value s_fault s_faultAt s_latest s_isKept s_kept s_trace s_traced)) := hD
  refine lv_iconst (v := 0) hx hb dX9_count_5 (by decide) ?_
  refine lv_istore_n (lv' := [(2, .int 0), (0, .ref q_s), (1, .int v1)]) hx hb dX9_count_6 rfl hl (by decide) rfl (fun ls hl => ?_)
  refine lv_iload_n hx hb dX9_count_7 rfl (lv_at hl 2 rfl) ?_
  by_cases c_1 : v1 = 0
  · have h := (if_pos c_1).symm.trans h
    refine lv_tableIn (tgt := 56) hx hb dX9_count_8 (by rw [c_1]; decide) (by rw [c_1]; decide) (by rw [c_1]; rfl) (by decide) ?_
    refine lv_iconst (v := 0) hx hb dX9_count_56 (by decide) ?_
    refine lv_istore_n (lv' := [(3, .int 0), (2, .int 0), (0, .ref q_s), (1, .int v1)]) hx hb dX9_count_57 rfl hl (by decide) rfl (fun ls hl => ?_)
    have KL58 : ∀ (n : Nat) (v2_h58 : Int32) (v3_h58 : Int32) (H : Heap) (locs : List Loc) (ls : Array Slot), va_P (dC, dI) vwCl ((W_M cI cZ q_s q_s_lane q_s_many q_s_item q_s_isle q_s_fresh q_s_then q_s_was q_s_tape q_s_isKept q_s_kept q_s_trace 0 s_status s_lane s_many s_item s_isle s_fresh s_then s_was s_acts s_tape s_taped s_cursor s_start s_token s_value s_fault s_faultAt s_latest s_isKept s_kept s_trace s_traced)) H → va_D A ((W_M cI cZ q_s q_s_lane q_s_many q_s_item q_s_isle q_s_fresh q_s_then q_s_was q_s_tape q_s_isKept q_s_kept q_s_trace 0 s_status s_lane s_many s_item s_isle s_fresh s_then s_was s_acts s_tape s_taped s_cursor s_start s_token s_value s_fault s_faultAt s_latest s_isKept s_kept s_trace s_traced)) → va_S A s.heap H locs → lv_has ls 4 [(0, .ref q_s), (2, .int v2_h58), (3, .int v3_h58)] → fX9_count_L58 s_lane n v2_h58 v3_h58 = some res → W p l e (headSpec wsX9_count rmX9_count).room s m ([.ref q_s, .int v1] : List Value).toArray below meth c H locs 0 0 QQ (F0 m 58 ls []) := by
      intro  n
      induction n with
      | zero => intro v2_h58 v3_h58 H locs ls hP hD hS hl h; rw [fX9_count_L58.eq_1] at h; cases h
      | succ n ih =>
        intro v2_h58 v3_h58 H locs ls hP hD hS hl h
        rw [fX9_count_L58.eq_2] at h
        refine lv_iload_n hx hb dX9_count_58 rfl (lv_at hl 2 rfl) ?_
        refine lv_bipush (v := 8) hx hb dX9_count_59 (by decide) ?_
        refine lv_icmp_ge (tgt := 87) hx hb dX9_count_61 (by decide) (fun c_2 => ?_) (fun c_2 => ?_)
        · have h := (if_pos c_2).symm.trans h
          refine lv_iload_n hx hb dX9_count_87 rfl (lv_at hl 1 rfl) ?_
          have h := Option.some.inj h
          subst h
          rw [hQQ]
          subst hAe
          exact W.iret (v := v2_h58) hx hb hr (fun t ht hW => ⟨⟨_, (), rfl, rfl, by rw [ht]; exact hP, va_K.moved hW.alike hK, hD⟩, hS.F ht⟩) hS.2.2 dX9_count_88
        · have h := (if_neg c_2).symm.trans h
          refine lv_iload_n hx hb dX9_count_64 rfl (lv_at hl 1 rfl) ?_
          refine lv_aload_n hx hb dX9_count_65 rfl (lv_at hl 0 rfl) ?_
          refine va_get (D := (dC, dI)) (ci := 7) (v := .ref q_s_lane) (C := RX9) (T := TX9) (N := 23) hx hb hts w_1 hown hK hP 0 rfl rfl 2 (by decide) w_2 (fun _ h9 => h9) rfl dX9_count_66 ?_
          refine lv_iload_n hx hb dX9_count_69 rfl (lv_at hl 2 rfl) ?_
          obtain ⟨b_3, h⟩ := chk_of h
          refine va_iald hx hb hK hP 1 0 rfl rfl (i := v3_h58) b_3 dX9_count_70 ?_
          refine lv_if_lt (tgt := 78) hx hb dX9_count_71 (by decide) (fun c_4 => ?_) (fun c_4 => ?_)
          · have h := (if_pos c_4).symm.trans h
            refine lv_iconst (v := 0) hx hb dX9_count_78 (by decide) ?_
            refine lv_iadd hx hb dX9_count_79 ?_
            refine lv_istore_n (lv' := [(2, .int (v2_h58 + 0)), (0, .ref q_s), (3, .int v3_h58)]) hx hb dX9_count_80 rfl hl (by decide) rfl (fun ls hl => ?_)
            refine lv_iinc (v := (v3_h58 + 1)) (lv' := [(3, .int (v3_h58 + 1)), (2, .int (v2_h58 + 0)), (0, .ref q_s)]) hx hb dX9_count_81 hl (k := 2) rfl rfl (by decide) rfl (fun ls hl => ?_)
            refine lv_goto (tgt := 58) hx hb dX9_count_84 (by decide) ?_
            exact ih (v2_h58 + 0) (v3_h58 + 1) _ _ _ hP hD hS (lv_sub hl [2, 1, 0] rfl) h
          · have h := (if_neg c_4).symm.trans h
            refine lv_iconst (v := 1) hx hb dX9_count_74 (by decide) ?_
            refine lv_goto (tgt := 79) hx hb dX9_count_75 (by decide) ?_
            refine lv_iadd hx hb dX9_count_79 ?_
            refine lv_istore_n (lv' := [(2, .int (v2_h58 + 1)), (0, .ref q_s), (3, .int v3_h58)]) hx hb dX9_count_80 rfl hl (by decide) rfl (fun ls hl => ?_)
            refine lv_iinc (v := (v3_h58 + 1)) (lv' := [(3, .int (v3_h58 + 1)), (2, .int (v2_h58 + 1)), (0, .ref q_s)]) hx hb dX9_count_81 hl (k := 2) rfl rfl (by decide) rfl (fun ls hl => ?_)
            refine lv_goto (tgt := 58) hx hb dX9_count_84 (by decide) ?_
            exact ih (v2_h58 + 1) (v3_h58 + 1) _ _ _ hP hD hS (lv_sub hl [2, 1, 0] rfl) h
    exact KL58 FU 0 0 _ _ _ hP hD hS (lv_sub hl [2, 1, 0] rfl) h
  have h := (if_neg c_1).symm.trans h
  by_cases c_5 : v1 = 1
  · have h := (if_pos c_5).symm.trans h
    refine lv_tableIn (tgt := 89) hx hb dX9_count_8 (by rw [c_5]; decide) (by rw [c_5]; decide) (by rw [c_5]; rfl) (by decide) ?_
    refine lv_aload_n hx hb dX9_count_89 rfl (lv_at hl 1 rfl) ?_
    refine va_get (D := (dC, dI)) (ci := 7) (v := .ref q_s_isle) (C := RX9) (T := TX9) (N := 23) hx hb hts w_1 hown hK hP 0 rfl rfl 5 (by decide) w_3 (fun _ h9 => h9) rfl dX9_count_90 ?_
    refine lv_iconst (v := 4) hx hb dX9_count_93 (by decide) ?_
    refine va_iald hx hb hK hP 4 0 rfl rfl (i := 4) (show ¬ ((4 : Int32) < 0 ∨ 51 ≤ (4 : Int32).toNatClampNeg) by decide +kernel) dX9_count_94 ?_
    have h := Option.some.inj h
    subst h
    rw [hQQ]
    subst hAe
    exact W.iret (v := (s_isle (4 : Int32).toNatClampNeg)) hx hb hr (fun t ht hW => ⟨⟨_, (), rfl, rfl, by rw [ht]; exact hP, va_K.moved hW.alike hK, hD⟩, hS.F ht⟩) hS.2.2 dX9_count_95
  have h := (if_neg c_5).symm.trans h
  by_cases c_6 : v1 = 2
  · have h := (if_pos c_6).symm.trans h
    refine lv_tableIn (tgt := 96) hx hb dX9_count_8 (by rw [c_6]; decide) (by rw [c_6]; decide) (by rw [c_6]; rfl) (by decide) ?_
    refine lv_aload_n hx hb dX9_count_96 rfl (lv_at hl 1 rfl) ?_
    refine va_get (D := (dC, dI)) (ci := 7) (v := .ref q_s_isle) (C := RX9) (T := TX9) (N := 23) hx hb hts w_1 hown hK hP 0 rfl rfl 5 (by decide) w_3 (fun _ h9 => h9) rfl dX9_count_97 ?_
    refine lv_aload_n hx hb dX9_count_100 rfl (lv_at hl 1 rfl) ?_
    refine va_get (D := (dC, dI)) (ci := 7) (v := .ref q_s_isle) (C := RX9) (T := TX9) (N := 23) hx hb hts w_1 hown hK hP 0 rfl rfl 5 (by decide) w_3 (fun _ h9 => h9) rfl dX9_count_101 ?_
    refine lv_iconst (v := 5) hx hb dX9_count_104 (by decide) ?_
    refine va_iald hx hb hK hP 4 0 rfl rfl (i := 5) (show ¬ ((5 : Int32) < 0 ∨ 51 ≤ (5 : Int32).toNatClampNeg) by decide +kernel) dX9_count_105 ?_
    obtain ⟨r_7, hc_7, h⟩ := bd1_of h
    refine cl_rS (As := [.ref q_s_isle, .int (s_isle (5 : Int32).toNatClampNeg)]) (rest := []) ⟨hx, hb, hml, hown, hts⟩ (m_X9_levelBy l dC dI cI cZ q_s_isle s_isle (s_isle (5 : Int32).toNatClampNeg) (r_7) hc_7) (va_cwS 2 hts gX9_count_X9_levelBy rfl rfl rfl ddX9_levelBy ⟨Nat.le_of_ble_eq_true rfl, Nat.le_of_ble_eq_true rfl⟩) hK hP [4] rfl rfl rfl hl.1 (Nat.le_of_ble_eq_true rfl) ⟨Nat.zero_le _, Nat.zero_le _⟩ dX9_count_106 ?_
    have h := Option.some.inj h
    subst h
    rw [hQQ]
    subst hAe
    exact W.iret (v := r_7) hx hb hr (fun t ht hW => ⟨⟨_, (), rfl, rfl, by rw [ht]; exact hP, va_K.moved hW.alike hK, hD⟩, hS.F ht⟩) hS.2.2 dX9_count_109
  have h := (if_neg c_6).symm.trans h
  by_cases c_8 : v1 = 3
  · have h := (if_pos c_8).symm.trans h
    refine lv_tableIn (tgt := 110) hx hb dX9_count_8 (by rw [c_8]; decide) (by rw [c_8]; decide) (by rw [c_8]; rfl) (by decide) ?_
    refine lv_aload_n hx hb dX9_count_110 rfl (lv_at hl 1 rfl) ?_
    refine va_get (D := (dC, dI)) (ci := 7) (v := .ref q_s_isle) (C := RX9) (T := TX9) (N := 23) hx hb hts w_1 hown hK hP 0 rfl rfl 5 (by decide) w_3 (fun _ h9 => h9) rfl dX9_count_111 ?_
    refine lv_iconst (v := 3) hx hb dX9_count_114 (by decide) ?_
    refine va_iald hx hb hK hP 4 0 rfl rfl (i := 3) (show ¬ ((3 : Int32) < 0 ∨ 51 ≤ (3 : Int32).toNatClampNeg) by decide +kernel) dX9_count_115 ?_
    have h := Option.some.inj h
    subst h
    rw [hQQ]
    subst hAe
    exact W.iret (v := (s_isle (3 : Int32).toNatClampNeg)) hx hb hr (fun t ht hW => ⟨⟨_, (), rfl, rfl, by rw [ht]; exact hP, va_K.moved hW.alike hK, hD⟩, hS.F ht⟩) hS.2.2 dX9_count_116
  have h := (if_neg c_8).symm.trans h
  by_cases c_9 : v1 = 4
  · have h := (if_pos c_9).symm.trans h
    refine lv_tableIn (tgt := 117) hx hb dX9_count_8 (by rw [c_9]; decide) (by rw [c_9]; decide) (by rw [c_9]; rfl) (by decide) ?_
    refine lv_aload_n hx hb dX9_count_117 rfl (lv_at hl 1 rfl) ?_
    refine va_get (D := (dC, dI)) (ci := 7) (v := .ref q_s_isle) (C := RX9) (T := TX9) (N := 23) hx hb hts w_1 hown hK hP 0 rfl rfl 5 (by decide) w_3 (fun _ h9 => h9) rfl dX9_count_118 ?_
    refine lv_iconst (v := 5) hx hb dX9_count_121 (by decide) ?_
    refine va_iald hx hb hK hP 4 0 rfl rfl (i := 5) (show ¬ ((5 : Int32) < 0 ∨ 51 ≤ (5 : Int32).toNatClampNeg) by decide +kernel) dX9_count_122 ?_
    have h := Option.some.inj h
    subst h
    rw [hQQ]
    subst hAe
    exact W.iret (v := (s_isle (5 : Int32).toNatClampNeg)) hx hb hr (fun t ht hW => ⟨⟨_, (), rfl, rfl, by rw [ht]; exact hP, va_K.moved hW.alike hK, hD⟩, hS.F ht⟩) hS.2.2 dX9_count_123
  have h := (if_neg c_9).symm.trans h
  by_cases c_10 : v1 = 5
  · have h := (if_pos c_10).symm.trans h
    refine lv_tableIn (tgt := 124) hx hb dX9_count_8 (by rw [c_10]; decide) (by rw [c_10]; decide) (by rw [c_10]; rfl) (by decide) ?_
    refine lv_aload_n hx hb dX9_count_124 rfl (lv_at hl 1 rfl) ?_
    refine va_get (D := (dC, dI)) (ci := 7) (v := .ref q_s_isle) (C := RX9) (T := TX9) (N := 23) hx hb hts w_1 hown hK hP 0 rfl rfl 5 (by decide) w_3 (fun _ h9 => h9) rfl dX9_count_125 ?_
    obtain ⟨r_11, hc_11, h⟩ := bd1_of h
    refine cl_rS (As := [.ref q_s_isle]) (rest := []) ⟨hx, hb, hml, hown, hts⟩ (m_X9_heldOf l dC dI cI cZ q_s_isle s_isle (r_11) hc_11) (va_cwS 1 hts gX9_count_X9_heldOf rfl rfl rfl ddX9_heldOf ⟨Nat.le_of_ble_eq_true rfl, Nat.le_of_ble_eq_true rfl⟩) hK hP [4] rfl rfl rfl hl.1 (Nat.le_of_ble_eq_true rfl) ⟨Nat.zero_le _, Nat.zero_le _⟩ dX9_count_128 ?_
    have h := Option.some.inj h
    subst h
    rw [hQQ]
    subst hAe
    exact W.iret (v := r_11) hx hb hr (fun t ht hW => ⟨⟨_, (), rfl, rfl, by rw [ht]; exact hP, va_K.moved hW.alike hK, hD⟩, hS.F ht⟩) hS.2.2 dX9_count_131
  have h := (if_neg c_10).symm.trans h
  by_cases c_12 : v1 = 6
  · have h := (if_pos c_12).symm.trans h
    refine lv_tableIn (tgt := 132) hx hb dX9_count_8 (by rw [c_12]; decide) (by rw [c_12]; decide) (by rw [c_12]; rfl) (by decide) ?_
    refine lv_aload_n hx hb dX9_count_132 rfl (lv_at hl 1 rfl) ?_
    refine va_get (D := (dC, dI)) (ci := 7) (v := .int s_acts) (C := RX9) (T := TX9) (N := 23) hx hb hts w_1 hown hK hP 0 rfl rfl 9 (by decide) w_4 (fun _ h9 => h9) rfl dX9_count_133 ?_
    have h := Option.some.inj h
    subst h
    rw [hQQ]
    subst hAe
    exact W.iret (v := s_acts) hx hb hr (fun t ht hW => ⟨⟨_, (), rfl, rfl, by rw [ht]; exact hP, va_K.moved hW.alike hK, hD⟩, hS.F ht⟩) hS.2.2 dX9_count_136
  have h := (if_neg c_12).symm.trans h
  by_cases c_13 : v1 = 7
  · have h := (if_pos c_13).symm.trans h
    refine lv_tableIn (tgt := 137) hx hb dX9_count_8 (by rw [c_13]; decide) (by rw [c_13]; decide) (by rw [c_13]; rfl) (by decide) ?_
    refine lv_aload_n hx hb dX9_count_137 rfl (lv_at hl 1 rfl) ?_
    refine va_get (D := (dC, dI)) (ci := 7) (v := .int s_taped) (C := RX9) (T := TX9) (N := 23) hx hb hts w_1 hown hK hP 0 rfl rfl 11 (by decide) w_5 (fun _ h9 => h9) rfl dX9_count_138 ?_
    have h := Option.some.inj h
    subst h
    rw [hQQ]
    subst hAe
    exact W.iret (v := s_taped) hx hb hr (fun t ht hW => ⟨⟨_, (), rfl, rfl, by rw [ht]; exact hP, va_K.moved hW.alike hK, hD⟩, hS.F ht⟩) hS.2.2 dX9_count_141
  have h := (if_neg c_13).symm.trans h
  have n_1 : (v1).toInt ≠ 0 := ne_tn c_1 rfl
  have n_5 : (v1).toInt ≠ 1 := ne_tn c_5 rfl
  have n_6 : (v1).toInt ≠ 2 := ne_tn c_6 rfl
  have n_8 : (v1).toInt ≠ 3 := ne_tn c_8 rfl
  have n_9 : (v1).toInt ≠ 4 := ne_tn c_9 rfl
  have n_10 : (v1).toInt ≠ 5 := ne_tn c_10 rfl
  have n_12 : (v1).toInt ≠ 6 := ne_tn c_12 rfl
  have n_13 : (v1).toInt ≠ 7 := ne_tn c_13 rfl
  refine lv_tableOut (tgt := 142) hx hb dX9_count_8 (by omega) (by decide) ?_
  refine lv_ldc hx hb hown w_6 dX9_count_142 ?_
  have h := Option.some.inj h
  subst h
  rw [hQQ]
  subst hAe
  exact W.iret (v := (-1000001)) hx hb hr (fun t ht hW => ⟨⟨_, (), rfl, rfl, by rw [ht]; exact hP, va_K.moved hW.alike hK, hD⟩, hS.F ht⟩) hS.2.2 dX9_count_144
def fX9_status (s_status : Int32) : Option (Int32 × Int32) :=
  some (s_status, 0)
abbrev rmX9_status : Room := { frames := 0, cells := 0, slots := 0, locals := 0 }
theorem ddX9_status : yX9_status.cls ≠ "java/lang/invoke/MethodHandle" ∧ yX9_status.cls ≠ "java/lang/invoke/VarHandle" ∧ (parseMethodDescriptor yX9_status.desc).map (fun d => d.parameters.length) = some 0 := by decide +kernel
set_option maxHeartbeats 4000000 in
set_option maxRecDepth 100000 in
theorem m_X9_status (l : Launch) (dC : Nat → ClassId) (dI : Nat → Nat → Nat) (cI cZ : ClassId) (q_s q_s_lane q_s_many q_s_item q_s_isle q_s_fresh q_s_then q_s_was q_s_tape q_s_isKept q_s_kept q_s_trace : Nat) (s_thrown : Int32) (s_status : Int32) (s_lane : (Nat → Int32)) (s_many : (Nat → Int32)) (s_item : (Nat → Int32)) (s_isle : (Nat → Int32)) (s_fresh : (Nat → Int32)) (s_then : (Nat → Int32)) (s_was : (Nat → Int32)) (s_acts : Int32) (s_tape : (Nat → Int32)) (s_taped : Int32) (s_cursor : Int32) (s_start : Int32) (s_token : Int32) (s_value : Int32) (s_fault : Int32) (s_faultAt : Int32) (s_latest : Int32) (s_isKept : (Nat → Int32)) (s_kept : (Nat → Int32)) (s_trace : (Nat → Int32)) (s_traced : Int32) (sz : Nat) (res : Int32 × Int32) (hf : fX9_status s_status = some res) : Met l yX9_status wsX9_status rmX9_status (mtPc (dC, dI) (tyZ cI cZ) ((W_M cI cZ q_s q_s_lane q_s_many q_s_item q_s_isle q_s_fresh q_s_then q_s_was q_s_tape q_s_isKept q_s_kept q_s_trace s_thrown s_status s_lane s_many s_item s_isle s_fresh s_then s_was s_acts s_tape s_taped s_cursor s_start s_token s_value s_fault s_faultAt s_latest s_isKept s_kept s_trace s_traced)) [.ref q_s] sz) (mtQi (dC, dI) (tyZ cI cZ) ((W_M cI cZ q_s q_s_lane q_s_many q_s_item q_s_isle q_s_fresh q_s_then q_s_was q_s_tape q_s_isKept q_s_kept q_s_trace s_thrown s_status s_lane s_many s_item s_isle s_fresh s_then s_was s_acts s_tape s_taped s_cursor s_start s_token s_value s_fault s_faultAt s_latest s_isKept s_kept s_trace s_traced)) ((W_M cI cZ q_s q_s_lane q_s_many q_s_item q_s_isle q_s_fresh q_s_then q_s_was q_s_tape q_s_isKept q_s_kept q_s_trace res.2 s_status s_lane s_many s_item s_isle s_fresh s_then s_was s_acts s_tape s_taped s_cursor s_start s_token s_value s_fault s_faultAt s_latest s_isKept s_kept s_trace s_traced)) res.1 sz) 0 0 (va_A ((W_M cI cZ q_s q_s_lane q_s_many q_s_item q_s_isle q_s_fresh q_s_then q_s_was q_s_tape q_s_isKept q_s_kept q_s_trace s_thrown s_status s_lane s_many s_item s_isle s_fresh s_then s_was s_acts s_tape s_taped s_cursor s_start s_token s_value s_fault s_faultAt s_latest s_isKept s_kept s_trace s_traced)) sz) := by
  refine Met.ofW (cc := cX9_status) (maxL := 1) (ret := (some .int)) (by decide) rfl ?_
  intro p e s m args below meth c s₁ B hml hv
  obtain ⟨rfl, hsz, hP, hK, hD0⟩ := hv
  have hx := B.exec
  have hb := B.bytes
  have hr := B.returns
  have hts := atoms_spec (ws := wsX9_status) B.pre
  have hown : s.vm.findClass RX9 = some m.cls := findClass_of_methodNamed B.named
  have hlocks := B.notSynchronized
  subst hsz
  have hD := hD0.self (sz := s.heap.size)
  obtain ⟨A, hAe⟩ : ∃ A, A = va_A ((W_M cI cZ q_s q_s_lane q_s_many q_s_item q_s_isle q_s_fresh q_s_then q_s_was q_s_tape q_s_isKept q_s_kept q_s_trace s_thrown s_status s_lane s_many s_item s_isle s_fresh s_then s_was s_acts s_tape s_taped s_cursor s_start s_token s_value s_fault s_faultAt s_latest s_isKept s_kept s_trace s_traced)) s.heap.size := ⟨_, rfl⟩
  rw [← hAe] at hD
  have hA : ∀ q : Nat, s.heap.size ≤ q → A q := fun q h => by rw [hAe]; exact Or.inr h
  have hS : va_S A s.heap s.heap [] := va_S.rf
  have hl := lv_entry ([.ref q_s]) (n := 1) (Nat.le_of_ble_eq_true rfl)
  rw [lg_entry_eq]
  generalize (lg_sl ([.ref q_s]) ++ List.replicate (1 - (lg_sl ([.ref q_s])).length) Slot.unset).toArray = ls at hl ⊢
  have hl : lv_has ls 1 [(0, .ref q_s)] := hl
  obtain ⟨QQ, hQQ⟩ : ∃ Q, Q = MQ below (mtQi (dC, dI) (tyZ cI cZ) ((W_M cI cZ q_s q_s_lane q_s_many q_s_item q_s_isle q_s_fresh q_s_then q_s_was q_s_tape q_s_isKept q_s_kept q_s_trace s_thrown s_status s_lane s_many s_item s_isle s_fresh s_then s_was s_acts s_tape s_taped s_cursor s_start s_token s_value s_fault s_faultAt s_latest s_isKept s_kept s_trace s_traced)) ((W_M cI cZ q_s q_s_lane q_s_many q_s_item q_s_isle q_s_fresh q_s_then q_s_was q_s_tape q_s_isKept q_s_kept q_s_trace res.2 s_status s_lane s_many s_item s_isle s_fresh s_then s_was s_acts s_tape s_taped s_cursor s_start s_token s_value s_fault s_faultAt s_latest s_isKept s_kept s_trace s_traced)) res.1 s.heap.size) ([.ref q_s] : List Value).toArray s 0 0 (va_A ((W_M cI cZ q_s q_s_lane q_s_many q_s_item q_s_isle q_s_fresh q_s_then q_s_was q_s_tape q_s_isKept q_s_kept q_s_trace s_thrown s_status s_lane s_many s_item s_isle s_fresh s_then s_was s_acts s_tape s_taped s_cursor s_start s_token s_value s_fault s_faultAt s_latest s_isKept s_kept s_trace s_traced)) s.heap.size) := ⟨_, rfl⟩
  rw [← hQQ]
  have w_0 := hts (Cond.fieldLink RX9 44 "TideInchesModel" "thrown" "I") (List.mem_of_getElem? (i := 1) rfl)
  have w_1 := (fun w hw => List.mem_cons_of_mem _ (List.mem_append_right _ hw) : ∀ w ∈ wsX90, w ∈ wsX9_status)
  have w_2 := hts (Cond.fieldLink RX9 48 "TideInchesModel" "status" "I") (List.mem_of_getElem? (i := 2) rfl)
  have h := hf
  unfold fX9_status at h
  refine lv_aload_n hx hb dX9_status_0 rfl (lv_at hl 0 rfl) ?_
  refine lv_iconst (v := 0) hx hb dX9_status_1 (by decide) ?_
  refine va_put (D := (dC, dI)) (ci := 7) (v := .int 0) (ty := .int) (C := RX9) (T := TX9) (N := 23) hx hb hts w_1 tyX9 tyX9_ok nmX9 hown hK hP hD hS 0 rfl rfl 0 (by decide) w_0 (fun _ h9 => h9) rfl (by decide +kernel) rfl rfl (Nat.le_of_ble_eq_true rfl) dX9_status_2 (fun H locs hP hD hS => ?_)
  have hP : va_P (dC, dI) vwCl ((W_M cI cZ q_s q_s_lane q_s_many q_s_item q_s_isle q_s_fresh q_s_then q_s_was q_s_tape q_s_isKept q_s_kept q_s_trace 0 s_status s_lane s_many s_item s_isle s_fresh s_then s_was s_acts s_tape s_taped s_cursor s_start s_token s_value s_fault s_faultAt s_latest s_isKept s_kept s_trace s_traced)) H := hP
  have hD : va_D A ((W_M cI cZ q_s q_s_lane q_s_many q_s_item q_s_isle q_s_fresh q_s_then q_s_was q_s_tape q_s_isKept q_s_kept q_s_trace 0 s_status s_lane s_many s_item s_isle s_fresh s_then s_was s_acts s_tape s_taped s_cursor s_start s_token s_value s_fault s_faultAt s_latest s_isKept s_kept s_trace s_traced)) := hD
  refine lv_aload_n hx hb dX9_status_5 rfl (lv_at hl 0 rfl) ?_
  refine va_get (D := (dC, dI)) (ci := 7) (v := .int s_status) (C := RX9) (T := TX9) (N := 23) hx hb hts w_1 hown hK hP 0 rfl rfl 1 (by decide) w_2 (fun _ h9 => h9) rfl dX9_status_6 ?_
  have h := Option.some.inj h
  subst h
  rw [hQQ]
  subst hAe
  exact W.iret (v := s_status) hx hb hr (fun t ht hW => ⟨⟨_, (), rfl, rfl, by rw [ht]; exact hP, va_K.moved hW.alike hK, hD⟩, hS.F ht⟩) hS.2.2 dX9_status_9
