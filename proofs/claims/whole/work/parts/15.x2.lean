def fX8_harvest (land_low : Int32) (land_high : Int32) (land_price : Int32) (land_hour : Int32) (land_bidders : Int32) (land_heights : (Nat → Int32)) (land_holders : (Nat → Int32)) (land_kinds : (Nat → Int32)) (v1 : Int32) (v2 : Int32) (v3 : Int32) : Option (Int32) :=
  bd1 (fX3_hasBidder land_bidders v1) (fun r_1 => (if r_1 = 0 then some ((-1000001)) else (if v2 < 1 then some ((-1000001)) else (if 15 < v2 then some ((-1000001)) else (if v3 < 1 then some ((-1000001)) else (if v3 ≤ 12 then bd1 (fX3_keptFor land_low land_high land_hour land_heights land_holders land_kinds v1 v3) (fun r_7 => bd1 (fJ6_bitCount_0f7a4 r_7) (fun r_8 => (if v2 ≤ r_8 then bd1 (fX3_leastPrices land_price land_heights land_kinds v1 r_7 v2) (fun r_10 => some (r_10)) else some ((-1000000))))) else some ((-1000001))))))))
abbrev rmX8_harvest : Room := { frames := 5, cells := 0, slots := 0, locals := 118 }
theorem ddX8_harvest : yX8_harvest.cls ≠ "java/lang/invoke/MethodHandle" ∧ yX8_harvest.cls ≠ "java/lang/invoke/VarHandle" ∧ (parseMethodDescriptor yX8_harvest.desc).map (fun d => d.parameters.length) = some 3 := by decide +kernel
set_option maxHeartbeats 4000000 in
set_option maxRecDepth 100000 in
theorem m_X8_harvest (l : Launch) (dC : Nat → ClassId) (dI : Nat → Nat → Nat) (cI cZ : ClassId) (q_s q_rows q_tape q_land q_spare q_firstImage q_secondImage q_acts q_basket q_asks q_land q_land_heights q_land_holders q_land_kinds q_land_purses q_land_homes : Nat) (s_finding : Int32) (land_told : Int32) (land_low : Int32) (land_high : Int32) (land_price : Int32) (land_hour : Int32) (land_bidders : Int32) (land_heights : (Nat → Int32)) (land_holders : (Nat → Int32)) (land_kinds : (Nat → Int32)) (land_purses : (Nat → Int32)) (land_homes : (Nat → Int32)) (v1 : Int32) (v2 : Int32) (v3 : Int32) (res : Int32) (hf : fX8_harvest land_low land_high land_price land_hour land_bidders land_heights land_holders land_kinds v1 v2 v3 = some res) : Met l yX8_harvest wsX8_harvest rmX8_harvest (rdPc (dC, dI) (tyZ cI cZ) ((W_X cI cZ q_s q_rows q_tape q_land q_spare q_firstImage q_secondImage q_acts q_basket q_asks s_finding) ++ ((W_Isle cI cZ q_land q_land_heights q_land_holders q_land_kinds q_land_purses q_land_homes land_told land_low land_high land_price land_hour land_bidders land_heights land_holders land_kinds land_purses land_homes))) [.ref q_s, .int v1, .int v2, .int v3]) (rdQ res) 0 0 (fun _ => False) := by
  refine Met.ofW (cc := cX8_harvest) (maxL := 5) (ret := (some .int)) (by decide) rfl ?_
  intro p e s m args below meth c s₁ B hml hv
  obtain ⟨rfl, hP, hK⟩ := hv
  have hx := B.exec
  have hb := B.bytes
  have hr := B.returns
  have hts := atoms_spec (ws := wsX8_harvest) B.pre
  have hown : s.vm.findClass RX8 = some m.cls := findClass_of_methodNamed B.named
  have hlocks := B.notSynchronized
  have hl := lv_entry ([.ref q_s, .int v1, .int v2, .int v3]) (n := 5) (Nat.le_of_ble_eq_true rfl)
  rw [lg_entry_eq]
  generalize (lg_sl ([.ref q_s, .int v1, .int v2, .int v3]) ++ List.replicate (5 - (lg_sl ([.ref q_s, .int v1, .int v2, .int v3])).length) Slot.unset).toArray = ls at hl ⊢
  have hl : lv_has ls 5 [(0, .ref q_s), (1, .int v1), (2, .int v2), (3, .int v3)] := hl
  obtain ⟨QQ, hQQ⟩ : ∃ Q, Q = MQ below (rdQ res) ([.ref q_s, .int v1, .int v2, .int v3] : List Value).toArray s 0 0 (fun _ => False) := ⟨_, rfl⟩
  rw [← hQQ]
  have w_0 := hts (Cond.fieldLink RX8 26 "TideInches" "land" "LTideInches$Isle;") (List.mem_of_getElem? (i := 1) rfl)
  have w_1 := (fun w hw => List.mem_cons_of_mem _ (List.mem_append_left _ (List.mem_append_right _ hw)) : ∀ w ∈ wsX80, w ∈ wsX8_harvest)
  have w_2 := hts (Cond.constant RX8 68 (-1000001)) (List.mem_of_getElem? (i := 2) rfl)
  have w_3 := hts (Cond.constant RX8 199 (-1000000)) (List.mem_of_getElem? (i := 3) rfl)
  have h := hf
  unfold fX8_harvest at h
  refine lv_aload_n hx hb dX8_harvest_0 rfl (lv_at hl 0 rfl) ?_
  refine va_get (D := (dC, dI)) (ci := 6) (v := .ref q_land) (C := RX8) (T := TX8) (N := 10) hx hb hts w_1 hown hK hP 0 rfl rfl 2 (by decide) w_0 (fun _ h9 => h9) rfl dX8_harvest_1 ?_
  refine lv_iload_n hx hb dX8_harvest_4 rfl (lv_at hl 1 rfl) ?_
  obtain ⟨r_1, hc_1, h⟩ := bd1_of h
  refine cl_rV (As := [.int v1]) (rest := []) ⟨hx, hb, hml, hown, hts⟩ (m_X3_hasBidder l dC dI cI cZ q_land q_land_heights q_land_holders q_land_kinds q_land_purses q_land_homes land_told land_low land_high land_price land_hour land_bidders land_heights land_holders land_kinds land_purses land_homes v1 (r_1) hc_1) (cwV 1 hts gX8_harvest_X3_hasBidder rfl rfl rfl ⟨rfl, ddX3_hasBidder⟩ ⟨Nat.le_of_ble_eq_true rfl, Nat.le_of_ble_eq_true rfl⟩) hK hP [1, 2, 3, 4, 5, 6] rfl rfl rfl rfl rfl hl.1 (Nat.le_of_ble_eq_true rfl) ⟨Nat.zero_le _, Nat.zero_le _⟩ dX8_harvest_5 ?_
  refine lv_if_eq (tgt := 33) hx hb dX8_harvest_8 (by decide) (fun c_2 => ?_) (fun c_2 => ?_)
  · have h := (if_pos c_2).symm.trans h
    refine lv_ldc hx hb hown w_2 dX8_harvest_33 ?_
    rw [hQQ]
    exact W.iret (v := (-1000001)) hx hb hr (fun t ht hW => ⟨_, rfl, Option.some.inj h, ht⟩) (fun q hq => by cases hq) dX8_harvest_35
  · have h := (if_neg c_2).symm.trans h
    refine lv_iload_n hx hb dX8_harvest_11 rfl (lv_at hl 2 rfl) ?_
    refine lv_iconst (v := 1) hx hb dX8_harvest_12 (by decide) ?_
    refine lv_icmp_lt (tgt := 33) hx hb dX8_harvest_13 (by decide) (fun c_3 => ?_) (fun c_3 => ?_)
    · have h := (if_pos c_3).symm.trans h
      refine lv_ldc hx hb hown w_2 dX8_harvest_33 ?_
      rw [hQQ]
      exact W.iret (v := (-1000001)) hx hb hr (fun t ht hW => ⟨_, rfl, Option.some.inj h, ht⟩) (fun q hq => by cases hq) dX8_harvest_35
    · have h := (if_neg c_3).symm.trans h
      refine lv_iload_n hx hb dX8_harvest_16 rfl (lv_at hl 2 rfl) ?_
      refine lv_bipush (v := 15) hx hb dX8_harvest_17 (by decide) ?_
      refine lv_icmp_gt (tgt := 33) hx hb dX8_harvest_19 (by decide) (fun c_4 => ?_) (fun c_4 => ?_)
      · have h := (if_pos c_4).symm.trans h
        refine lv_ldc hx hb hown w_2 dX8_harvest_33 ?_
        rw [hQQ]
        exact W.iret (v := (-1000001)) hx hb hr (fun t ht hW => ⟨_, rfl, Option.some.inj h, ht⟩) (fun q hq => by cases hq) dX8_harvest_35
      · have h := (if_neg c_4).symm.trans h
        refine lv_iload_n hx hb dX8_harvest_22 rfl (lv_at hl 3 rfl) ?_
        refine lv_iconst (v := 1) hx hb dX8_harvest_23 (by decide) ?_
        refine lv_icmp_lt (tgt := 33) hx hb dX8_harvest_24 (by decide) (fun c_5 => ?_) (fun c_5 => ?_)
        · have h := (if_pos c_5).symm.trans h
          refine lv_ldc hx hb hown w_2 dX8_harvest_33 ?_
          rw [hQQ]
          exact W.iret (v := (-1000001)) hx hb hr (fun t ht hW => ⟨_, rfl, Option.some.inj h, ht⟩) (fun q hq => by cases hq) dX8_harvest_35
        · have h := (if_neg c_5).symm.trans h
          refine lv_iload_n hx hb dX8_harvest_27 rfl (lv_at hl 3 rfl) ?_
          refine lv_bipush (v := 12) hx hb dX8_harvest_28 (by decide) ?_
          refine lv_icmp_le (tgt := 36) hx hb dX8_harvest_30 (by decide) (fun c_6 => ?_) (fun c_6 => ?_)
          · have h := (if_pos c_6).symm.trans h
            refine lv_aload_n hx hb dX8_harvest_36 rfl (lv_at hl 0 rfl) ?_
            refine va_get (D := (dC, dI)) (ci := 6) (v := .ref q_land) (C := RX8) (T := TX8) (N := 10) hx hb hts w_1 hown hK hP 0 rfl rfl 2 (by decide) w_0 (fun _ h9 => h9) rfl dX8_harvest_37 ?_
            refine lv_iload_n hx hb dX8_harvest_40 rfl (lv_at hl 1 rfl) ?_
            refine lv_iload_n hx hb dX8_harvest_41 rfl (lv_at hl 3 rfl) ?_
            obtain ⟨r_7, hc_7, h⟩ := bd1_of h
            refine cl_rV (As := [.int v1, .int v3]) (rest := []) ⟨hx, hb, hml, hown, hts⟩ (m_X3_keptFor l dC dI cI cZ q_land q_land_heights q_land_holders q_land_kinds q_land_purses q_land_homes land_told land_low land_high land_price land_hour land_bidders land_heights land_holders land_kinds land_purses land_homes v1 v3 (r_7) hc_7) (cwV 2 hts gX8_harvest_X3_keptFor rfl rfl rfl ⟨rfl, ddX3_keptFor⟩ ⟨Nat.le_of_ble_eq_true rfl, Nat.le_of_ble_eq_true rfl⟩) hK hP [1, 2, 3, 4, 5, 6] rfl rfl rfl rfl rfl hl.1 (Nat.le_of_ble_eq_true rfl) ⟨Nat.zero_le _, Nat.zero_le _⟩ dX8_harvest_42 ?_
            refine lv_istore (lv' := [(4, .int r_7), (0, .ref q_s), (1, .int v1), (2, .int v2), (3, .int v3)]) hx hb dX8_harvest_45 hl (by decide) rfl (fun ls hl => ?_)
            refine lv_iload hx hb dX8_harvest_47 (lv_at hl 0 rfl) ?_
            obtain ⟨r_8, hc_8, h⟩ := bd1_of h
            refine cl_pS (As := [.int r_7]) (rest := []) ⟨hx, hb, hml, hown, hts⟩ (m_J6_bitCount_0f7a4 l r_7 (r_8) hc_8) (va_cwS 1 hts gX8_harvest_J6_bitCount_0f7a4 rfl rfl rfl ddJ6_bitCount_0f7a4 ⟨Nat.le_of_ble_eq_true rfl, Nat.le_of_ble_eq_true rfl⟩) rfl rfl hl.1 (Nat.le_of_ble_eq_true rfl) ⟨Nat.zero_le _, Nat.zero_le _⟩ dX8_harvest_49 ?_
            refine lv_iload_n hx hb dX8_harvest_52 rfl (lv_at hl 3 rfl) ?_
            refine lv_icmp_ge (tgt := 61) hx hb dX8_harvest_53 (by decide) (fun c_9 => ?_) (fun c_9 => ?_)
            · have h := (if_pos c_9).symm.trans h
              refine lv_aload_n hx hb dX8_harvest_61 rfl (lv_at hl 1 rfl) ?_
              refine va_get (D := (dC, dI)) (ci := 6) (v := .ref q_land) (C := RX8) (T := TX8) (N := 10) hx hb hts w_1 hown hK hP 0 rfl rfl 2 (by decide) w_0 (fun _ h9 => h9) rfl dX8_harvest_62 ?_
              refine lv_iload_n hx hb dX8_harvest_65 rfl (lv_at hl 2 rfl) ?_
              refine lv_iload hx hb dX8_harvest_66 (lv_at hl 0 rfl) ?_
              refine lv_iload_n hx hb dX8_harvest_68 rfl (lv_at hl 3 rfl) ?_
              obtain ⟨r_10, hc_10, h⟩ := bd1_of h
              refine cl_rV (As := [.int v1, .int r_7, .int v2]) (rest := []) ⟨hx, hb, hml, hown, hts⟩ (m_X3_leastPrices l dC dI cI cZ q_land q_land_heights q_land_holders q_land_kinds q_land_purses q_land_homes land_told land_low land_high land_price land_hour land_bidders land_heights land_holders land_kinds land_purses land_homes v1 r_7 v2 (r_10) hc_10) (cwV 3 hts gX8_harvest_X3_leastPrices rfl rfl rfl ⟨rfl, ddX3_leastPrices⟩ ⟨Nat.le_of_ble_eq_true rfl, Nat.le_of_ble_eq_true rfl⟩) hK hP [1, 2, 3, 4, 5, 6] rfl rfl rfl rfl rfl hl.1 (Nat.le_of_ble_eq_true rfl) ⟨Nat.zero_le _, Nat.zero_le _⟩ dX8_harvest_69 ?_
              rw [hQQ]
              exact W.iret (v := r_10) hx hb hr (fun t ht hW => ⟨_, rfl, Option.some.inj h, ht⟩) (fun q hq => by cases hq) dX8_harvest_72
            · have h := (if_neg c_9).symm.trans h
              refine lv_ldc hx hb hown w_3 dX8_harvest_56 ?_
              refine lv_goto (tgt := 72) hx hb dX8_harvest_58 (by decide) ?_
              rw [hQQ]
              exact W.iret (v := (-1000000)) hx hb hr (fun t ht hW => ⟨_, rfl, Option.some.inj h, ht⟩) (fun q hq => by cases hq) dX8_harvest_72
          · have h := (if_neg c_6).symm.trans h
            refine lv_ldc hx hb hown w_2 dX8_harvest_33 ?_
            rw [hQQ]
            exact W.iret (v := (-1000001)) hx hb hr (fun t ht hW => ⟨_, rfl, Option.some.inj h, ht⟩) (fun q hq => by cases hq) dX8_harvest_35
def fX8_isNumberOfItems (v0 : Int32) : Option (Int32) :=
  (if v0 < 1 then some (0) else (if 12 < v0 then some (0) else some (1)))
abbrev rmX8_isNumberOfItems : Room := { frames := 0, cells := 0, slots := 0, locals := 0 }
theorem ddX8_isNumberOfItems : yX8_isNumberOfItems.cls ≠ "java/lang/invoke/MethodHandle" ∧ yX8_isNumberOfItems.cls ≠ "java/lang/invoke/VarHandle" ∧ (parseMethodDescriptor yX8_isNumberOfItems.desc).map (fun d => d.parameters.length) = some 1 := by decide +kernel
set_option maxHeartbeats 4000000 in
set_option maxRecDepth 100000 in
theorem m_X8_isNumberOfItems (l : Launch) (v0 : Int32) (res : Int32) (hf : fX8_isNumberOfItems v0 = some res) : Met l yX8_isNumberOfItems wsX8_isNumberOfItems rmX8_isNumberOfItems (psPc [.int v0]) (rdQ res) 0 0 (fun _ => False) := by
  refine Met.ofW (cc := cX8_isNumberOfItems) (maxL := 1) (ret := (some .boolean)) (by decide) rfl ?_
  intro p e s m args below meth c s₁ B hml hv
  obtain rfl := hv
  have hx := B.exec
  have hb := B.bytes
  have hr := B.returns
  have hts := atoms_spec (ws := wsX8_isNumberOfItems) B.pre
  have hown : s.vm.findClass RX8 = some m.cls := findClass_of_methodNamed B.named
  have hlocks := B.notSynchronized
  have hl := lv_entry ([.int v0]) (n := 1) (Nat.le_of_ble_eq_true rfl)
  rw [lg_entry_eq]
  generalize (lg_sl ([.int v0]) ++ List.replicate (1 - (lg_sl ([.int v0])).length) Slot.unset).toArray = ls at hl ⊢
  have hl : lv_has ls 1 [(0, .int v0)] := hl
  obtain ⟨QQ, hQQ⟩ : ∃ Q, Q = MQ below (rdQ res) ([.int v0] : List Value).toArray s 0 0 (fun _ => False) := ⟨_, rfl⟩
  rw [← hQQ]
  have h := hf
  unfold fX8_isNumberOfItems at h
  refine lv_iload_n hx hb dX8_isNumberOfItems_0 rfl (lv_at hl 0 rfl) ?_
  refine lv_iconst (v := 1) hx hb dX8_isNumberOfItems_1 (by decide) ?_
  refine lv_icmp_lt (tgt := 15) hx hb dX8_isNumberOfItems_2 (by decide) (fun c_1 => ?_) (fun c_1 => ?_)
  · have h := (if_pos c_1).symm.trans h
    refine lv_iconst (v := 0) hx hb dX8_isNumberOfItems_15 (by decide) ?_
    rw [hQQ]
    exact W.zret (v := 0) (ty := .boolean) hx hb hr rfl (fun t ht hW => ⟨_, rfl, Option.some.inj h, ht⟩) (fun q hq => by cases hq) dX8_isNumberOfItems_16
  · have h := (if_neg c_1).symm.trans h
    refine lv_iload_n hx hb dX8_isNumberOfItems_5 rfl (lv_at hl 0 rfl) ?_
    refine lv_bipush (v := 12) hx hb dX8_isNumberOfItems_6 (by decide) ?_
    refine lv_icmp_gt (tgt := 15) hx hb dX8_isNumberOfItems_8 (by decide) (fun c_2 => ?_) (fun c_2 => ?_)
    · have h := (if_pos c_2).symm.trans h
      refine lv_iconst (v := 0) hx hb dX8_isNumberOfItems_15 (by decide) ?_
      rw [hQQ]
      exact W.zret (v := 0) (ty := .boolean) hx hb hr rfl (fun t ht hW => ⟨_, rfl, Option.some.inj h, ht⟩) (fun q hq => by cases hq) dX8_isNumberOfItems_16
    · have h := (if_neg c_2).symm.trans h
      refine lv_iconst (v := 1) hx hb dX8_isNumberOfItems_11 (by decide) ?_
      refine lv_goto (tgt := 16) hx hb dX8_isNumberOfItems_12 (by decide) ?_
      rw [hQQ]
      exact W.zret (v := 1) (ty := .boolean) hx hb hr rfl (fun t ht hW => ⟨_, rfl, Option.some.inj h, ht⟩) (fun q hq => by cases hq) dX8_isNumberOfItems_16
def fX8_raised_L80 (rows_items : (Nat → Int32)) (land_low : Int32) (land_high : Int32) (land_hour : Int32) (land_heights : (Nat → Int32)) (v1 : Int32) (v2 : Int32) (v3 : Int32) (k80_119 : Int32 → Option (Int32 × Int32)) : Nat → Int32 → Int32 → Option (Int32 × Int32)
  | 0, _, _ => none
  | n + 1, v4_h80, v5_h80 => (if v3 < v5_h80 then (k80_119 v4_h80) else bd1 (fX5_item rows_items v1 ((v2 + v5_h80) - 1)) (fun r_13 => bd1 (fX3_raisedSo land_low land_high land_hour land_heights v4_h80 v5_h80 r_13) (fun r_14 => ((fX8_raised_L80 rows_items land_low land_high land_hour land_heights v1 v2 v3 k80_119 n) r_14 (v5_h80 + 1)))))
def fX8_raised (s_finding : Int32) (rows_lanes : (Nat → Int32)) (rows_lengths : (Nat → Int32)) (rows_items : (Nat → Int32)) (land_told : Int32) (land_low : Int32) (land_high : Int32) (land_hour : Int32) (land_heights : (Nat → Int32)) (v1 : Int32) (v2 : Int32) (v3 : Int32) : Option (Int32 × Int32) :=
  bd1 (fX3_isTold land_told) (fun r_1 => (if r_1 = 0 then some ((-1000002), s_finding) else bd1 (fX5_isRow v1) (fun r_3 => (if r_3 = 0 then some ((-1000001), s_finding) else bd1 (fX8_isNumberOfItems v3) (fun r_5 => (if r_5 = 0 then some ((-1000001), s_finding) else bd1 (fX5_isMissing rows_lanes v1) (fun r_7 => (if r_7 = 0 then bd1 (fX5_hasPlaces rows_lengths v1 v2 v3) (fun r_9 => (if r_9 = 0 then bd2 (fX8_found 2) (fun r_16 s_finding_16 => some (r_16, s_finding_16)) else bd1 (fX3_cellsBelow land_heights 9) (fun r_11 => (fX8_raised_L80 rows_items land_low land_high land_hour land_heights v1 v2 v3 (fun v4_e119 => bd2 (fX8_unfound v4_e119) (fun r_15 s_finding_15 => some (r_15, s_finding_15))) FU r_11 1)))) else bd2 (fX8_found 1) (fun r_17 s_finding_17 => some (r_17, s_finding_17))))))))))
abbrev rmX8_raised : Room := { frames := 3, cells := 0, slots := 0, locals := 73 }
theorem ddX8_raised : yX8_raised.cls ≠ "java/lang/invoke/MethodHandle" ∧ yX8_raised.cls ≠ "java/lang/invoke/VarHandle" ∧ (parseMethodDescriptor yX8_raised.desc).map (fun d => d.parameters.length) = some 3 := by decide +kernel
set_option maxHeartbeats 4000000 in
set_option maxRecDepth 100000 in
theorem m_X8_raised (l : Launch) (dC : Nat → ClassId) (dI : Nat → Nat → Nat) (cI cZ : ClassId) (q_s q_rows q_tape q_land q_spare q_firstImage q_secondImage q_acts q_basket q_asks q_rows q_rows_lanes q_rows_lengths q_rows_items q_land q_land_heights q_land_holders q_land_kinds q_land_purses q_land_homes : Nat) (s_finding : Int32) (rows_lanes : (Nat → Int32)) (rows_lengths : (Nat → Int32)) (rows_items : (Nat → Int32)) (land_told : Int32) (land_low : Int32) (land_high : Int32) (land_price : Int32) (land_hour : Int32) (land_bidders : Int32) (land_heights : (Nat → Int32)) (land_holders : (Nat → Int32)) (land_kinds : (Nat → Int32)) (land_purses : (Nat → Int32)) (land_homes : (Nat → Int32)) (v1 : Int32) (v2 : Int32) (v3 : Int32) (sz : Nat) (res : Int32 × Int32) (hf : fX8_raised s_finding rows_lanes rows_lengths rows_items land_told land_low land_high land_hour land_heights v1 v2 v3 = some res) : Met l yX8_raised wsX8_raised rmX8_raised (mtPc (dC, dI) (tyZ cI cZ) ((W_X cI cZ q_s q_rows q_tape q_land q_spare q_firstImage q_secondImage q_acts q_basket q_asks s_finding) ++ ((W_Rows cI cZ q_rows q_rows_lanes q_rows_lengths q_rows_items rows_lanes rows_lengths rows_items) ++ ((W_Isle cI cZ q_land q_land_heights q_land_holders q_land_kinds q_land_purses q_land_homes land_told land_low land_high land_price land_hour land_bidders land_heights land_holders land_kinds land_purses land_homes)))) [.ref q_s, .int v1, .int v2, .int v3] sz) (mtQi (dC, dI) (tyZ cI cZ) ((W_X cI cZ q_s q_rows q_tape q_land q_spare q_firstImage q_secondImage q_acts q_basket q_asks s_finding) ++ ((W_Rows cI cZ q_rows q_rows_lanes q_rows_lengths q_rows_items rows_lanes rows_lengths rows_items) ++ ((W_Isle cI cZ q_land q_land_heights q_land_holders q_land_kinds q_land_purses q_land_homes land_told land_low land_high land_price land_hour land_bidders land_heights land_holders land_kinds land_purses land_homes)))) ((W_X cI cZ q_s q_rows q_tape q_land q_spare q_firstImage q_secondImage q_acts q_basket q_asks res.2) ++ ((W_Rows cI cZ q_rows q_rows_lanes q_rows_lengths q_rows_items rows_lanes rows_lengths rows_items) ++ ((W_Isle cI cZ q_land q_land_heights q_land_holders q_land_kinds q_land_purses q_land_homes land_told land_low land_high land_price land_hour land_bidders land_heights land_holders land_kinds land_purses land_homes)))) res.1 sz) 0 0 (va_A ((W_X cI cZ q_s q_rows q_tape q_land q_spare q_firstImage q_secondImage q_acts q_basket q_asks s_finding) ++ ((W_Rows cI cZ q_rows q_rows_lanes q_rows_lengths q_rows_items rows_lanes rows_lengths rows_items) ++ ((W_Isle cI cZ q_land q_land_heights q_land_holders q_land_kinds q_land_purses q_land_homes land_told land_low land_high land_price land_hour land_bidders land_heights land_holders land_kinds land_purses land_homes)))) sz) := by
  refine Met.ofW (cc := cX8_raised) (maxL := 6) (ret := (some .int)) (by decide) rfl ?_
  intro p e s m args below meth c s₁ B hml hv
  obtain ⟨rfl, hsz, hP, hK, hD0⟩ := hv
  have hx := B.exec
  have hb := B.bytes
  have hr := B.returns
  have hts := atoms_spec (ws := wsX8_raised) B.pre
  have hown : s.vm.findClass RX8 = some m.cls := findClass_of_methodNamed B.named
  have hlocks := B.notSynchronized
  subst hsz
  have hD := hD0.self (sz := s.heap.size)
  obtain ⟨A, hAe⟩ : ∃ A, A = va_A ((W_X cI cZ q_s q_rows q_tape q_land q_spare q_firstImage q_secondImage q_acts q_basket q_asks s_finding) ++ ((W_Rows cI cZ q_rows q_rows_lanes q_rows_lengths q_rows_items rows_lanes rows_lengths rows_items) ++ ((W_Isle cI cZ q_land q_land_heights q_land_holders q_land_kinds q_land_purses q_land_homes land_told land_low land_high land_price land_hour land_bidders land_heights land_holders land_kinds land_purses land_homes)))) s.heap.size := ⟨_, rfl⟩
  rw [← hAe] at hD
  have hA : ∀ q : Nat, s.heap.size ≤ q → A q := fun q h => by rw [hAe]; exact Or.inr h
  have hS : va_S A s.heap s.heap [] := va_S.rf
  have hl := lv_entry ([.ref q_s, .int v1, .int v2, .int v3]) (n := 6) (Nat.le_of_ble_eq_true rfl)
  rw [lg_entry_eq]
  generalize (lg_sl ([.ref q_s, .int v1, .int v2, .int v3]) ++ List.replicate (6 - (lg_sl ([.ref q_s, .int v1, .int v2, .int v3])).length) Slot.unset).toArray = ls at hl ⊢
  have hl : lv_has ls 6 [(0, .ref q_s), (1, .int v1), (2, .int v2), (3, .int v3)] := hl
  obtain ⟨QQ, hQQ⟩ : ∃ Q, Q = MQ below (mtQi (dC, dI) (tyZ cI cZ) ((W_X cI cZ q_s q_rows q_tape q_land q_spare q_firstImage q_secondImage q_acts q_basket q_asks s_finding) ++ ((W_Rows cI cZ q_rows q_rows_lanes q_rows_lengths q_rows_items rows_lanes rows_lengths rows_items) ++ ((W_Isle cI cZ q_land q_land_heights q_land_holders q_land_kinds q_land_purses q_land_homes land_told land_low land_high land_price land_hour land_bidders land_heights land_holders land_kinds land_purses land_homes)))) ((W_X cI cZ q_s q_rows q_tape q_land q_spare q_firstImage q_secondImage q_acts q_basket q_asks res.2) ++ ((W_Rows cI cZ q_rows q_rows_lanes q_rows_lengths q_rows_items rows_lanes rows_lengths rows_items) ++ ((W_Isle cI cZ q_land q_land_heights q_land_holders q_land_kinds q_land_purses q_land_homes land_told land_low land_high land_price land_hour land_bidders land_heights land_holders land_kinds land_purses land_homes)))) res.1 s.heap.size) ([.ref q_s, .int v1, .int v2, .int v3] : List Value).toArray s 0 0 (va_A ((W_X cI cZ q_s q_rows q_tape q_land q_spare q_firstImage q_secondImage q_acts q_basket q_asks s_finding) ++ ((W_Rows cI cZ q_rows q_rows_lanes q_rows_lengths q_rows_items rows_lanes rows_lengths rows_items) ++ ((W_Isle cI cZ q_land q_land_heights q_land_holders q_land_kinds q_land_purses q_land_homes land_told land_low land_high land_price land_hour land_bidders land_heights land_holders land_kinds land_purses land_homes)))) s.heap.size) := ⟨_, rfl⟩
  rw [← hQQ]
  have w_0 := hts (Cond.fieldLink RX8 26 "TideInches" "land" "LTideInches$Isle;") (List.mem_of_getElem? (i := 1) rfl)
  have w_1 := (fun w hw => List.mem_cons_of_mem _ (List.mem_append_left _ (List.mem_append_left _ (List.mem_append_right _ hw))) : ∀ w ∈ wsX80, w ∈ wsX8_raised)
  have w_2 := hts (Cond.constant RX8 68 (-1000001)) (List.mem_of_getElem? (i := 3) rfl)
  have w_3 := hts (Cond.fieldLink RX8 12 "TideInches" "rows" "LTideInches$Rows;") (List.mem_of_getElem? (i := 4) rfl)
  have w_4 := hts (Cond.constant RX8 136 (-1000002)) (List.mem_of_getElem? (i := 2) rfl)
  have h := hf
  unfold fX8_raised at h
  refine lv_aload_n hx hb dX8_raised_0 rfl (lv_at hl 0 rfl) ?_
  refine va_get (D := (dC, dI)) (ci := 6) (v := .ref q_land) (C := RX8) (T := TX8) (N := 10) hx hb hts w_1 hown hK hP 0 rfl rfl 2 (by decide) w_0 (fun _ h9 => h9) rfl dX8_raised_1 ?_
  obtain ⟨r_1, hc_1, h⟩ := bd1_of h
  refine cl_rV (As := []) (rest := []) ⟨hx, hb, hml, hown, hts⟩ (m_X3_isTold l dC dI cI cZ q_land q_land_heights q_land_holders q_land_kinds q_land_purses q_land_homes land_told land_low land_high land_price land_hour land_bidders land_heights land_holders land_kinds land_purses land_homes (r_1) hc_1) (cwV 0 hts gX8_raised_X3_isTold rfl rfl rfl ⟨rfl, ddX3_isTold⟩ ⟨Nat.le_of_ble_eq_true rfl, Nat.le_of_ble_eq_true rfl⟩) hK hP [5, 6, 7, 8, 9, 10] rfl rfl rfl rfl rfl hl.1 (Nat.le_of_ble_eq_true rfl) ⟨Nat.zero_le _, Nat.zero_le _⟩ dX8_raised_4 ?_
  refine lv_if_ne (tgt := 13) hx hb dX8_raised_7 (by decide) (fun c_2 => ?_) (fun c_2 => ?_)
  · have h := (if_neg c_2).symm.trans h
    refine lv_iload_n hx hb dX8_raised_13 rfl (lv_at hl 1 rfl) ?_
    obtain ⟨r_3, hc_3, h⟩ := bd1_of h
    refine cl_pS (As := [.int v1]) (rest := []) ⟨hx, hb, hml, hown, hts⟩ (m_X5_isRow l v1 (r_3) hc_3) (va_cwS 1 hts gX8_raised_X5_isRow rfl rfl rfl ddX5_isRow ⟨Nat.le_of_ble_eq_true rfl, Nat.le_of_ble_eq_true rfl⟩) rfl rfl hl.1 (Nat.le_of_ble_eq_true rfl) ⟨Nat.zero_le _, Nat.zero_le _⟩ dX8_raised_14 ?_
    refine lv_if_eq (tgt := 27) hx hb dX8_raised_17 (by decide) (fun c_4 => ?_) (fun c_4 => ?_)
    · have h := (if_pos c_4).symm.trans h
      refine lv_ldc hx hb hown w_2 dX8_raised_27 ?_
      have h := Option.some.inj h
      subst h
      rw [hQQ]
      subst hAe
      exact W.iret (v := (-1000001)) hx hb hr (fun t ht hW => ⟨⟨_, (), rfl, rfl, by rw [ht]; exact hP, va_K.moved hW.alike hK, hD⟩, hS.F ht⟩) hS.2.2 dX8_raised_29
    · have h := (if_neg c_4).symm.trans h
      refine lv_iload_n hx hb dX8_raised_20 rfl (lv_at hl 3 rfl) ?_
      obtain ⟨r_5, hc_5, h⟩ := bd1_of h
      refine cl_pS (As := [.int v3]) (rest := []) ⟨hx, hb, hml, hown, hts⟩ (m_X8_isNumberOfItems l v3 (r_5) hc_5) (va_cwS 1 hts gX8_raised_X8_isNumberOfItems rfl rfl rfl ddX8_isNumberOfItems ⟨Nat.le_of_ble_eq_true rfl, Nat.le_of_ble_eq_true rfl⟩) rfl rfl hl.1 (Nat.le_of_ble_eq_true rfl) ⟨Nat.zero_le _, Nat.zero_le _⟩ dX8_raised_21 ?_
      refine lv_if_ne (tgt := 30) hx hb dX8_raised_24 (by decide) (fun c_6 => ?_) (fun c_6 => ?_)
      · have h := (if_neg c_6).symm.trans h
        refine lv_aload_n hx hb dX8_raised_30 rfl (lv_at hl 0 rfl) ?_
        refine va_get (D := (dC, dI)) (ci := 6) (v := .ref q_rows) (C := RX8) (T := TX8) (N := 10) hx hb hts w_1 hown hK hP 0 rfl rfl 0 (by decide) w_3 (fun _ h9 => h9) rfl dX8_raised_31 ?_
        refine lv_iload_n hx hb dX8_raised_34 rfl (lv_at hl 1 rfl) ?_
        obtain ⟨r_7, hc_7, h⟩ := bd1_of h
        refine cl_rV (As := [.int v1]) (rest := []) ⟨hx, hb, hml, hown, hts⟩ (m_X5_isMissing l dC dI cI cZ q_rows q_rows_lanes q_rows_lengths q_rows_items rows_lanes rows_lengths rows_items v1 (r_7) hc_7) (cwV 1 hts gX8_raised_X5_isMissing rfl rfl rfl ⟨rfl, ddX5_isMissing⟩ ⟨Nat.le_of_ble_eq_true rfl, Nat.le_of_ble_eq_true rfl⟩) hK hP [1, 2, 3, 4] rfl rfl rfl rfl rfl hl.1 (Nat.le_of_ble_eq_true rfl) ⟨Nat.zero_le _, Nat.zero_le _⟩ dX8_raised_35 ?_
        refine lv_if_eq (tgt := 47) hx hb dX8_raised_38 (by decide) (fun c_8 => ?_) (fun c_8 => ?_)
        · have h := (if_pos c_8).symm.trans h
          refine lv_aload_n hx hb dX8_raised_47 rfl (lv_at hl 0 rfl) ?_
          refine va_get (D := (dC, dI)) (ci := 6) (v := .ref q_rows) (C := RX8) (T := TX8) (N := 10) hx hb hts w_1 hown hK hP 0 rfl rfl 0 (by decide) w_3 (fun _ h9 => h9) rfl dX8_raised_48 ?_
          refine lv_iload_n hx hb dX8_raised_51 rfl (lv_at hl 1 rfl) ?_
          refine lv_iload_n hx hb dX8_raised_52 rfl (lv_at hl 2 rfl) ?_
          refine lv_iload_n hx hb dX8_raised_53 rfl (lv_at hl 3 rfl) ?_
          obtain ⟨r_9, hc_9, h⟩ := bd1_of h
          refine cl_rV (As := [.int v1, .int v2, .int v3]) (rest := []) ⟨hx, hb, hml, hown, hts⟩ (m_X5_hasPlaces l dC dI cI cZ q_rows q_rows_lanes q_rows_lengths q_rows_items rows_lanes rows_lengths rows_items v1 v2 v3 (r_9) hc_9) (cwV 3 hts gX8_raised_X5_hasPlaces rfl rfl rfl ⟨rfl, ddX5_hasPlaces⟩ ⟨Nat.le_of_ble_eq_true rfl, Nat.le_of_ble_eq_true rfl⟩) hK hP [1, 2, 3, 4] rfl rfl rfl rfl rfl hl.1 (Nat.le_of_ble_eq_true rfl) ⟨Nat.zero_le _, Nat.zero_le _⟩ dX8_raised_54 ?_
          refine lv_if_ne (tgt := 66) hx hb dX8_raised_57 (by decide) (fun c_10 => ?_) (fun c_10 => ?_)
          · have h := (if_neg c_10).symm.trans h
            refine lv_aload_n hx hb dX8_raised_66 rfl (lv_at hl 0 rfl) ?_
            refine va_get (D := (dC, dI)) (ci := 6) (v := .ref q_land) (C := RX8) (T := TX8) (N := 10) hx hb hts w_1 hown hK hP 0 rfl rfl 2 (by decide) w_0 (fun _ h9 => h9) rfl dX8_raised_67 ?_
            refine lv_bipush (v := 9) hx hb dX8_raised_70 (by decide) ?_
            obtain ⟨r_11, hc_11, h⟩ := bd1_of h
            refine cl_rV (As := [.int 9]) (rest := []) ⟨hx, hb, hml, hown, hts⟩ (m_X3_cellsBelow l dC dI cI cZ q_land q_land_heights q_land_holders q_land_kinds q_land_purses q_land_homes land_told land_low land_high land_price land_hour land_bidders land_heights land_holders land_kinds land_purses land_homes 9 (r_11) hc_11) (cwV 1 hts gX8_raised_X3_cellsBelow rfl rfl rfl ⟨rfl, ddX3_cellsBelow⟩ ⟨Nat.le_of_ble_eq_true rfl, Nat.le_of_ble_eq_true rfl⟩) hK hP [5, 6, 7, 8, 9, 10] rfl rfl rfl rfl rfl hl.1 (Nat.le_of_ble_eq_true rfl) ⟨Nat.zero_le _, Nat.zero_le _⟩ dX8_raised_72 ?_
            refine lv_istore (lv' := [(4, .int r_11), (0, .ref q_s), (1, .int v1), (2, .int v2), (3, .int v3)]) hx hb dX8_raised_75 hl (by decide) rfl (fun ls hl => ?_)
            refine lv_iconst (v := 1) hx hb dX8_raised_77 (by decide) ?_
            refine lv_istore (lv' := [(5, .int 1), (4, .int r_11), (0, .ref q_s), (1, .int v1), (2, .int v2), (3, .int v3)]) hx hb dX8_raised_78 hl (by decide) rfl (fun ls hl => ?_)
            have KL80 : ∀ (k80_119 : Int32 → Option (Int32 × Int32)) , (∀ (v4_e119 : Int32) (H : Heap) (locs : List Loc) (ls : Array Slot), va_P (dC, dI) vwCl ((W_X cI cZ q_s q_rows q_tape q_land q_spare q_firstImage q_secondImage q_acts q_basket q_asks s_finding) ++ ((W_Rows cI cZ q_rows q_rows_lanes q_rows_lengths q_rows_items rows_lanes rows_lengths rows_items) ++ ((W_Isle cI cZ q_land q_land_heights q_land_holders q_land_kinds q_land_purses q_land_homes land_told land_low land_high land_price land_hour land_bidders land_heights land_holders land_kinds land_purses land_homes)))) H → va_D A ((W_X cI cZ q_s q_rows q_tape q_land q_spare q_firstImage q_secondImage q_acts q_basket q_asks s_finding) ++ ((W_Rows cI cZ q_rows q_rows_lanes q_rows_lengths q_rows_items rows_lanes rows_lengths rows_items) ++ ((W_Isle cI cZ q_land q_land_heights q_land_holders q_land_kinds q_land_purses q_land_homes land_told land_low land_high land_price land_hour land_bidders land_heights land_holders land_kinds land_purses land_homes)))) → va_S A s.heap H locs → lv_has ls 6 [(0, .ref q_s), (4, .int v4_e119)] → k80_119 v4_e119 = some res → W p l e (headSpec wsX8_raised rmX8_raised).room s m ([.ref q_s, .int v1, .int v2, .int v3] : List Value).toArray below meth c H locs 0 0 QQ (F0 m 119 ls [])) → ∀ (n : Nat) (v4_h80 : Int32) (v5_h80 : Int32) (H : Heap) (locs : List Loc) (ls : Array Slot), va_P (dC, dI) vwCl ((W_X cI cZ q_s q_rows q_tape q_land q_spare q_firstImage q_secondImage q_acts q_basket q_asks s_finding) ++ ((W_Rows cI cZ q_rows q_rows_lanes q_rows_lengths q_rows_items rows_lanes rows_lengths rows_items) ++ ((W_Isle cI cZ q_land q_land_heights q_land_holders q_land_kinds q_land_purses q_land_homes land_told land_low land_high land_price land_hour land_bidders land_heights land_holders land_kinds land_purses land_homes)))) H → va_D A ((W_X cI cZ q_s q_rows q_tape q_land q_spare q_firstImage q_secondImage q_acts q_basket q_asks s_finding) ++ ((W_Rows cI cZ q_rows q_rows_lanes q_rows_lengths q_rows_items rows_lanes rows_lengths rows_items) ++ ((W_Isle cI cZ q_land q_land_heights q_land_holders q_land_kinds q_land_purses q_land_homes land_told land_low land_high land_price land_hour land_bidders land_heights land_holders land_kinds land_purses land_homes)))) → va_S A s.heap H locs → lv_has ls 6 [(0, .ref q_s), (1, .int v1), (2, .int v2), (3, .int v3), (4, .int v4_h80), (5, .int v5_h80)] → fX8_raised_L80 rows_items land_low land_high land_hour land_heights v1 v2 v3 k80_119 n v4_h80 v5_h80 = some res → W p l e (headSpec wsX8_raised rmX8_raised).room s m ([.ref q_s, .int v1, .int v2, .int v3] : List Value).toArray below meth c H locs 0 0 QQ (F0 m 80 ls []) := by
              intro k80_119 Kk80_119 n
              induction n with
              | zero => intro v4_h80 v5_h80 H locs ls hP hD hS hl h; rw [fX8_raised_L80.eq_1] at h; cases h
              | succ n ih =>
                intro v4_h80 v5_h80 H locs ls hP hD hS hl h
                rw [fX8_raised_L80.eq_2] at h
                refine lv_iload hx hb dX8_raised_80 (lv_at hl 5 rfl) ?_
                refine lv_iload_n hx hb dX8_raised_82 rfl (lv_at hl 3 rfl) ?_
                refine lv_icmp_gt (tgt := 119) hx hb dX8_raised_83 (by decide) (fun c_12 => ?_) (fun c_12 => ?_)
                · have h := (if_pos c_12).symm.trans h
                  exact Kk80_119 v4_h80 _ _ _ hP hD hS (lv_sub hl [0, 4] rfl) h
                · have h := (if_neg c_12).symm.trans h
                  refine lv_aload_n hx hb dX8_raised_86 rfl (lv_at hl 0 rfl) ?_
                  refine va_get (D := (dC, dI)) (ci := 6) (v := .ref q_land) (C := RX8) (T := TX8) (N := 10) hx hb hts w_1 hown hK hP 0 rfl rfl 2 (by decide) w_0 (fun _ h9 => h9) rfl dX8_raised_87 ?_
                  refine lv_iload hx hb dX8_raised_90 (lv_at hl 4 rfl) ?_
                  refine lv_iload hx hb dX8_raised_92 (lv_at hl 5 rfl) ?_
                  refine lv_aload_n hx hb dX8_raised_94 rfl (lv_at hl 0 rfl) ?_
                  refine va_get (D := (dC, dI)) (ci := 6) (v := .ref q_rows) (C := RX8) (T := TX8) (N := 10) hx hb hts w_1 hown hK hP 0 rfl rfl 0 (by decide) w_3 (fun _ h9 => h9) rfl dX8_raised_95 ?_
                  refine lv_iload_n hx hb dX8_raised_98 rfl (lv_at hl 1 rfl) ?_
                  refine lv_iload_n hx hb dX8_raised_99 rfl (lv_at hl 2 rfl) ?_
                  refine lv_iload hx hb dX8_raised_100 (lv_at hl 5 rfl) ?_
                  refine lv_iadd hx hb dX8_raised_102 ?_
                  refine lv_iconst (v := 1) hx hb dX8_raised_103 (by decide) ?_
                  refine lv_isub hx hb dX8_raised_104 ?_
                  obtain ⟨r_13, hc_13, h⟩ := bd1_of h
                  refine cl_rV (As := [.int v1, .int ((v2 + v5_h80) - 1)]) (rest := [.int v5_h80, .int v4_h80, .ref q_land]) ⟨hx, hb, hml, hown, hts⟩ (m_X5_item l dC dI cI cZ q_rows q_rows_lanes q_rows_lengths q_rows_items rows_lanes rows_lengths rows_items v1 ((v2 + v5_h80) - 1) (r_13) hc_13) (cwV 2 hts gX8_raised_X5_item rfl rfl rfl ⟨rfl, ddX5_item⟩ ⟨Nat.le_of_ble_eq_true rfl, Nat.le_of_ble_eq_true rfl⟩) hK hP [1, 2, 3, 4] rfl rfl rfl rfl rfl hl.1 (Nat.le_of_ble_eq_true rfl) ⟨Nat.zero_le _, Nat.zero_le _⟩ dX8_raised_105 ?_
                  obtain ⟨r_14, hc_14, h⟩ := bd1_of h
                  refine cl_rV (As := [.int v4_h80, .int v5_h80, .int r_13]) (rest := []) ⟨hx, hb, hml, hown, hts⟩ (m_X3_raisedSo l dC dI cI cZ q_land q_land_heights q_land_holders q_land_kinds q_land_purses q_land_homes land_told land_low land_high land_price land_hour land_bidders land_heights land_holders land_kinds land_purses land_homes v4_h80 v5_h80 r_13 (r_14) hc_14) (cwV 3 hts gX8_raised_X3_raisedSo rfl rfl rfl ⟨rfl, ddX3_raisedSo⟩ ⟨Nat.le_of_ble_eq_true rfl, Nat.le_of_ble_eq_true rfl⟩) hK hP [5, 6, 7, 8, 9, 10] rfl rfl rfl rfl rfl hl.1 (Nat.le_of_ble_eq_true rfl) ⟨Nat.zero_le _, Nat.zero_le _⟩ dX8_raised_108 ?_
                  refine lv_istore (lv' := [(4, .int r_14), (0, .ref q_s), (1, .int v1), (2, .int v2), (3, .int v3), (5, .int v5_h80)]) hx hb dX8_raised_111 hl (by decide) rfl (fun ls hl => ?_)
                  refine lv_iinc (v := (v5_h80 + 1)) (lv' := [(5, .int (v5_h80 + 1)), (4, .int r_14), (0, .ref q_s), (1, .int v1), (2, .int v2), (3, .int v3)]) hx hb dX8_raised_113 hl (k := 5) rfl rfl (by decide) rfl (fun ls hl => ?_)
                  refine lv_goto (tgt := 80) hx hb dX8_raised_116 (by decide) ?_
                  exact ih r_14 (v5_h80 + 1) _ _ _ hP hD hS (lv_sub hl [2, 3, 4, 5, 1, 0] rfl) h
            refine KL80 _ (fun v4_e119 H locs ls hP hD hS hl h => ?_) FU r_11 1 _ _ _ hP hD hS (lv_sub hl [2, 3, 4, 5, 1, 0] rfl) h
            refine lv_aload_n hx hb dX8_raised_119 rfl (lv_at hl 0 rfl) ?_
            refine lv_iload hx hb dX8_raised_120 (lv_at hl 1 rfl) ?_
            obtain ⟨r_15, s_finding_15, hc_15, h⟩ := bd2_of h
            refine cl_mVi (As := [.int v4_e119]) (rest := []) (ws' := (W_X cI cZ q_s q_rows q_tape q_land q_spare q_firstImage q_secondImage q_acts q_basket q_asks s_finding_15) ++ ((W_Rows cI cZ q_rows q_rows_lanes q_rows_lengths q_rows_items rows_lanes rows_lengths rows_items) ++ ((W_Isle cI cZ q_land q_land_heights q_land_holders q_land_kinds q_land_purses q_land_homes land_told land_low land_high land_price land_hour land_bidders land_heights land_holders land_kinds land_purses land_homes)))) (wr := (W_Rows cI cZ q_rows q_rows_lanes q_rows_lengths q_rows_items rows_lanes rows_lengths rows_items) ++ ((W_Isle cI cZ q_land q_land_heights q_land_holders q_land_kinds q_land_purses q_land_homes land_told land_low land_high land_price land_hour land_bidders land_heights land_holders land_kinds land_purses land_homes))) ⟨hx, hb, hml, hown, hts⟩ (m_X8_unfound l dC dI cI cZ q_s q_rows q_tape q_land q_spare q_firstImage q_secondImage q_acts q_basket q_asks s_finding v4_e119 _ (r_15, s_finding_15) hc_15) (cwV 1 hts gX8_raised_X8_unfound rfl rfl rfl ⟨rfl, ddX8_unfound⟩ ⟨Nat.le_of_ble_eq_true rfl, Nat.le_of_ble_eq_true rfl⟩) hK hP hD hS hA [0] [1, 2, 3, 4, 5, 6, 7, 8, 9, 10] rfl rfl rfl rfl (by decide) [10, 0, 1, 2, 3, 4, 5, 6, 7, 8, 9] rfl rfl rfl rfl rfl rfl rfl hl.1 (Nat.le_of_ble_eq_true rfl) ⟨Nat.zero_le _, Nat.zero_le _⟩ dX8_raised_122 (fun H locs hP hD hS => ?_)
            have h := Option.some.inj h
            subst h
            rw [hQQ]
            subst hAe
            exact W.iret (v := r_15) hx hb hr (fun t ht hW => ⟨⟨_, (), rfl, rfl, by rw [ht]; exact hP, va_K.moved hW.alike hK, hD⟩, hS.F ht⟩) hS.2.2 dX8_raised_125
          · have h := (if_pos c_10).symm.trans h
            refine lv_aload_n hx hb dX8_raised_60 rfl (lv_at hl 0 rfl) ?_
            refine lv_iconst (v := 2) hx hb dX8_raised_61 (by decide) ?_
            obtain ⟨r_16, s_finding_16, hc_16, h⟩ := bd2_of h
            refine cl_mVi (As := [.int 2]) (rest := []) (ws' := (W_X cI cZ q_s q_rows q_tape q_land q_spare q_firstImage q_secondImage q_acts q_basket q_asks s_finding_16) ++ ((W_Rows cI cZ q_rows q_rows_lanes q_rows_lengths q_rows_items rows_lanes rows_lengths rows_items) ++ ((W_Isle cI cZ q_land q_land_heights q_land_holders q_land_kinds q_land_purses q_land_homes land_told land_low land_high land_price land_hour land_bidders land_heights land_holders land_kinds land_purses land_homes)))) (wr := (W_Rows cI cZ q_rows q_rows_lanes q_rows_lengths q_rows_items rows_lanes rows_lengths rows_items) ++ ((W_Isle cI cZ q_land q_land_heights q_land_holders q_land_kinds q_land_purses q_land_homes land_told land_low land_high land_price land_hour land_bidders land_heights land_holders land_kinds land_purses land_homes))) ⟨hx, hb, hml, hown, hts⟩ (m_X8_found l dC dI cI cZ q_s q_rows q_tape q_land q_spare q_firstImage q_secondImage q_acts q_basket q_asks s_finding 2 _ (r_16, s_finding_16) hc_16) (cwV 1 hts gX8_raised_X8_found rfl rfl rfl ⟨rfl, ddX8_found⟩ ⟨Nat.le_of_ble_eq_true rfl, Nat.le_of_ble_eq_true rfl⟩) hK hP hD hS hA [0] [1, 2, 3, 4, 5, 6, 7, 8, 9, 10] rfl rfl rfl rfl (by decide) [10, 0, 1, 2, 3, 4, 5, 6, 7, 8, 9] rfl rfl rfl rfl rfl rfl rfl hl.1 (Nat.le_of_ble_eq_true rfl) ⟨Nat.zero_le _, Nat.zero_le _⟩ dX8_raised_62 (fun H locs hP hD hS => ?_)
            have h := Option.some.inj h
            subst h
            rw [hQQ]
            subst hAe
            exact W.iret (v := r_16) hx hb hr (fun t ht hW => ⟨⟨_, (), rfl, rfl, by rw [ht]; exact hP, va_K.moved hW.alike hK, hD⟩, hS.F ht⟩) hS.2.2 dX8_raised_65
        · have h := (if_neg c_8).symm.trans h
          refine lv_aload_n hx hb dX8_raised_41 rfl (lv_at hl 0 rfl) ?_
          refine lv_iconst (v := 1) hx hb dX8_raised_42 (by decide) ?_
          obtain ⟨r_17, s_finding_17, hc_17, h⟩ := bd2_of h
          refine cl_mVi (As := [.int 1]) (rest := []) (ws' := (W_X cI cZ q_s q_rows q_tape q_land q_spare q_firstImage q_secondImage q_acts q_basket q_asks s_finding_17) ++ ((W_Rows cI cZ q_rows q_rows_lanes q_rows_lengths q_rows_items rows_lanes rows_lengths rows_items) ++ ((W_Isle cI cZ q_land q_land_heights q_land_holders q_land_kinds q_land_purses q_land_homes land_told land_low land_high land_price land_hour land_bidders land_heights land_holders land_kinds land_purses land_homes)))) (wr := (W_Rows cI cZ q_rows q_rows_lanes q_rows_lengths q_rows_items rows_lanes rows_lengths rows_items) ++ ((W_Isle cI cZ q_land q_land_heights q_land_holders q_land_kinds q_land_purses q_land_homes land_told land_low land_high land_price land_hour land_bidders land_heights land_holders land_kinds land_purses land_homes))) ⟨hx, hb, hml, hown, hts⟩ (m_X8_found l dC dI cI cZ q_s q_rows q_tape q_land q_spare q_firstImage q_secondImage q_acts q_basket q_asks s_finding 1 _ (r_17, s_finding_17) hc_17) (cwV 1 hts gX8_raised_X8_found rfl rfl rfl ⟨rfl, ddX8_found⟩ ⟨Nat.le_of_ble_eq_true rfl, Nat.le_of_ble_eq_true rfl⟩) hK hP hD hS hA [0] [1, 2, 3, 4, 5, 6, 7, 8, 9, 10] rfl rfl rfl rfl (by decide) [10, 0, 1, 2, 3, 4, 5, 6, 7, 8, 9] rfl rfl rfl rfl rfl rfl rfl hl.1 (Nat.le_of_ble_eq_true rfl) ⟨Nat.zero_le _, Nat.zero_le _⟩ dX8_raised_43 (fun H locs hP hD hS => ?_)
          have h := Option.some.inj h
          subst h
          rw [hQQ]
          subst hAe
          exact W.iret (v := r_17) hx hb hr (fun t ht hW => ⟨⟨_, (), rfl, rfl, by rw [ht]; exact hP, va_K.moved hW.alike hK, hD⟩, hS.F ht⟩) hS.2.2 dX8_raised_46
      · have h := (if_pos c_6).symm.trans h
        refine lv_ldc hx hb hown w_2 dX8_raised_27 ?_
        have h := Option.some.inj h
        subst h
        rw [hQQ]
        subst hAe
        exact W.iret (v := (-1000001)) hx hb hr (fun t ht hW => ⟨⟨_, (), rfl, rfl, by rw [ht]; exact hP, va_K.moved hW.alike hK, hD⟩, hS.F ht⟩) hS.2.2 dX8_raised_29
  · have h := (if_pos c_2).symm.trans h
    refine lv_ldc hx hb hown w_4 dX8_raised_10 ?_
    have h := Option.some.inj h
    subst h
    rw [hQQ]
    subst hAe
    exact W.iret (v := (-1000002)) hx hb hr (fun t ht hW => ⟨⟨_, (), rfl, rfl, by rw [ht]; exact hP, va_K.moved hW.alike hK, hD⟩, hS.F ht⟩) hS.2.2 dX8_raised_12
def fX8_areCells_L3 (rows_items : (Nat → Int32)) (v1 : Int32) (v2 : Int32) (v3 : Int32) (v4 : Int32) : Nat → Int32 → Option (Int32)
  | 0, _ => none
  | n + 1, v5_h3 => (if v3 ≤ v5_h3 then some (1) else bd1 (fX5_item rows_items v1 (v2 + (v4 * v5_h3))) (fun r_2 => bd1 (fX8_isCell r_2) (fun r_3 => (if r_3 = 0 then some (0) else ((fX8_areCells_L3 rows_items v1 v2 v3 v4 n) (v5_h3 + 1))))))
def fX8_areCells (rows_items : (Nat → Int32)) (v1 : Int32) (v2 : Int32) (v3 : Int32) (v4 : Int32) : Option (Int32) :=
  (fX8_areCells_L3 rows_items v1 v2 v3 v4 FU 0)
abbrev rmX8_areCells : Room := { frames := 1, cells := 0, slots := 0, locals := 22 }
theorem ddX8_areCells : yX8_areCells.cls ≠ "java/lang/invoke/MethodHandle" ∧ yX8_areCells.cls ≠ "java/lang/invoke/VarHandle" ∧ (parseMethodDescriptor yX8_areCells.desc).map (fun d => d.parameters.length) = some 4 := by decide +kernel
set_option maxHeartbeats 4000000 in
set_option maxRecDepth 100000 in
theorem m_X8_areCells (l : Launch) (dC : Nat → ClassId) (dI : Nat → Nat → Nat) (cI cZ : ClassId) (q_s q_rows q_tape q_land q_spare q_firstImage q_secondImage q_acts q_basket q_asks q_rows q_rows_lanes q_rows_lengths q_rows_items : Nat) (s_finding : Int32) (rows_lanes : (Nat → Int32)) (rows_lengths : (Nat → Int32)) (rows_items : (Nat → Int32)) (v1 : Int32) (v2 : Int32) (v3 : Int32) (v4 : Int32) (res : Int32) (hf : fX8_areCells rows_items v1 v2 v3 v4 = some res) : Met l yX8_areCells wsX8_areCells rmX8_areCells (rdPc (dC, dI) (tyZ cI cZ) ((W_X cI cZ q_s q_rows q_tape q_land q_spare q_firstImage q_secondImage q_acts q_basket q_asks s_finding) ++ ((W_Rows cI cZ q_rows q_rows_lanes q_rows_lengths q_rows_items rows_lanes rows_lengths rows_items))) [.ref q_s, .int v1, .int v2, .int v3, .int v4]) (rdQ res) 0 0 (fun _ => False) := by
  refine Met.ofW (cc := cX8_areCells) (maxL := 6) (ret := (some .boolean)) (by decide) rfl ?_
  intro p e s m args below meth c s₁ B hml hv
  obtain ⟨rfl, hP, hK⟩ := hv
  have hx := B.exec
  have hb := B.bytes
  have hr := B.returns
  have hts := atoms_spec (ws := wsX8_areCells) B.pre
  have hown : s.vm.findClass RX8 = some m.cls := findClass_of_methodNamed B.named
  have hlocks := B.notSynchronized
  have hl := lv_entry ([.ref q_s, .int v1, .int v2, .int v3, .int v4]) (n := 6) (Nat.le_of_ble_eq_true rfl)
  rw [lg_entry_eq]
  generalize (lg_sl ([.ref q_s, .int v1, .int v2, .int v3, .int v4]) ++ List.replicate (6 - (lg_sl ([.ref q_s, .int v1, .int v2, .int v3, .int v4])).length) Slot.unset).toArray = ls at hl ⊢
  have hl : lv_has ls 6 [(0, .ref q_s), (1, .int v1), (2, .int v2), (3, .int v3), (4, .int v4)] := hl
  obtain ⟨QQ, hQQ⟩ : ∃ Q, Q = MQ below (rdQ res) ([.ref q_s, .int v1, .int v2, .int v3, .int v4] : List Value).toArray s 0 0 (fun _ => False) := ⟨_, rfl⟩
  rw [← hQQ]
  have w_0 := hts (Cond.fieldLink RX8 12 "TideInches" "rows" "LTideInches$Rows;") (List.mem_of_getElem? (i := 1) rfl)
  have w_1 := (fun w hw => List.mem_cons_of_mem _ (List.mem_append_left _ (List.mem_append_right _ hw)) : ∀ w ∈ wsX80, w ∈ wsX8_areCells)
  have h := hf
  unfold fX8_areCells at h
  refine lv_iconst (v := 0) hx hb dX8_areCells_0 (by decide) ?_
  refine lv_istore (lv' := [(5, .int 0), (0, .ref q_s), (1, .int v1), (2, .int v2), (3, .int v3), (4, .int v4)]) hx hb dX8_areCells_1 hl (by decide) rfl (fun ls hl => ?_)
  have KL3 : ∀ (n : Nat) (v5_h3 : Int32) (ls : Array Slot), lv_has ls 6 [(0, .ref q_s), (1, .int v1), (2, .int v2), (3, .int v3), (4, .int v4), (5, .int v5_h3)] → fX8_areCells_L3 rows_items v1 v2 v3 v4 n v5_h3 = some res → W p l e (headSpec wsX8_areCells rmX8_areCells).room s m ([.ref q_s, .int v1, .int v2, .int v3, .int v4] : List Value).toArray below meth c s.heap [] 0 0 QQ (F0 m 3 ls []) := by
    intro  n
    induction n with
    | zero => intro v5_h3 ls hl h; rw [fX8_areCells_L3.eq_1] at h; cases h
    | succ n ih =>
      intro v5_h3 ls hl h
      rw [fX8_areCells_L3.eq_2] at h
      refine lv_iload hx hb dX8_areCells_3 (lv_at hl 5 rfl) ?_
      refine lv_iload_n hx hb dX8_areCells_5 rfl (lv_at hl 3 rfl) ?_
      refine lv_icmp_ge (tgt := 38) hx hb dX8_areCells_6 (by decide) (fun c_1 => ?_) (fun c_1 => ?_)
      · have h := (if_pos c_1).symm.trans h
        refine lv_iconst (v := 1) hx hb dX8_areCells_38 (by decide) ?_
        rw [hQQ]
        exact W.zret (v := 1) (ty := .boolean) hx hb hr rfl (fun t ht hW => ⟨_, rfl, Option.some.inj h, ht⟩) (fun q hq => by cases hq) dX8_areCells_39
      · have h := (if_neg c_1).symm.trans h
        refine lv_aload_n hx hb dX8_areCells_9 rfl (lv_at hl 0 rfl) ?_
        refine va_get (D := (dC, dI)) (ci := 6) (v := .ref q_rows) (C := RX8) (T := TX8) (N := 10) hx hb hts w_1 hown hK hP 0 rfl rfl 0 (by decide) w_0 (fun _ h9 => h9) rfl dX8_areCells_10 ?_
        refine lv_iload_n hx hb dX8_areCells_13 rfl (lv_at hl 1 rfl) ?_
        refine lv_iload_n hx hb dX8_areCells_14 rfl (lv_at hl 2 rfl) ?_
        refine lv_iload hx hb dX8_areCells_15 (lv_at hl 4 rfl) ?_
        refine lv_iload hx hb dX8_areCells_17 (lv_at hl 5 rfl) ?_
        refine lv_imul hx hb dX8_areCells_19 ?_
        refine lv_iadd hx hb dX8_areCells_20 ?_
        obtain ⟨r_2, hc_2, h⟩ := bd1_of h
        refine cl_rV (As := [.int v1, .int (v2 + (v4 * v5_h3))]) (rest := []) ⟨hx, hb, hml, hown, hts⟩ (m_X5_item l dC dI cI cZ q_rows q_rows_lanes q_rows_lengths q_rows_items rows_lanes rows_lengths rows_items v1 (v2 + (v4 * v5_h3)) (r_2) hc_2) (cwV 2 hts gX8_areCells_X5_item rfl rfl rfl ⟨rfl, ddX5_item⟩ ⟨Nat.le_of_ble_eq_true rfl, Nat.le_of_ble_eq_true rfl⟩) hK hP [1, 2, 3, 4] rfl rfl rfl rfl rfl hl.1 (Nat.le_of_ble_eq_true rfl) ⟨Nat.zero_le _, Nat.zero_le _⟩ dX8_areCells_21 ?_
        obtain ⟨r_3, hc_3, h⟩ := bd1_of h
        refine cl_pS (As := [.int r_2]) (rest := []) ⟨hx, hb, hml, hown, hts⟩ (m_X8_isCell l r_2 (r_3) hc_3) (va_cwS 1 hts gX8_areCells_X8_isCell rfl rfl rfl ddX8_isCell ⟨Nat.le_of_ble_eq_true rfl, Nat.le_of_ble_eq_true rfl⟩) rfl rfl hl.1 (Nat.le_of_ble_eq_true rfl) ⟨Nat.zero_le _, Nat.zero_le _⟩ dX8_areCells_24 ?_
        refine lv_if_ne (tgt := 32) hx hb dX8_areCells_27 (by decide) (fun c_4 => ?_) (fun c_4 => ?_)
        · have h := (if_neg c_4).symm.trans h
          refine lv_iinc (v := (v5_h3 + 1)) (lv' := [(5, .int (v5_h3 + 1)), (0, .ref q_s), (1, .int v1), (2, .int v2), (3, .int v3), (4, .int v4)]) hx hb dX8_areCells_32 hl (k := 5) rfl rfl (by decide) rfl (fun ls hl => ?_)
          refine lv_goto (tgt := 3) hx hb dX8_areCells_35 (by decide) ?_
          exact ih (v5_h3 + 1) _ (lv_sub hl [1, 2, 3, 4, 5, 0] rfl) h
        · have h := (if_pos c_4).symm.trans h
          refine lv_iconst (v := 0) hx hb dX8_areCells_30 (by decide) ?_
          rw [hQQ]
          exact W.zret (v := 0) (ty := .boolean) hx hb hr rfl (fun t ht hW => ⟨_, rfl, Option.some.inj h, ht⟩) (fun q hq => by cases hq) dX8_areCells_31
  exact KL3 FU 0 _ (lv_sub hl [1, 2, 3, 4, 5, 0] rfl) h
def fX8_arePricesTo_L3 (rows_items : (Nat → Int32)) (land_price : Int32) (land_heights : (Nat → Int32)) (v1 : Int32) (v2 : Int32) (v3 : Int32) (v4 : Int32) : Nat → Int32 → Option (Int32)
  | 0, _ => none
  | n + 1, v5_h3 => (if v4 ≤ v5_h3 then some (1) else bd1 (fX5_item rows_items v2 (v3 + (2 * v5_h3))) (fun r_2 => bd1 (fX3_cost land_price land_heights v1 r_2) (fun r_3 => bd1 (fX5_item rows_items v2 ((v3 + (2 * v5_h3)) + 1)) (fun r_4 => (if r_3 = r_4 then ((fX8_arePricesTo_L3 rows_items land_price land_heights v1 v2 v3 v4 n) (v5_h3 + 1)) else some (0))))))
def fX8_arePricesTo (rows_items : (Nat → Int32)) (land_price : Int32) (land_heights : (Nat → Int32)) (v1 : Int32) (v2 : Int32) (v3 : Int32) (v4 : Int32) : Option (Int32) :=
  (fX8_arePricesTo_L3 rows_items land_price land_heights v1 v2 v3 v4 FU 0)
abbrev rmX8_arePricesTo : Room := { frames := 2, cells := 0, slots := 0, locals := 44 }
theorem ddX8_arePricesTo : yX8_arePricesTo.cls ≠ "java/lang/invoke/MethodHandle" ∧ yX8_arePricesTo.cls ≠ "java/lang/invoke/VarHandle" ∧ (parseMethodDescriptor yX8_arePricesTo.desc).map (fun d => d.parameters.length) = some 4 := by decide +kernel
set_option maxHeartbeats 4000000 in
set_option maxRecDepth 100000 in
theorem m_X8_arePricesTo (l : Launch) (dC : Nat → ClassId) (dI : Nat → Nat → Nat) (cI cZ : ClassId) (q_s q_rows q_tape q_land q_spare q_firstImage q_secondImage q_acts q_basket q_asks q_rows q_rows_lanes q_rows_lengths q_rows_items q_land q_land_heights q_land_holders q_land_kinds q_land_purses q_land_homes : Nat) (s_finding : Int32) (rows_lanes : (Nat → Int32)) (rows_lengths : (Nat → Int32)) (rows_items : (Nat → Int32)) (land_told : Int32) (land_low : Int32) (land_high : Int32) (land_price : Int32) (land_hour : Int32) (land_bidders : Int32) (land_heights : (Nat → Int32)) (land_holders : (Nat → Int32)) (land_kinds : (Nat → Int32)) (land_purses : (Nat → Int32)) (land_homes : (Nat → Int32)) (v1 : Int32) (v2 : Int32) (v3 : Int32) (v4 : Int32) (res : Int32) (hf : fX8_arePricesTo rows_items land_price land_heights v1 v2 v3 v4 = some res) : Met l yX8_arePricesTo wsX8_arePricesTo rmX8_arePricesTo (rdPc (dC, dI) (tyZ cI cZ) ((W_X cI cZ q_s q_rows q_tape q_land q_spare q_firstImage q_secondImage q_acts q_basket q_asks s_finding) ++ ((W_Rows cI cZ q_rows q_rows_lanes q_rows_lengths q_rows_items rows_lanes rows_lengths rows_items) ++ ((W_Isle cI cZ q_land q_land_heights q_land_holders q_land_kinds q_land_purses q_land_homes land_told land_low land_high land_price land_hour land_bidders land_heights land_holders land_kinds land_purses land_homes)))) [.ref q_s, .int v1, .int v2, .int v3, .int v4]) (rdQ res) 0 0 (fun _ => False) := by
  refine Met.ofW (cc := cX8_arePricesTo) (maxL := 7) (ret := (some .boolean)) (by decide) rfl ?_
  intro p e s m args below meth c s₁ B hml hv
  obtain ⟨rfl, hP, hK⟩ := hv
  have hx := B.exec
  have hb := B.bytes
  have hr := B.returns
  have hts := atoms_spec (ws := wsX8_arePricesTo) B.pre
  have hown : s.vm.findClass RX8 = some m.cls := findClass_of_methodNamed B.named
  have hlocks := B.notSynchronized
  have hl := lv_entry ([.ref q_s, .int v1, .int v2, .int v3, .int v4]) (n := 7) (Nat.le_of_ble_eq_true rfl)
  rw [lg_entry_eq]
  generalize (lg_sl ([.ref q_s, .int v1, .int v2, .int v3, .int v4]) ++ List.replicate (7 - (lg_sl ([.ref q_s, .int v1, .int v2, .int v3, .int v4])).length) Slot.unset).toArray = ls at hl ⊢
  have hl : lv_has ls 7 [(0, .ref q_s), (1, .int v1), (2, .int v2), (3, .int v3), (4, .int v4)] := hl
  obtain ⟨QQ, hQQ⟩ : ∃ Q, Q = MQ below (rdQ res) ([.ref q_s, .int v1, .int v2, .int v3, .int v4] : List Value).toArray s 0 0 (fun _ => False) := ⟨_, rfl⟩
  rw [← hQQ]
  have w_0 := hts (Cond.fieldLink RX8 12 "TideInches" "rows" "LTideInches$Rows;") (List.mem_of_getElem? (i := 1) rfl)
  have w_1 := (fun w hw => List.mem_cons_of_mem _ (List.mem_append_left _ (List.mem_append_left _ (List.mem_append_right _ hw))) : ∀ w ∈ wsX80, w ∈ wsX8_arePricesTo)
  have w_2 := hts (Cond.fieldLink RX8 26 "TideInches" "land" "LTideInches$Isle;") (List.mem_of_getElem? (i := 2) rfl)
  have h := hf
  unfold fX8_arePricesTo at h
  refine lv_iconst (v := 0) hx hb dX8_arePricesTo_0 (by decide) ?_
  refine lv_istore (lv' := [(5, .int 0), (0, .ref q_s), (1, .int v1), (2, .int v2), (3, .int v3), (4, .int v4)]) hx hb dX8_arePricesTo_1 hl (by decide) rfl (fun ls hl => ?_)
  have KL3 : ∀ (n : Nat) (v5_h3 : Int32) (ls : Array Slot), lv_has ls 7 [(0, .ref q_s), (1, .int v1), (2, .int v2), (3, .int v3), (4, .int v4), (5, .int v5_h3)] → fX8_arePricesTo_L3 rows_items land_price land_heights v1 v2 v3 v4 n v5_h3 = some res → W p l e (headSpec wsX8_arePricesTo rmX8_arePricesTo).room s m ([.ref q_s, .int v1, .int v2, .int v3, .int v4] : List Value).toArray below meth c s.heap [] 0 0 QQ (F0 m 3 ls []) := by
    intro  n
    induction n with
    | zero => intro v5_h3 ls hl h; rw [fX8_arePricesTo_L3.eq_1] at h; cases h
    | succ n ih =>
      intro v5_h3 ls hl h
      rw [fX8_arePricesTo_L3.eq_2] at h
      refine lv_iload hx hb dX8_arePricesTo_3 (lv_at hl 5 rfl) ?_
      refine lv_iload hx hb dX8_arePricesTo_5 (lv_at hl 4 rfl) ?_
      refine lv_icmp_ge (tgt := 63) hx hb dX8_arePricesTo_7 (by decide) (fun c_1 => ?_) (fun c_1 => ?_)
      · have h := (if_pos c_1).symm.trans h
        refine lv_iconst (v := 1) hx hb dX8_arePricesTo_63 (by decide) ?_
        rw [hQQ]
        exact W.zret (v := 1) (ty := .boolean) hx hb hr rfl (fun t ht hW => ⟨_, rfl, Option.some.inj h, ht⟩) (fun q hq => by cases hq) dX8_arePricesTo_64
      · have h := (if_neg c_1).symm.trans h
        refine lv_aload_n hx hb dX8_arePricesTo_10 rfl (lv_at hl 0 rfl) ?_
        refine va_get (D := (dC, dI)) (ci := 6) (v := .ref q_rows) (C := RX8) (T := TX8) (N := 10) hx hb hts w_1 hown hK hP 0 rfl rfl 0 (by decide) w_0 (fun _ h9 => h9) rfl dX8_arePricesTo_11 ?_
        refine lv_iload_n hx hb dX8_arePricesTo_14 rfl (lv_at hl 2 rfl) ?_
        refine lv_iload_n hx hb dX8_arePricesTo_15 rfl (lv_at hl 3 rfl) ?_
        refine lv_iconst (v := 2) hx hb dX8_arePricesTo_16 (by decide) ?_
        refine lv_iload hx hb dX8_arePricesTo_17 (lv_at hl 5 rfl) ?_
        refine lv_imul hx hb dX8_arePricesTo_19 ?_
        refine lv_iadd hx hb dX8_arePricesTo_20 ?_
        obtain ⟨r_2, hc_2, h⟩ := bd1_of h
        refine cl_rV (As := [.int v2, .int (v3 + (2 * v5_h3))]) (rest := []) ⟨hx, hb, hml, hown, hts⟩ (m_X5_item l dC dI cI cZ q_rows q_rows_lanes q_rows_lengths q_rows_items rows_lanes rows_lengths rows_items v2 (v3 + (2 * v5_h3)) (r_2) hc_2) (cwV 2 hts gX8_arePricesTo_X5_item rfl rfl rfl ⟨rfl, ddX5_item⟩ ⟨Nat.le_of_ble_eq_true rfl, Nat.le_of_ble_eq_true rfl⟩) hK hP [1, 2, 3, 4] rfl rfl rfl rfl rfl hl.1 (Nat.le_of_ble_eq_true rfl) ⟨Nat.zero_le _, Nat.zero_le _⟩ dX8_arePricesTo_21 ?_
        refine lv_istore (lv' := [(6, .int r_2), (0, .ref q_s), (1, .int v1), (2, .int v2), (3, .int v3), (4, .int v4), (5, .int v5_h3)]) hx hb dX8_arePricesTo_24 hl (by decide) rfl (fun ls hl => ?_)
        refine lv_aload_n hx hb dX8_arePricesTo_26 rfl (lv_at hl 1 rfl) ?_
        refine va_get (D := (dC, dI)) (ci := 6) (v := .ref q_land) (C := RX8) (T := TX8) (N := 10) hx hb hts w_1 hown hK hP 0 rfl rfl 2 (by decide) w_2 (fun _ h9 => h9) rfl dX8_arePricesTo_27 ?_
        refine lv_iload_n hx hb dX8_arePricesTo_30 rfl (lv_at hl 2 rfl) ?_
        refine lv_iload hx hb dX8_arePricesTo_31 (lv_at hl 0 rfl) ?_
        obtain ⟨r_3, hc_3, h⟩ := bd1_of h
        refine cl_rV (As := [.int v1, .int r_2]) (rest := []) ⟨hx, hb, hml, hown, hts⟩ (m_X3_cost l dC dI cI cZ q_land q_land_heights q_land_holders q_land_kinds q_land_purses q_land_homes land_told land_low land_high land_price land_hour land_bidders land_heights land_holders land_kinds land_purses land_homes v1 r_2 (r_3) hc_3) (cwV 2 hts gX8_arePricesTo_X3_cost rfl rfl rfl ⟨rfl, ddX3_cost⟩ ⟨Nat.le_of_ble_eq_true rfl, Nat.le_of_ble_eq_true rfl⟩) hK hP [5, 6, 7, 8, 9, 10] rfl rfl rfl rfl rfl hl.1 (Nat.le_of_ble_eq_true rfl) ⟨Nat.zero_le _, Nat.zero_le _⟩ dX8_arePricesTo_33 ?_
        refine lv_aload_n hx hb dX8_arePricesTo_36 rfl (lv_at hl 1 rfl) ?_
        refine va_get (D := (dC, dI)) (ci := 6) (v := .ref q_rows) (C := RX8) (T := TX8) (N := 10) hx hb hts w_1 hown hK hP 0 rfl rfl 0 (by decide) w_0 (fun _ h9 => h9) rfl dX8_arePricesTo_37 ?_
        refine lv_iload_n hx hb dX8_arePricesTo_40 rfl (lv_at hl 3 rfl) ?_
        refine lv_iload_n hx hb dX8_arePricesTo_41 rfl (lv_at hl 4 rfl) ?_
        refine lv_iconst (v := 2) hx hb dX8_arePricesTo_42 (by decide) ?_
        refine lv_iload hx hb dX8_arePricesTo_43 (lv_at hl 6 rfl) ?_
        refine lv_imul hx hb dX8_arePricesTo_45 ?_
        refine lv_iadd hx hb dX8_arePricesTo_46 ?_
        refine lv_iconst (v := 1) hx hb dX8_arePricesTo_47 (by decide) ?_
        refine lv_iadd hx hb dX8_arePricesTo_48 ?_
        obtain ⟨r_4, hc_4, h⟩ := bd1_of h
        refine cl_rV (As := [.int v2, .int ((v3 + (2 * v5_h3)) + 1)]) (rest := [.int r_3]) ⟨hx, hb, hml, hown, hts⟩ (m_X5_item l dC dI cI cZ q_rows q_rows_lanes q_rows_lengths q_rows_items rows_lanes rows_lengths rows_items v2 ((v3 + (2 * v5_h3)) + 1) (r_4) hc_4) (cwV 2 hts gX8_arePricesTo_X5_item rfl rfl rfl ⟨rfl, ddX5_item⟩ ⟨Nat.le_of_ble_eq_true rfl, Nat.le_of_ble_eq_true rfl⟩) hK hP [1, 2, 3, 4] rfl rfl rfl rfl rfl hl.1 (Nat.le_of_ble_eq_true rfl) ⟨Nat.zero_le _, Nat.zero_le _⟩ dX8_arePricesTo_49 ?_
        refine lv_icmp_eq (tgt := 57) hx hb dX8_arePricesTo_52 (by decide) (fun c_5 => ?_) (fun c_5 => ?_)
        · have h := (if_pos c_5).symm.trans h
          refine lv_iinc (v := (v5_h3 + 1)) (lv' := [(5, .int (v5_h3 + 1)), (6, .int r_2), (0, .ref q_s), (1, .int v1), (2, .int v2), (3, .int v3), (4, .int v4)]) hx hb dX8_arePricesTo_57 hl (k := 6) rfl rfl (by decide) rfl (fun ls hl => ?_)
          refine lv_goto (tgt := 3) hx hb dX8_arePricesTo_60 (by decide) ?_
          exact ih (v5_h3 + 1) _ (lv_sub hl [2, 3, 4, 5, 6, 0] rfl) h
        · have h := (if_neg c_5).symm.trans h
          refine lv_iconst (v := 0) hx hb dX8_arePricesTo_55 (by decide) ?_
          rw [hQQ]
          exact W.zret (v := 0) (ty := .boolean) hx hb hr rfl (fun t ht hW => ⟨_, rfl, Option.some.inj h, ht⟩) (fun q hq => by cases hq) dX8_arePricesTo_56
  exact KL3 FU 0 _ (lv_sub hl [1, 2, 3, 4, 5, 0] rfl) h
def fX8_who_L88 (rows_items : (Nat → Int32)) (land_price : Int32) (land_heights : (Nat → Int32)) (v1 : Int32) (v2 : Int32) (v3 : Int32) (k88_121 : Int32 → Option (Int32 × Int32)) : Nat → Int32 → Int32 → Option (Int32 × Int32)
  | 0, _, _ => none
  | n + 1, v4_h88, v5_h88 => (if 5 < v5_h88 then (k88_121 v4_h88) else bd1 (fX8_arePricesTo rows_items land_price land_heights v5_h88 v1 v2 v3) (fun r_14 => (if r_14 = 0 then ((fX8_who_L88 rows_items land_price land_heights v1 v2 v3 k88_121 n) v4_h88 (v5_h88 + 1)) else ((fX8_who_L88 rows_items land_price land_heights v1 v2 v3 k88_121 n) (v4_h88 ||| (1 <<< (v5_h88 &&& 31))) (v5_h88 + 1)))))
def fX8_who (s_finding : Int32) (rows_lanes : (Nat → Int32)) (rows_lengths : (Nat → Int32)) (rows_items : (Nat → Int32)) (land_told : Int32) (land_price : Int32) (land_heights : (Nat → Int32)) (v1 : Int32) (v2 : Int32) (v3 : Int32) : Option (Int32 × Int32) :=
  bd1 (fX3_isTold land_told) (fun r_1 => (if r_1 = 0 then some ((-1000002), s_finding) else bd1 (fX5_isRow v1) (fun r_3 => (if r_3 = 0 then some ((-1000001), s_finding) else bd1 (fX8_isNumberOfItems v3) (fun r_5 => (if r_5 = 0 then some ((-1000001), s_finding) else bd1 (fX5_isMissing rows_lanes v1) (fun r_7 => (if r_7 = 0 then bd1 (fX5_hasPlaces rows_lengths v1 v2 (2 * v3)) (fun r_9 => (if r_9 = 0 then bd2 (fX8_found 2) (fun r_17 s_finding_17 => some (r_17, s_finding_17)) else bd1 (fX8_areCells rows_items v1 v2 v3 2) (fun r_11 => (if r_11 = 0 then some ((-1000001), s_finding) else (fX8_who_L88 rows_items land_price land_heights v1 v2 v3 (fun v4_e121 => bd2 (fX8_unfound v4_e121) (fun r_16 s_finding_16 => some (r_16, s_finding_16))) FU 0 1))))) else bd2 (fX8_found 1) (fun r_18 s_finding_18 => some (r_18, s_finding_18))))))))))
abbrev rmX8_who : Room := { frames := 3, cells := 0, slots := 0, locals := 70 }
theorem ddX8_who : yX8_who.cls ≠ "java/lang/invoke/MethodHandle" ∧ yX8_who.cls ≠ "java/lang/invoke/VarHandle" ∧ (parseMethodDescriptor yX8_who.desc).map (fun d => d.parameters.length) = some 3 := by decide +kernel
set_option maxHeartbeats 4000000 in
set_option maxRecDepth 100000 in
theorem m_X8_who (l : Launch) (dC : Nat → ClassId) (dI : Nat → Nat → Nat) (cI cZ : ClassId) (q_s q_rows q_tape q_land q_spare q_firstImage q_secondImage q_acts q_basket q_asks q_rows q_rows_lanes q_rows_lengths q_rows_items q_land q_land_heights q_land_holders q_land_kinds q_land_purses q_land_homes : Nat) (s_finding : Int32) (rows_lanes : (Nat → Int32)) (rows_lengths : (Nat → Int32)) (rows_items : (Nat → Int32)) (land_told : Int32) (land_low : Int32) (land_high : Int32) (land_price : Int32) (land_hour : Int32) (land_bidders : Int32) (land_heights : (Nat → Int32)) (land_holders : (Nat → Int32)) (land_kinds : (Nat → Int32)) (land_purses : (Nat → Int32)) (land_homes : (Nat → Int32)) (v1 : Int32) (v2 : Int32) (v3 : Int32) (sz : Nat) (res : Int32 × Int32) (hf : fX8_who s_finding rows_lanes rows_lengths rows_items land_told land_price land_heights v1 v2 v3 = some res) : Met l yX8_who wsX8_who rmX8_who (mtPc (dC, dI) (tyZ cI cZ) ((W_X cI cZ q_s q_rows q_tape q_land q_spare q_firstImage q_secondImage q_acts q_basket q_asks s_finding) ++ ((W_Rows cI cZ q_rows q_rows_lanes q_rows_lengths q_rows_items rows_lanes rows_lengths rows_items) ++ ((W_Isle cI cZ q_land q_land_heights q_land_holders q_land_kinds q_land_purses q_land_homes land_told land_low land_high land_price land_hour land_bidders land_heights land_holders land_kinds land_purses land_homes)))) [.ref q_s, .int v1, .int v2, .int v3] sz) (mtQi (dC, dI) (tyZ cI cZ) ((W_X cI cZ q_s q_rows q_tape q_land q_spare q_firstImage q_secondImage q_acts q_basket q_asks s_finding) ++ ((W_Rows cI cZ q_rows q_rows_lanes q_rows_lengths q_rows_items rows_lanes rows_lengths rows_items) ++ ((W_Isle cI cZ q_land q_land_heights q_land_holders q_land_kinds q_land_purses q_land_homes land_told land_low land_high land_price land_hour land_bidders land_heights land_holders land_kinds land_purses land_homes)))) ((W_X cI cZ q_s q_rows q_tape q_land q_spare q_firstImage q_secondImage q_acts q_basket q_asks res.2) ++ ((W_Rows cI cZ q_rows q_rows_lanes q_rows_lengths q_rows_items rows_lanes rows_lengths rows_items) ++ ((W_Isle cI cZ q_land q_land_heights q_land_holders q_land_kinds q_land_purses q_land_homes land_told land_low land_high land_price land_hour land_bidders land_heights land_holders land_kinds land_purses land_homes)))) res.1 sz) 0 0 (va_A ((W_X cI cZ q_s q_rows q_tape q_land q_spare q_firstImage q_secondImage q_acts q_basket q_asks s_finding) ++ ((W_Rows cI cZ q_rows q_rows_lanes q_rows_lengths q_rows_items rows_lanes rows_lengths rows_items) ++ ((W_Isle cI cZ q_land q_land_heights q_land_holders q_land_kinds q_land_purses q_land_homes land_told land_low land_high land_price land_hour land_bidders land_heights land_holders land_kinds land_purses land_homes)))) sz) := by
  refine Met.ofW (cc := cX8_who) (maxL := 6) (ret := (some .int)) (by decide) rfl ?_
  intro p e s m args below meth c s₁ B hml hv
  obtain ⟨rfl, hsz, hP, hK, hD0⟩ := hv
  have hx := B.exec
  have hb := B.bytes
  have hr := B.returns
  have hts := atoms_spec (ws := wsX8_who) B.pre
  have hown : s.vm.findClass RX8 = some m.cls := findClass_of_methodNamed B.named
  have hlocks := B.notSynchronized
  subst hsz
  have hD := hD0.self (sz := s.heap.size)
  obtain ⟨A, hAe⟩ : ∃ A, A = va_A ((W_X cI cZ q_s q_rows q_tape q_land q_spare q_firstImage q_secondImage q_acts q_basket q_asks s_finding) ++ ((W_Rows cI cZ q_rows q_rows_lanes q_rows_lengths q_rows_items rows_lanes rows_lengths rows_items) ++ ((W_Isle cI cZ q_land q_land_heights q_land_holders q_land_kinds q_land_purses q_land_homes land_told land_low land_high land_price land_hour land_bidders land_heights land_holders land_kinds land_purses land_homes)))) s.heap.size := ⟨_, rfl⟩
  rw [← hAe] at hD
  have hA : ∀ q : Nat, s.heap.size ≤ q → A q := fun q h => by rw [hAe]; exact Or.inr h
  have hS : va_S A s.heap s.heap [] := va_S.rf
  have hl := lv_entry ([.ref q_s, .int v1, .int v2, .int v3]) (n := 6) (Nat.le_of_ble_eq_true rfl)
  rw [lg_entry_eq]
  generalize (lg_sl ([.ref q_s, .int v1, .int v2, .int v3]) ++ List.replicate (6 - (lg_sl ([.ref q_s, .int v1, .int v2, .int v3])).length) Slot.unset).toArray = ls at hl ⊢
  have hl : lv_has ls 6 [(0, .ref q_s), (1, .int v1), (2, .int v2), (3, .int v3)] := hl
  obtain ⟨QQ, hQQ⟩ : ∃ Q, Q = MQ below (mtQi (dC, dI) (tyZ cI cZ) ((W_X cI cZ q_s q_rows q_tape q_land q_spare q_firstImage q_secondImage q_acts q_basket q_asks s_finding) ++ ((W_Rows cI cZ q_rows q_rows_lanes q_rows_lengths q_rows_items rows_lanes rows_lengths rows_items) ++ ((W_Isle cI cZ q_land q_land_heights q_land_holders q_land_kinds q_land_purses q_land_homes land_told land_low land_high land_price land_hour land_bidders land_heights land_holders land_kinds land_purses land_homes)))) ((W_X cI cZ q_s q_rows q_tape q_land q_spare q_firstImage q_secondImage q_acts q_basket q_asks res.2) ++ ((W_Rows cI cZ q_rows q_rows_lanes q_rows_lengths q_rows_items rows_lanes rows_lengths rows_items) ++ ((W_Isle cI cZ q_land q_land_heights q_land_holders q_land_kinds q_land_purses q_land_homes land_told land_low land_high land_price land_hour land_bidders land_heights land_holders land_kinds land_purses land_homes)))) res.1 s.heap.size) ([.ref q_s, .int v1, .int v2, .int v3] : List Value).toArray s 0 0 (va_A ((W_X cI cZ q_s q_rows q_tape q_land q_spare q_firstImage q_secondImage q_acts q_basket q_asks s_finding) ++ ((W_Rows cI cZ q_rows q_rows_lanes q_rows_lengths q_rows_items rows_lanes rows_lengths rows_items) ++ ((W_Isle cI cZ q_land q_land_heights q_land_holders q_land_kinds q_land_purses q_land_homes land_told land_low land_high land_price land_hour land_bidders land_heights land_holders land_kinds land_purses land_homes)))) s.heap.size) := ⟨_, rfl⟩
  rw [← hQQ]
  have w_0 := hts (Cond.fieldLink RX8 26 "TideInches" "land" "LTideInches$Isle;") (List.mem_of_getElem? (i := 1) rfl)
  have w_1 := (fun w hw => List.mem_cons_of_mem _ (List.mem_append_left _ (List.mem_append_left _ (List.mem_append_right _ hw))) : ∀ w ∈ wsX80, w ∈ wsX8_who)
  have w_2 := hts (Cond.constant RX8 68 (-1000001)) (List.mem_of_getElem? (i := 3) rfl)
  have w_3 := hts (Cond.fieldLink RX8 12 "TideInches" "rows" "LTideInches$Rows;") (List.mem_of_getElem? (i := 4) rfl)
  have w_4 := hts (Cond.constant RX8 136 (-1000002)) (List.mem_of_getElem? (i := 2) rfl)
  have h := hf
  unfold fX8_who at h
  refine lv_aload_n hx hb dX8_who_0 rfl (lv_at hl 0 rfl) ?_
  refine va_get (D := (dC, dI)) (ci := 6) (v := .ref q_land) (C := RX8) (T := TX8) (N := 10) hx hb hts w_1 hown hK hP 0 rfl rfl 2 (by decide) w_0 (fun _ h9 => h9) rfl dX8_who_1 ?_
  obtain ⟨r_1, hc_1, h⟩ := bd1_of h
  refine cl_rV (As := []) (rest := []) ⟨hx, hb, hml, hown, hts⟩ (m_X3_isTold l dC dI cI cZ q_land q_land_heights q_land_holders q_land_kinds q_land_purses q_land_homes land_told land_low land_high land_price land_hour land_bidders land_heights land_holders land_kinds land_purses land_homes (r_1) hc_1) (cwV 0 hts gX8_who_X3_isTold rfl rfl rfl ⟨rfl, ddX3_isTold⟩ ⟨Nat.le_of_ble_eq_true rfl, Nat.le_of_ble_eq_true rfl⟩) hK hP [5, 6, 7, 8, 9, 10] rfl rfl rfl rfl rfl hl.1 (Nat.le_of_ble_eq_true rfl) ⟨Nat.zero_le _, Nat.zero_le _⟩ dX8_who_4 ?_
  refine lv_if_ne (tgt := 13) hx hb dX8_who_7 (by decide) (fun c_2 => ?_) (fun c_2 => ?_)
  · have h := (if_neg c_2).symm.trans h
    refine lv_iload_n hx hb dX8_who_13 rfl (lv_at hl 1 rfl) ?_
    obtain ⟨r_3, hc_3, h⟩ := bd1_of h
    refine cl_pS (As := [.int v1]) (rest := []) ⟨hx, hb, hml, hown, hts⟩ (m_X5_isRow l v1 (r_3) hc_3) (va_cwS 1 hts gX8_who_X5_isRow rfl rfl rfl ddX5_isRow ⟨Nat.le_of_ble_eq_true rfl, Nat.le_of_ble_eq_true rfl⟩) rfl rfl hl.1 (Nat.le_of_ble_eq_true rfl) ⟨Nat.zero_le _, Nat.zero_le _⟩ dX8_who_14 ?_
    refine lv_if_eq (tgt := 27) hx hb dX8_who_17 (by decide) (fun c_4 => ?_) (fun c_4 => ?_)
    · have h := (if_pos c_4).symm.trans h
      refine lv_ldc hx hb hown w_2 dX8_who_27 ?_
      have h := Option.some.inj h
      subst h
      rw [hQQ]
      subst hAe
      exact W.iret (v := (-1000001)) hx hb hr (fun t ht hW => ⟨⟨_, (), rfl, rfl, by rw [ht]; exact hP, va_K.moved hW.alike hK, hD⟩, hS.F ht⟩) hS.2.2 dX8_who_29
    · have h := (if_neg c_4).symm.trans h
      refine lv_iload_n hx hb dX8_who_20 rfl (lv_at hl 3 rfl) ?_
      obtain ⟨r_5, hc_5, h⟩ := bd1_of h
      refine cl_pS (As := [.int v3]) (rest := []) ⟨hx, hb, hml, hown, hts⟩ (m_X8_isNumberOfItems l v3 (r_5) hc_5) (va_cwS 1 hts gX8_who_X8_isNumberOfItems rfl rfl rfl ddX8_isNumberOfItems ⟨Nat.le_of_ble_eq_true rfl, Nat.le_of_ble_eq_true rfl⟩) rfl rfl hl.1 (Nat.le_of_ble_eq_true rfl) ⟨Nat.zero_le _, Nat.zero_le _⟩ dX8_who_21 ?_
      refine lv_if_ne (tgt := 30) hx hb dX8_who_24 (by decide) (fun c_6 => ?_) (fun c_6 => ?_)
      · have h := (if_neg c_6).symm.trans h
        refine lv_aload_n hx hb dX8_who_30 rfl (lv_at hl 0 rfl) ?_
        refine va_get (D := (dC, dI)) (ci := 6) (v := .ref q_rows) (C := RX8) (T := TX8) (N := 10) hx hb hts w_1 hown hK hP 0 rfl rfl 0 (by decide) w_3 (fun _ h9 => h9) rfl dX8_who_31 ?_
        refine lv_iload_n hx hb dX8_who_34 rfl (lv_at hl 1 rfl) ?_
        obtain ⟨r_7, hc_7, h⟩ := bd1_of h
        refine cl_rV (As := [.int v1]) (rest := []) ⟨hx, hb, hml, hown, hts⟩ (m_X5_isMissing l dC dI cI cZ q_rows q_rows_lanes q_rows_lengths q_rows_items rows_lanes rows_lengths rows_items v1 (r_7) hc_7) (cwV 1 hts gX8_who_X5_isMissing rfl rfl rfl ⟨rfl, ddX5_isMissing⟩ ⟨Nat.le_of_ble_eq_true rfl, Nat.le_of_ble_eq_true rfl⟩) hK hP [1, 2, 3, 4] rfl rfl rfl rfl rfl hl.1 (Nat.le_of_ble_eq_true rfl) ⟨Nat.zero_le _, Nat.zero_le _⟩ dX8_who_35 ?_
        refine lv_if_eq (tgt := 47) hx hb dX8_who_38 (by decide) (fun c_8 => ?_) (fun c_8 => ?_)
        · have h := (if_pos c_8).symm.trans h
          refine lv_aload_n hx hb dX8_who_47 rfl (lv_at hl 0 rfl) ?_
          refine va_get (D := (dC, dI)) (ci := 6) (v := .ref q_rows) (C := RX8) (T := TX8) (N := 10) hx hb hts w_1 hown hK hP 0 rfl rfl 0 (by decide) w_3 (fun _ h9 => h9) rfl dX8_who_48 ?_
          refine lv_iload_n hx hb dX8_who_51 rfl (lv_at hl 1 rfl) ?_
          refine lv_iload_n hx hb dX8_who_52 rfl (lv_at hl 2 rfl) ?_
          refine lv_iconst (v := 2) hx hb dX8_who_53 (by decide) ?_
          refine lv_iload_n hx hb dX8_who_54 rfl (lv_at hl 3 rfl) ?_
          refine lv_imul hx hb dX8_who_55 ?_
          obtain ⟨r_9, hc_9, h⟩ := bd1_of h
          refine cl_rV (As := [.int v1, .int v2, .int (2 * v3)]) (rest := []) ⟨hx, hb, hml, hown, hts⟩ (m_X5_hasPlaces l dC dI cI cZ q_rows q_rows_lanes q_rows_lengths q_rows_items rows_lanes rows_lengths rows_items v1 v2 (2 * v3) (r_9) hc_9) (cwV 3 hts gX8_who_X5_hasPlaces rfl rfl rfl ⟨rfl, ddX5_hasPlaces⟩ ⟨Nat.le_of_ble_eq_true rfl, Nat.le_of_ble_eq_true rfl⟩) hK hP [1, 2, 3, 4] rfl rfl rfl rfl rfl hl.1 (Nat.le_of_ble_eq_true rfl) ⟨Nat.zero_le _, Nat.zero_le _⟩ dX8_who_56 ?_
          refine lv_if_ne (tgt := 68) hx hb dX8_who_59 (by decide) (fun c_10 => ?_) (fun c_10 => ?_)
          · have h := (if_neg c_10).symm.trans h
            refine lv_aload_n hx hb dX8_who_68 rfl (lv_at hl 0 rfl) ?_
            refine lv_iload_n hx hb dX8_who_69 rfl (lv_at hl 1 rfl) ?_
            refine lv_iload_n hx hb dX8_who_70 rfl (lv_at hl 2 rfl) ?_
            refine lv_iload_n hx hb dX8_who_71 rfl (lv_at hl 3 rfl) ?_
            refine lv_iconst (v := 2) hx hb dX8_who_72 (by decide) ?_
            obtain ⟨r_11, hc_11, h⟩ := bd1_of h
            refine cl_rV (As := [.int v1, .int v2, .int v3, .int 2]) (rest := []) ⟨hx, hb, hml, hown, hts⟩ (m_X8_areCells l dC dI cI cZ q_s q_rows q_tape q_land q_spare q_firstImage q_secondImage q_acts q_basket q_asks q_rows q_rows_lanes q_rows_lengths q_rows_items s_finding rows_lanes rows_lengths rows_items v1 v2 v3 2 (r_11) hc_11) (cwV 4 hts gX8_who_X8_areCells rfl rfl rfl ⟨rfl, ddX8_areCells⟩ ⟨Nat.le_of_ble_eq_true rfl, Nat.le_of_ble_eq_true rfl⟩) hK hP [0, 1, 2, 3, 4] rfl rfl rfl rfl rfl hl.1 (Nat.le_of_ble_eq_true rfl) ⟨Nat.zero_le _, Nat.zero_le _⟩ dX8_who_73 ?_
            refine lv_if_ne (tgt := 82) hx hb dX8_who_76 (by decide) (fun c_12 => ?_) (fun c_12 => ?_)
            · have h := (if_neg c_12).symm.trans h
              refine lv_iconst (v := 0) hx hb dX8_who_82 (by decide) ?_
              refine lv_istore (lv' := [(4, .int 0), (0, .ref q_s), (1, .int v1), (2, .int v2), (3, .int v3)]) hx hb dX8_who_83 hl (by decide) rfl (fun ls hl => ?_)
              refine lv_iconst (v := 1) hx hb dX8_who_85 (by decide) ?_
              refine lv_istore (lv' := [(5, .int 1), (4, .int 0), (0, .ref q_s), (1, .int v1), (2, .int v2), (3, .int v3)]) hx hb dX8_who_86 hl (by decide) rfl (fun ls hl => ?_)
              have KL88 : ∀ (k88_121 : Int32 → Option (Int32 × Int32)) , (∀ (v4_e121 : Int32) (H : Heap) (locs : List Loc) (ls : Array Slot), va_P (dC, dI) vwCl ((W_X cI cZ q_s q_rows q_tape q_land q_spare q_firstImage q_secondImage q_acts q_basket q_asks s_finding) ++ ((W_Rows cI cZ q_rows q_rows_lanes q_rows_lengths q_rows_items rows_lanes rows_lengths rows_items) ++ ((W_Isle cI cZ q_land q_land_heights q_land_holders q_land_kinds q_land_purses q_land_homes land_told land_low land_high land_price land_hour land_bidders land_heights land_holders land_kinds land_purses land_homes)))) H → va_D A ((W_X cI cZ q_s q_rows q_tape q_land q_spare q_firstImage q_secondImage q_acts q_basket q_asks s_finding) ++ ((W_Rows cI cZ q_rows q_rows_lanes q_rows_lengths q_rows_items rows_lanes rows_lengths rows_items) ++ ((W_Isle cI cZ q_land q_land_heights q_land_holders q_land_kinds q_land_purses q_land_homes land_told land_low land_high land_price land_hour land_bidders land_heights land_holders land_kinds land_purses land_homes)))) → va_S A s.heap H locs → lv_has ls 6 [(0, .ref q_s), (4, .int v4_e121)] → k88_121 v4_e121 = some res → W p l e (headSpec wsX8_who rmX8_who).room s m ([.ref q_s, .int v1, .int v2, .int v3] : List Value).toArray below meth c H locs 0 0 QQ (F0 m 121 ls [])) → ∀ (n : Nat) (v4_h88 : Int32) (v5_h88 : Int32) (H : Heap) (locs : List Loc) (ls : Array Slot), va_P (dC, dI) vwCl ((W_X cI cZ q_s q_rows q_tape q_land q_spare q_firstImage q_secondImage q_acts q_basket q_asks s_finding) ++ ((W_Rows cI cZ q_rows q_rows_lanes q_rows_lengths q_rows_items rows_lanes rows_lengths rows_items) ++ ((W_Isle cI cZ q_land q_land_heights q_land_holders q_land_kinds q_land_purses q_land_homes land_told land_low land_high land_price land_hour land_bidders land_heights land_holders land_kinds land_purses land_homes)))) H → va_D A ((W_X cI cZ q_s q_rows q_tape q_land q_spare q_firstImage q_secondImage q_acts q_basket q_asks s_finding) ++ ((W_Rows cI cZ q_rows q_rows_lanes q_rows_lengths q_rows_items rows_lanes rows_lengths rows_items) ++ ((W_Isle cI cZ q_land q_land_heights q_land_holders q_land_kinds q_land_purses q_land_homes land_told land_low land_high land_price land_hour land_bidders land_heights land_holders land_kinds land_purses land_homes)))) → va_S A s.heap H locs → lv_has ls 6 [(0, .ref q_s), (1, .int v1), (2, .int v2), (3, .int v3), (4, .int v4_h88), (5, .int v5_h88)] → fX8_who_L88 rows_items land_price land_heights v1 v2 v3 k88_121 n v4_h88 v5_h88 = some res → W p l e (headSpec wsX8_who rmX8_who).room s m ([.ref q_s, .int v1, .int v2, .int v3] : List Value).toArray below meth c H locs 0 0 QQ (F0 m 88 ls []) := by
                intro k88_121 Kk88_121 n
                induction n with
                | zero => intro v4_h88 v5_h88 H locs ls hP hD hS hl h; rw [fX8_who_L88.eq_1] at h; cases h
                | succ n ih =>
                  intro v4_h88 v5_h88 H locs ls hP hD hS hl h
                  rw [fX8_who_L88.eq_2] at h
                  refine lv_iload hx hb dX8_who_88 (lv_at hl 5 rfl) ?_
                  refine lv_iconst (v := 5) hx hb dX8_who_90 (by decide) ?_
                  refine lv_icmp_gt (tgt := 121) hx hb dX8_who_91 (by decide) (fun c_13 => ?_) (fun c_13 => ?_)
                  · have h := (if_pos c_13).symm.trans h
                    exact Kk88_121 v4_h88 _ _ _ hP hD hS (lv_sub hl [0, 4] rfl) h
                  · have h := (if_neg c_13).symm.trans h
                    refine lv_aload_n hx hb dX8_who_94 rfl (lv_at hl 0 rfl) ?_
                    refine lv_iload hx hb dX8_who_95 (lv_at hl 5 rfl) ?_
                    refine lv_iload_n hx hb dX8_who_97 rfl (lv_at hl 1 rfl) ?_
                    refine lv_iload_n hx hb dX8_who_98 rfl (lv_at hl 2 rfl) ?_
                    refine lv_iload_n hx hb dX8_who_99 rfl (lv_at hl 3 rfl) ?_
                    obtain ⟨r_14, hc_14, h⟩ := bd1_of h
                    refine cl_rV (As := [.int v5_h88, .int v1, .int v2, .int v3]) (rest := []) ⟨hx, hb, hml, hown, hts⟩ (m_X8_arePricesTo l dC dI cI cZ q_s q_rows q_tape q_land q_spare q_firstImage q_secondImage q_acts q_basket q_asks q_rows q_rows_lanes q_rows_lengths q_rows_items q_land q_land_heights q_land_holders q_land_kinds q_land_purses q_land_homes s_finding rows_lanes rows_lengths rows_items land_told land_low land_high land_price land_hour land_bidders land_heights land_holders land_kinds land_purses land_homes v5_h88 v1 v2 v3 (r_14) hc_14) (cwV 4 hts gX8_who_X8_arePricesTo rfl rfl rfl ⟨rfl, ddX8_arePricesTo⟩ ⟨Nat.le_of_ble_eq_true rfl, Nat.le_of_ble_eq_true rfl⟩) hK hP [0, 1, 2, 3, 4, 5, 6, 7, 8, 9, 10] rfl rfl rfl rfl rfl hl.1 (Nat.le_of_ble_eq_true rfl) ⟨Nat.zero_le _, Nat.zero_le _⟩ dX8_who_100 ?_
                    refine lv_if_eq (tgt := 115) hx hb dX8_who_103 (by decide) (fun c_15 => ?_) (fun c_15 => ?_)
                    · have h := (if_pos c_15).symm.trans h
                      refine lv_iinc (v := (v5_h88 + 1)) (lv' := [(5, .int (v5_h88 + 1)), (0, .ref q_s), (1, .int v1), (2, .int v2), (3, .int v3), (4, .int v4_h88)]) hx hb dX8_who_115 hl (k := 5) rfl rfl (by decide) rfl (fun ls hl => ?_)
                      refine lv_goto (tgt := 88) hx hb dX8_who_118 (by decide) ?_
                      exact ih v4_h88 (v5_h88 + 1) _ _ _ hP hD hS (lv_sub hl [1, 2, 3, 4, 5, 0] rfl) h
                    · have h := (if_neg c_15).symm.trans h
                      refine lv_iload hx hb dX8_who_106 (lv_at hl 4 rfl) ?_
                      refine lv_iconst (v := 1) hx hb dX8_who_108 (by decide) ?_
                      refine lv_iload hx hb dX8_who_109 (lv_at hl 5 rfl) ?_
                      refine lv_ishl hx hb dX8_who_111 ?_
                      refine lv_ior hx hb dX8_who_112 ?_
                      refine lv_istore (lv' := [(4, .int (v4_h88 ||| (1 <<< (v5_h88 &&& 31)))), (0, .ref q_s), (1, .int v1), (2, .int v2), (3, .int v3), (5, .int v5_h88)]) hx hb dX8_who_113 hl (by decide) rfl (fun ls hl => ?_)
                      refine lv_iinc (v := (v5_h88 + 1)) (lv' := [(5, .int (v5_h88 + 1)), (4, .int (v4_h88 ||| (1 <<< (v5_h88 &&& 31)))), (0, .ref q_s), (1, .int v1), (2, .int v2), (3, .int v3)]) hx hb dX8_who_115 hl (k := 5) rfl rfl (by decide) rfl (fun ls hl => ?_)
                      refine lv_goto (tgt := 88) hx hb dX8_who_118 (by decide) ?_
                      exact ih (v4_h88 ||| (1 <<< (v5_h88 &&& 31))) (v5_h88 + 1) _ _ _ hP hD hS (lv_sub hl [2, 3, 4, 5, 1, 0] rfl) h
              refine KL88 _ (fun v4_e121 H locs ls hP hD hS hl h => ?_) FU 0 1 _ _ _ hP hD hS (lv_sub hl [2, 3, 4, 5, 1, 0] rfl) h
              refine lv_aload_n hx hb dX8_who_121 rfl (lv_at hl 0 rfl) ?_
              refine lv_iload hx hb dX8_who_122 (lv_at hl 1 rfl) ?_
              obtain ⟨r_16, s_finding_16, hc_16, h⟩ := bd2_of h
              refine cl_mVi (As := [.int v4_e121]) (rest := []) (ws' := (W_X cI cZ q_s q_rows q_tape q_land q_spare q_firstImage q_secondImage q_acts q_basket q_asks s_finding_16) ++ ((W_Rows cI cZ q_rows q_rows_lanes q_rows_lengths q_rows_items rows_lanes rows_lengths rows_items) ++ ((W_Isle cI cZ q_land q_land_heights q_land_holders q_land_kinds q_land_purses q_land_homes land_told land_low land_high land_price land_hour land_bidders land_heights land_holders land_kinds land_purses land_homes)))) (wr := (W_Rows cI cZ q_rows q_rows_lanes q_rows_lengths q_rows_items rows_lanes rows_lengths rows_items) ++ ((W_Isle cI cZ q_land q_land_heights q_land_holders q_land_kinds q_land_purses q_land_homes land_told land_low land_high land_price land_hour land_bidders land_heights land_holders land_kinds land_purses land_homes))) ⟨hx, hb, hml, hown, hts⟩ (m_X8_unfound l dC dI cI cZ q_s q_rows q_tape q_land q_spare q_firstImage q_secondImage q_acts q_basket q_asks s_finding v4_e121 _ (r_16, s_finding_16) hc_16) (cwV 1 hts gX8_who_X8_unfound rfl rfl rfl ⟨rfl, ddX8_unfound⟩ ⟨Nat.le_of_ble_eq_true rfl, Nat.le_of_ble_eq_true rfl⟩) hK hP hD hS hA [0] [1, 2, 3, 4, 5, 6, 7, 8, 9, 10] rfl rfl rfl rfl (by decide) [10, 0, 1, 2, 3, 4, 5, 6, 7, 8, 9] rfl rfl rfl rfl rfl rfl rfl hl.1 (Nat.le_of_ble_eq_true rfl) ⟨Nat.zero_le _, Nat.zero_le _⟩ dX8_who_124 (fun H locs hP hD hS => ?_)
              have h := Option.some.inj h
              subst h
              rw [hQQ]
              subst hAe
              exact W.iret (v := r_16) hx hb hr (fun t ht hW => ⟨⟨_, (), rfl, rfl, by rw [ht]; exact hP, va_K.moved hW.alike hK, hD⟩, hS.F ht⟩) hS.2.2 dX8_who_127
            · have h := (if_pos c_12).symm.trans h
              refine lv_ldc hx hb hown w_2 dX8_who_79 ?_
              have h := Option.some.inj h
              subst h
              rw [hQQ]
              subst hAe
              exact W.iret (v := (-1000001)) hx hb hr (fun t ht hW => ⟨⟨_, (), rfl, rfl, by rw [ht]; exact hP, va_K.moved hW.alike hK, hD⟩, hS.F ht⟩) hS.2.2 dX8_who_81
          · have h := (if_pos c_10).symm.trans h
            refine lv_aload_n hx hb dX8_who_62 rfl (lv_at hl 0 rfl) ?_
            refine lv_iconst (v := 2) hx hb dX8_who_63 (by decide) ?_
            obtain ⟨r_17, s_finding_17, hc_17, h⟩ := bd2_of h
            refine cl_mVi (As := [.int 2]) (rest := []) (ws' := (W_X cI cZ q_s q_rows q_tape q_land q_spare q_firstImage q_secondImage q_acts q_basket q_asks s_finding_17) ++ ((W_Rows cI cZ q_rows q_rows_lanes q_rows_lengths q_rows_items rows_lanes rows_lengths rows_items) ++ ((W_Isle cI cZ q_land q_land_heights q_land_holders q_land_kinds q_land_purses q_land_homes land_told land_low land_high land_price land_hour land_bidders land_heights land_holders land_kinds land_purses land_homes)))) (wr := (W_Rows cI cZ q_rows q_rows_lanes q_rows_lengths q_rows_items rows_lanes rows_lengths rows_items) ++ ((W_Isle cI cZ q_land q_land_heights q_land_holders q_land_kinds q_land_purses q_land_homes land_told land_low land_high land_price land_hour land_bidders land_heights land_holders land_kinds land_purses land_homes))) ⟨hx, hb, hml, hown, hts⟩ (m_X8_found l dC dI cI cZ q_s q_rows q_tape q_land q_spare q_firstImage q_secondImage q_acts q_basket q_asks s_finding 2 _ (r_17, s_finding_17) hc_17) (cwV 1 hts gX8_who_X8_found rfl rfl rfl ⟨rfl, ddX8_found⟩ ⟨Nat.le_of_ble_eq_true rfl, Nat.le_of_ble_eq_true rfl⟩) hK hP hD hS hA [0] [1, 2, 3, 4, 5, 6, 7, 8, 9, 10] rfl rfl rfl rfl (by decide) [10, 0, 1, 2, 3, 4, 5, 6, 7, 8, 9] rfl rfl rfl rfl rfl rfl rfl hl.1 (Nat.le_of_ble_eq_true rfl) ⟨Nat.zero_le _, Nat.zero_le _⟩ dX8_who_64 (fun H locs hP hD hS => ?_)
            have h := Option.some.inj h
            subst h
            rw [hQQ]
            subst hAe
            exact W.iret (v := r_17) hx hb hr (fun t ht hW => ⟨⟨_, (), rfl, rfl, by rw [ht]; exact hP, va_K.moved hW.alike hK, hD⟩, hS.F ht⟩) hS.2.2 dX8_who_67
        · have h := (if_neg c_8).symm.trans h
          refine lv_aload_n hx hb dX8_who_41 rfl (lv_at hl 0 rfl) ?_
          refine lv_iconst (v := 1) hx hb dX8_who_42 (by decide) ?_
          obtain ⟨r_18, s_finding_18, hc_18, h⟩ := bd2_of h
          refine cl_mVi (As := [.int 1]) (rest := []) (ws' := (W_X cI cZ q_s q_rows q_tape q_land q_spare q_firstImage q_secondImage q_acts q_basket q_asks s_finding_18) ++ ((W_Rows cI cZ q_rows q_rows_lanes q_rows_lengths q_rows_items rows_lanes rows_lengths rows_items) ++ ((W_Isle cI cZ q_land q_land_heights q_land_holders q_land_kinds q_land_purses q_land_homes land_told land_low land_high land_price land_hour land_bidders land_heights land_holders land_kinds land_purses land_homes)))) (wr := (W_Rows cI cZ q_rows q_rows_lanes q_rows_lengths q_rows_items rows_lanes rows_lengths rows_items) ++ ((W_Isle cI cZ q_land q_land_heights q_land_holders q_land_kinds q_land_purses q_land_homes land_told land_low land_high land_price land_hour land_bidders land_heights land_holders land_kinds land_purses land_homes))) ⟨hx, hb, hml, hown, hts⟩ (m_X8_found l dC dI cI cZ q_s q_rows q_tape q_land q_spare q_firstImage q_secondImage q_acts q_basket q_asks s_finding 1 _ (r_18, s_finding_18) hc_18) (cwV 1 hts gX8_who_X8_found rfl rfl rfl ⟨rfl, ddX8_found⟩ ⟨Nat.le_of_ble_eq_true rfl, Nat.le_of_ble_eq_true rfl⟩) hK hP hD hS hA [0] [1, 2, 3, 4, 5, 6, 7, 8, 9, 10] rfl rfl rfl rfl (by decide) [10, 0, 1, 2, 3, 4, 5, 6, 7, 8, 9] rfl rfl rfl rfl rfl rfl rfl hl.1 (Nat.le_of_ble_eq_true rfl) ⟨Nat.zero_le _, Nat.zero_le _⟩ dX8_who_43 (fun H locs hP hD hS => ?_)
          have h := Option.some.inj h
          subst h
          rw [hQQ]
          subst hAe
          exact W.iret (v := r_18) hx hb hr (fun t ht hW => ⟨⟨_, (), rfl, rfl, by rw [ht]; exact hP, va_K.moved hW.alike hK, hD⟩, hS.F ht⟩) hS.2.2 dX8_who_46
      · have h := (if_pos c_6).symm.trans h
        refine lv_ldc hx hb hown w_2 dX8_who_27 ?_
        have h := Option.some.inj h
        subst h
        rw [hQQ]
        subst hAe
        exact W.iret (v := (-1000001)) hx hb hr (fun t ht hW => ⟨⟨_, (), rfl, rfl, by rw [ht]; exact hP, va_K.moved hW.alike hK, hD⟩, hS.F ht⟩) hS.2.2 dX8_who_29
  · have h := (if_pos c_2).symm.trans h
    refine lv_ldc hx hb hown w_4 dX8_who_10 ?_
    have h := Option.some.inj h
    subst h
    rw [hQQ]
    subst hAe
    exact W.iret (v := (-1000002)) hx hb hr (fun t ht hW => ⟨⟨_, (), rfl, rfl, by rw [ht]; exact hP, va_K.moved hW.alike hK, hD⟩, hS.F ht⟩) hS.2.2 dX8_who_12
def fX8_ring (land_told : Int32) (land_price : Int32) (land_heights : (Nat → Int32)) (land_holders : (Nat → Int32)) (v1 : Int32) (v2 : Int32) : Option (Int32) :=
  bd1 (fX3_isTold land_told) (fun r_1 => (if r_1 = 0 then some ((-1000002)) else bd1 (fX8_isCell v1) (fun r_3 => (if r_3 = 0 then some ((-1000001)) else bd1 (fX8_isChoice v2) (fun r_5 => (if r_5 = 0 then some ((-1000001)) else bd1 (fX6_ringRound v1) (fun r_7 => (if v2 = 1 then bd1 (fJ6_bitCount_0f7a4 r_7) (fun r_11 => some (r_11)) else bd1 (fX3_heldCells land_holders) (fun r_9 => bd1 (fX3_costOf land_price land_heights 1 (r_7 &&& (r_9 ^^^ (-1)))) (fun r_10 => some (r_10)))))))))))
abbrev rmX8_ring : Room := { frames := 3, cells := 0, slots := 0, locals := 68 }
theorem ddX8_ring : yX8_ring.cls ≠ "java/lang/invoke/MethodHandle" ∧ yX8_ring.cls ≠ "java/lang/invoke/VarHandle" ∧ (parseMethodDescriptor yX8_ring.desc).map (fun d => d.parameters.length) = some 2 := by decide +kernel
set_option maxHeartbeats 4000000 in
set_option maxRecDepth 100000 in
theorem m_X8_ring (l : Launch) (dC : Nat → ClassId) (dI : Nat → Nat → Nat) (cI cZ : ClassId) (q_s q_rows q_tape q_land q_spare q_firstImage q_secondImage q_acts q_basket q_asks q_land q_land_heights q_land_holders q_land_kinds q_land_purses q_land_homes : Nat) (s_finding : Int32) (land_told : Int32) (land_low : Int32) (land_high : Int32) (land_price : Int32) (land_hour : Int32) (land_bidders : Int32) (land_heights : (Nat → Int32)) (land_holders : (Nat → Int32)) (land_kinds : (Nat → Int32)) (land_purses : (Nat → Int32)) (land_homes : (Nat → Int32)) (v1 : Int32) (v2 : Int32) (res : Int32) (hf : fX8_ring land_told land_price land_heights land_holders v1 v2 = some res) : Met l yX8_ring wsX8_ring rmX8_ring (rdPc (dC, dI) (tyZ cI cZ) ((W_X cI cZ q_s q_rows q_tape q_land q_spare q_firstImage q_secondImage q_acts q_basket q_asks s_finding) ++ ((W_Isle cI cZ q_land q_land_heights q_land_holders q_land_kinds q_land_purses q_land_homes land_told land_low land_high land_price land_hour land_bidders land_heights land_holders land_kinds land_purses land_homes))) [.ref q_s, .int v1, .int v2]) (rdQ res) 0 0 (fun _ => False) := by
  refine Met.ofW (cc := cX8_ring) (maxL := 4) (ret := (some .int)) (by decide) rfl ?_
  intro p e s m args below meth c s₁ B hml hv
  obtain ⟨rfl, hP, hK⟩ := hv
  have hx := B.exec
  have hb := B.bytes
  have hr := B.returns
  have hts := atoms_spec (ws := wsX8_ring) B.pre
  have hown : s.vm.findClass RX8 = some m.cls := findClass_of_methodNamed B.named
  have hlocks := B.notSynchronized
  have hl := lv_entry ([.ref q_s, .int v1, .int v2]) (n := 4) (Nat.le_of_ble_eq_true rfl)
  rw [lg_entry_eq]
  generalize (lg_sl ([.ref q_s, .int v1, .int v2]) ++ List.replicate (4 - (lg_sl ([.ref q_s, .int v1, .int v2])).length) Slot.unset).toArray = ls at hl ⊢
  have hl : lv_has ls 4 [(0, .ref q_s), (1, .int v1), (2, .int v2)] := hl
  obtain ⟨QQ, hQQ⟩ : ∃ Q, Q = MQ below (rdQ res) ([.ref q_s, .int v1, .int v2] : List Value).toArray s 0 0 (fun _ => False) := ⟨_, rfl⟩
  rw [← hQQ]
  have w_0 := hts (Cond.fieldLink RX8 26 "TideInches" "land" "LTideInches$Isle;") (List.mem_of_getElem? (i := 1) rfl)
  have w_1 := (fun w hw => List.mem_cons_of_mem _ (List.mem_append_left _ (List.mem_append_right _ hw)) : ∀ w ∈ wsX80, w ∈ wsX8_ring)
  have w_2 := hts (Cond.constant RX8 68 (-1000001)) (List.mem_of_getElem? (i := 3) rfl)
  have w_3 := hts (Cond.constant RX8 136 (-1000002)) (List.mem_of_getElem? (i := 2) rfl)
  have h := hf
  unfold fX8_ring at h
  refine lv_aload_n hx hb dX8_ring_0 rfl (lv_at hl 0 rfl) ?_
  refine va_get (D := (dC, dI)) (ci := 6) (v := .ref q_land) (C := RX8) (T := TX8) (N := 10) hx hb hts w_1 hown hK hP 0 rfl rfl 2 (by decide) w_0 (fun _ h9 => h9) rfl dX8_ring_1 ?_
  obtain ⟨r_1, hc_1, h⟩ := bd1_of h
  refine cl_rV (As := []) (rest := []) ⟨hx, hb, hml, hown, hts⟩ (m_X3_isTold l dC dI cI cZ q_land q_land_heights q_land_holders q_land_kinds q_land_purses q_land_homes land_told land_low land_high land_price land_hour land_bidders land_heights land_holders land_kinds land_purses land_homes (r_1) hc_1) (cwV 0 hts gX8_ring_X3_isTold rfl rfl rfl ⟨rfl, ddX3_isTold⟩ ⟨Nat.le_of_ble_eq_true rfl, Nat.le_of_ble_eq_true rfl⟩) hK hP [1, 2, 3, 4, 5, 6] rfl rfl rfl rfl rfl hl.1 (Nat.le_of_ble_eq_true rfl) ⟨Nat.zero_le _, Nat.zero_le _⟩ dX8_ring_4 ?_
  refine lv_if_ne (tgt := 13) hx hb dX8_ring_7 (by decide) (fun c_2 => ?_) (fun c_2 => ?_)
  · have h := (if_neg c_2).symm.trans h
    refine lv_iload_n hx hb dX8_ring_13 rfl (lv_at hl 1 rfl) ?_
    obtain ⟨r_3, hc_3, h⟩ := bd1_of h
    refine cl_pS (As := [.int v1]) (rest := []) ⟨hx, hb, hml, hown, hts⟩ (m_X8_isCell l v1 (r_3) hc_3) (va_cwS 1 hts gX8_ring_X8_isCell rfl rfl rfl ddX8_isCell ⟨Nat.le_of_ble_eq_true rfl, Nat.le_of_ble_eq_true rfl⟩) rfl rfl hl.1 (Nat.le_of_ble_eq_true rfl) ⟨Nat.zero_le _, Nat.zero_le _⟩ dX8_ring_14 ?_
    refine lv_if_eq (tgt := 27) hx hb dX8_ring_17 (by decide) (fun c_4 => ?_) (fun c_4 => ?_)
    · have h := (if_pos c_4).symm.trans h
      refine lv_ldc hx hb hown w_2 dX8_ring_27 ?_
      rw [hQQ]
      exact W.iret (v := (-1000001)) hx hb hr (fun t ht hW => ⟨_, rfl, Option.some.inj h, ht⟩) (fun q hq => by cases hq) dX8_ring_29
    · have h := (if_neg c_4).symm.trans h
      refine lv_iload_n hx hb dX8_ring_20 rfl (lv_at hl 2 rfl) ?_
      obtain ⟨r_5, hc_5, h⟩ := bd1_of h
      refine cl_pS (As := [.int v2]) (rest := []) ⟨hx, hb, hml, hown, hts⟩ (m_X8_isChoice l v2 (r_5) hc_5) (va_cwS 1 hts gX8_ring_X8_isChoice rfl rfl rfl ddX8_isChoice ⟨Nat.le_of_ble_eq_true rfl, Nat.le_of_ble_eq_true rfl⟩) rfl rfl hl.1 (Nat.le_of_ble_eq_true rfl) ⟨Nat.zero_le _, Nat.zero_le _⟩ dX8_ring_21 ?_
      refine lv_if_ne (tgt := 30) hx hb dX8_ring_24 (by decide) (fun c_6 => ?_) (fun c_6 => ?_)
      · have h := (if_neg c_6).symm.trans h
        refine lv_iload_n hx hb dX8_ring_30 rfl (lv_at hl 1 rfl) ?_
        obtain ⟨r_7, hc_7, h⟩ := bd1_of h
        refine cl_pS (As := [.int v1]) (rest := []) ⟨hx, hb, hml, hown, hts⟩ (m_X6_ringRound l v1 (r_7) hc_7) (va_cwS 1 hts gX8_ring_X6_ringRound rfl rfl rfl ddX6_ringRound ⟨Nat.le_of_ble_eq_true rfl, Nat.le_of_ble_eq_true rfl⟩) rfl rfl hl.1 (Nat.le_of_ble_eq_true rfl) ⟨Nat.zero_le _, Nat.zero_le _⟩ dX8_ring_31 ?_
        refine lv_istore_n (lv' := [(3, .int r_7), (0, .ref q_s), (1, .int v1), (2, .int v2)]) hx hb dX8_ring_34 rfl hl (by decide) rfl (fun ls hl => ?_)
        refine lv_iload_n hx hb dX8_ring_35 rfl (lv_at hl 3 rfl) ?_
        refine lv_iconst (v := 1) hx hb dX8_ring_36 (by decide) ?_
        refine lv_icmp_ne (tgt := 47) hx hb dX8_ring_37 (by decide) (fun c_8 => ?_) (fun c_8 => ?_)
        · have h := (if_neg c_8).symm.trans h
          refine lv_aload_n hx hb dX8_ring_47 rfl (lv_at hl 1 rfl) ?_
          refine va_get (D := (dC, dI)) (ci := 6) (v := .ref q_land) (C := RX8) (T := TX8) (N := 10) hx hb hts w_1 hown hK hP 0 rfl rfl 2 (by decide) w_0 (fun _ h9 => h9) rfl dX8_ring_48 ?_
          refine lv_iconst (v := 1) hx hb dX8_ring_51 (by decide) ?_
          refine lv_iload_n hx hb dX8_ring_52 rfl (lv_at hl 0 rfl) ?_
          refine lv_aload_n hx hb dX8_ring_53 rfl (lv_at hl 1 rfl) ?_
          refine va_get (D := (dC, dI)) (ci := 6) (v := .ref q_land) (C := RX8) (T := TX8) (N := 10) hx hb hts w_1 hown hK hP 0 rfl rfl 2 (by decide) w_0 (fun _ h9 => h9) rfl dX8_ring_54 ?_
          obtain ⟨r_9, hc_9, h⟩ := bd1_of h
          refine cl_rV (As := []) (rest := [.int r_7, .int 1, .ref q_land]) ⟨hx, hb, hml, hown, hts⟩ (m_X3_heldCells l dC dI cI cZ q_land q_land_heights q_land_holders q_land_kinds q_land_purses q_land_homes land_told land_low land_high land_price land_hour land_bidders land_heights land_holders land_kinds land_purses land_homes (r_9) hc_9) (cwV 0 hts gX8_ring_X3_heldCells rfl rfl rfl ⟨rfl, ddX3_heldCells⟩ ⟨Nat.le_of_ble_eq_true rfl, Nat.le_of_ble_eq_true rfl⟩) hK hP [1, 2, 3, 4, 5, 6] rfl rfl rfl rfl rfl hl.1 (Nat.le_of_ble_eq_true rfl) ⟨Nat.zero_le _, Nat.zero_le _⟩ dX8_ring_57 ?_
          refine lv_iconst (v := (-1)) hx hb dX8_ring_60 (by decide) ?_
          refine lv_ixor hx hb dX8_ring_61 ?_
          refine lv_iand hx hb dX8_ring_62 ?_
          obtain ⟨r_10, hc_10, h⟩ := bd1_of h
          refine cl_rV (As := [.int 1, .int (r_7 &&& (r_9 ^^^ (-1)))]) (rest := []) ⟨hx, hb, hml, hown, hts⟩ (m_X3_costOf l dC dI cI cZ q_land q_land_heights q_land_holders q_land_kinds q_land_purses q_land_homes land_told land_low land_high land_price land_hour land_bidders land_heights land_holders land_kinds land_purses land_homes 1 (r_7 &&& (r_9 ^^^ (-1))) (r_10) hc_10) (cwV 2 hts gX8_ring_X3_costOf rfl rfl rfl ⟨rfl, ddX3_costOf⟩ ⟨Nat.le_of_ble_eq_true rfl, Nat.le_of_ble_eq_true rfl⟩) hK hP [1, 2, 3, 4, 5, 6] rfl rfl rfl rfl rfl hl.1 (Nat.le_of_ble_eq_true rfl) ⟨Nat.zero_le _, Nat.zero_le _⟩ dX8_ring_63 ?_
          rw [hQQ]
          exact W.iret (v := r_10) hx hb hr (fun t ht hW => ⟨_, rfl, Option.some.inj h, ht⟩) (fun q hq => by cases hq) dX8_ring_66
        · have h := (if_pos c_8).symm.trans h
          refine lv_iload_n hx hb dX8_ring_40 rfl (lv_at hl 0 rfl) ?_
          obtain ⟨r_11, hc_11, h⟩ := bd1_of h
          refine cl_pS (As := [.int r_7]) (rest := []) ⟨hx, hb, hml, hown, hts⟩ (m_J6_bitCount_0f7a4 l r_7 (r_11) hc_11) (va_cwS 1 hts gX8_ring_J6_bitCount_0f7a4 rfl rfl rfl ddJ6_bitCount_0f7a4 ⟨Nat.le_of_ble_eq_true rfl, Nat.le_of_ble_eq_true rfl⟩) rfl rfl hl.1 (Nat.le_of_ble_eq_true rfl) ⟨Nat.zero_le _, Nat.zero_le _⟩ dX8_ring_41 ?_
          refine lv_goto (tgt := 66) hx hb dX8_ring_44 (by decide) ?_
          rw [hQQ]
          exact W.iret (v := r_11) hx hb hr (fun t ht hW => ⟨_, rfl, Option.some.inj h, ht⟩) (fun q hq => by cases hq) dX8_ring_66
      · have h := (if_pos c_6).symm.trans h
        refine lv_ldc hx hb hown w_2 dX8_ring_27 ?_
        rw [hQQ]
        exact W.iret (v := (-1000001)) hx hb hr (fun t ht hW => ⟨_, rfl, Option.some.inj h, ht⟩) (fun q hq => by cases hq) dX8_ring_29
  · have h := (if_pos c_2).symm.trans h
    refine lv_ldc hx hb hown w_3 dX8_ring_10 ?_
    rw [hQQ]
    exact W.iret (v := (-1000002)) hx hb hr (fun t ht hW => ⟨_, rfl, Option.some.inj h, ht⟩) (fun q hq => by cases hq) dX8_ring_12
def fX8_purses_L95 (rows_items : (Nat → Int32)) (land_price : Int32) (land_heights : (Nat → Int32)) (land_kinds : (Nat → Int32)) (v1 : Int32) (v2 : Int32) (v3 : Int32) (v4 : Int32) (k95_135 : Int32 → Option (Int32 × Int32)) : Nat → Int32 → Int32 → Option (Int32 × Int32)
  | 0, _, _ => none
  | n + 1, v6_h95, v7_h95 => (if (v4 - 1) ≤ v7_h95 then (k95_135 v6_h95) else bd1 (fX5_item rows_items v2 (v3 + v7_h95)) (fun r_16 => bd1 (fX3_costTo land_price land_heights land_kinds v1 r_16) (fun r_17 => ((fX8_purses_L95 rows_items land_price land_heights land_kinds v1 v2 v3 v4 k95_135 n) (v6_h95 + r_17) (v7_h95 + 1)))))
def fX8_purses (s_finding : Int32) (rows_lanes : (Nat → Int32)) (rows_lengths : (Nat → Int32)) (rows_items : (Nat → Int32)) (land_price : Int32) (land_bidders : Int32) (land_heights : (Nat → Int32)) (land_kinds : (Nat → Int32)) (v1 : Int32) (v2 : Int32) (v3 : Int32) (v4 : Int32) (v5 : Int32) : Option (Int32 × Int32) :=
  bd1 (fX3_hasBidder land_bidders v1) (fun r_1 => (if r_1 = 0 then some ((-1000001), s_finding) else bd1 (fX5_isRow v2) (fun r_3 => (if r_3 = 0 then some ((-1000001), s_finding) else bd1 (fX8_isNumberOfItems v4) (fun r_5 => (if r_5 = 0 then some ((-1000001), s_finding) else bd1 (fX8_isChoice v5) (fun r_7 => (if r_7 = 0 then some ((-1000001), s_finding) else bd1 (fX5_isMissing rows_lanes v2) (fun r_9 => (if r_9 = 0 then bd1 (fX5_hasPlaces rows_lengths v2 v3 v4) (fun r_11 => (if r_11 = 0 then bd2 (fX8_found 2) (fun r_25 s_finding_25 => some (r_25, s_finding_25)) else bd1 (fX8_areCells rows_items v2 v3 v4 1) (fun r_13 => (if r_13 = 0 then some ((-1000001), s_finding) else (fX8_purses_L95 rows_items land_price land_heights land_kinds v1 v2 v3 v4 (fun v6_e135 => bd1 (fX5_item rows_items v2 ((v3 + v4) - 1)) (fun r_18 => bd1 (fX3_costTo land_price land_heights land_kinds v1 r_18) (fun r_19 => (if v5 = 0 then bd2 (fX8_unfound (imax 0 (((imin 99 ((v6_e135 + r_19) - 1)) - v6_e135) + 1))) (fun r_24 s_finding_24 => some (r_24, s_finding_24)) else (if (imax 0 (((imin 99 ((v6_e135 + r_19) - 1)) - v6_e135) + 1)) ≤ 0 then bd2 (fX8_unfound (-1000000)) (fun r_22 s_finding_22 => some (r_22, s_finding_22)) else bd2 (fX8_unfound v6_e135) (fun r_23 s_finding_23 => some (r_23, s_finding_23))))))) FU 0 0))))) else bd2 (fX8_found 1) (fun r_26 s_finding_26 => some (r_26, s_finding_26))))))))))))
abbrev rmX8_purses : Room := { frames := 3, cells := 0, slots := 0, locals := 66 }
theorem ddX8_purses : yX8_purses.cls ≠ "java/lang/invoke/MethodHandle" ∧ yX8_purses.cls ≠ "java/lang/invoke/VarHandle" ∧ (parseMethodDescriptor yX8_purses.desc).map (fun d => d.parameters.length) = some 5 := by decide +kernel
set_option maxHeartbeats 4000000 in
set_option maxRecDepth 100000 in
theorem m_X8_purses (l : Launch) (dC : Nat → ClassId) (dI : Nat → Nat → Nat) (cI cZ : ClassId) (q_s q_rows q_tape q_land q_spare q_firstImage q_secondImage q_acts q_basket q_asks q_rows q_rows_lanes q_rows_lengths q_rows_items q_land q_land_heights q_land_holders q_land_kinds q_land_purses q_land_homes : Nat) (s_finding : Int32) (rows_lanes : (Nat → Int32)) (rows_lengths : (Nat → Int32)) (rows_items : (Nat → Int32)) (land_told : Int32) (land_low : Int32) (land_high : Int32) (land_price : Int32) (land_hour : Int32) (land_bidders : Int32) (land_heights : (Nat → Int32)) (land_holders : (Nat → Int32)) (land_kinds : (Nat → Int32)) (land_purses : (Nat → Int32)) (land_homes : (Nat → Int32)) (v1 : Int32) (v2 : Int32) (v3 : Int32) (v4 : Int32) (v5 : Int32) (sz : Nat) (res : Int32 × Int32) (hf : fX8_purses s_finding rows_lanes rows_lengths rows_items land_price land_bidders land_heights land_kinds v1 v2 v3 v4 v5 = some res) : Met l yX8_purses wsX8_purses rmX8_purses (mtPc (dC, dI) (tyZ cI cZ) ((W_X cI cZ q_s q_rows q_tape q_land q_spare q_firstImage q_secondImage q_acts q_basket q_asks s_finding) ++ ((W_Rows cI cZ q_rows q_rows_lanes q_rows_lengths q_rows_items rows_lanes rows_lengths rows_items) ++ ((W_Isle cI cZ q_land q_land_heights q_land_holders q_land_kinds q_land_purses q_land_homes land_told land_low land_high land_price land_hour land_bidders land_heights land_holders land_kinds land_purses land_homes)))) [.ref q_s, .int v1, .int v2, .int v3, .int v4, .int v5] sz) (mtQi (dC, dI) (tyZ cI cZ) ((W_X cI cZ q_s q_rows q_tape q_land q_spare q_firstImage q_secondImage q_acts q_basket q_asks s_finding) ++ ((W_Rows cI cZ q_rows q_rows_lanes q_rows_lengths q_rows_items rows_lanes rows_lengths rows_items) ++ ((W_Isle cI cZ q_land q_land_heights q_land_holders q_land_kinds q_land_purses q_land_homes land_told land_low land_high land_price land_hour land_bidders land_heights land_holders land_kinds land_purses land_homes)))) ((W_X cI cZ q_s q_rows q_tape q_land q_spare q_firstImage q_secondImage q_acts q_basket q_asks res.2) ++ ((W_Rows cI cZ q_rows q_rows_lanes q_rows_lengths q_rows_items rows_lanes rows_lengths rows_items) ++ ((W_Isle cI cZ q_land q_land_heights q_land_holders q_land_kinds q_land_purses q_land_homes land_told land_low land_high land_price land_hour land_bidders land_heights land_holders land_kinds land_purses land_homes)))) res.1 sz) 0 0 (va_A ((W_X cI cZ q_s q_rows q_tape q_land q_spare q_firstImage q_secondImage q_acts q_basket q_asks s_finding) ++ ((W_Rows cI cZ q_rows q_rows_lanes q_rows_lengths q_rows_items rows_lanes rows_lengths rows_items) ++ ((W_Isle cI cZ q_land q_land_heights q_land_holders q_land_kinds q_land_purses q_land_homes land_told land_low land_high land_price land_hour land_bidders land_heights land_holders land_kinds land_purses land_homes)))) sz) := by
  refine Met.ofW (cc := cX8_purses) (maxL := 9) (ret := (some .int)) (by decide) rfl ?_
  intro p e s m args below meth c s₁ B hml hv
  obtain ⟨rfl, hsz, hP, hK, hD0⟩ := hv
  have hx := B.exec
  have hb := B.bytes
  have hr := B.returns
  have hts := atoms_spec (ws := wsX8_purses) B.pre
  have hown : s.vm.findClass RX8 = some m.cls := findClass_of_methodNamed B.named
  have hlocks := B.notSynchronized
  subst hsz
  have hD := hD0.self (sz := s.heap.size)
  obtain ⟨A, hAe⟩ : ∃ A, A = va_A ((W_X cI cZ q_s q_rows q_tape q_land q_spare q_firstImage q_secondImage q_acts q_basket q_asks s_finding) ++ ((W_Rows cI cZ q_rows q_rows_lanes q_rows_lengths q_rows_items rows_lanes rows_lengths rows_items) ++ ((W_Isle cI cZ q_land q_land_heights q_land_holders q_land_kinds q_land_purses q_land_homes land_told land_low land_high land_price land_hour land_bidders land_heights land_holders land_kinds land_purses land_homes)))) s.heap.size := ⟨_, rfl⟩
  rw [← hAe] at hD
  have hA : ∀ q : Nat, s.heap.size ≤ q → A q := fun q h => by rw [hAe]; exact Or.inr h
  have hS : va_S A s.heap s.heap [] := va_S.rf
  have hl := lv_entry ([.ref q_s, .int v1, .int v2, .int v3, .int v4, .int v5]) (n := 9) (Nat.le_of_ble_eq_true rfl)
  rw [lg_entry_eq]
  generalize (lg_sl ([.ref q_s, .int v1, .int v2, .int v3, .int v4, .int v5]) ++ List.replicate (9 - (lg_sl ([.ref q_s, .int v1, .int v2, .int v3, .int v4, .int v5])).length) Slot.unset).toArray = ls at hl ⊢
  have hl : lv_has ls 9 [(0, .ref q_s), (1, .int v1), (2, .int v2), (3, .int v3), (4, .int v4), (5, .int v5)] := hl
  obtain ⟨QQ, hQQ⟩ : ∃ Q, Q = MQ below (mtQi (dC, dI) (tyZ cI cZ) ((W_X cI cZ q_s q_rows q_tape q_land q_spare q_firstImage q_secondImage q_acts q_basket q_asks s_finding) ++ ((W_Rows cI cZ q_rows q_rows_lanes q_rows_lengths q_rows_items rows_lanes rows_lengths rows_items) ++ ((W_Isle cI cZ q_land q_land_heights q_land_holders q_land_kinds q_land_purses q_land_homes land_told land_low land_high land_price land_hour land_bidders land_heights land_holders land_kinds land_purses land_homes)))) ((W_X cI cZ q_s q_rows q_tape q_land q_spare q_firstImage q_secondImage q_acts q_basket q_asks res.2) ++ ((W_Rows cI cZ q_rows q_rows_lanes q_rows_lengths q_rows_items rows_lanes rows_lengths rows_items) ++ ((W_Isle cI cZ q_land q_land_heights q_land_holders q_land_kinds q_land_purses q_land_homes land_told land_low land_high land_price land_hour land_bidders land_heights land_holders land_kinds land_purses land_homes)))) res.1 s.heap.size) ([.ref q_s, .int v1, .int v2, .int v3, .int v4, .int v5] : List Value).toArray s 0 0 (va_A ((W_X cI cZ q_s q_rows q_tape q_land q_spare q_firstImage q_secondImage q_acts q_basket q_asks s_finding) ++ ((W_Rows cI cZ q_rows q_rows_lanes q_rows_lengths q_rows_items rows_lanes rows_lengths rows_items) ++ ((W_Isle cI cZ q_land q_land_heights q_land_holders q_land_kinds q_land_purses q_land_homes land_told land_low land_high land_price land_hour land_bidders land_heights land_holders land_kinds land_purses land_homes)))) s.heap.size) := ⟨_, rfl⟩
  rw [← hQQ]
  have w_0 := hts (Cond.fieldLink RX8 26 "TideInches" "land" "LTideInches$Isle;") (List.mem_of_getElem? (i := 1) rfl)
  have w_1 := (fun w hw => List.mem_cons_of_mem _ (List.mem_append_left _ (List.mem_append_left _ (List.mem_append_right _ hw))) : ∀ w ∈ wsX80, w ∈ wsX8_purses)
  have w_2 := hts (Cond.constant RX8 68 (-1000001)) (List.mem_of_getElem? (i := 2) rfl)
  have w_3 := hts (Cond.fieldLink RX8 12 "TideInches" "rows" "LTideInches$Rows;") (List.mem_of_getElem? (i := 3) rfl)
  have w_4 := hts (Cond.methodLink RX8 279 Lib.Math.min.name) (List.mem_of_getElem? (i := 4) rfl)
  have w_5 := hts (Cond.static Lib.Math.min.name) (List.mem_of_getElem? (i := 5) rfl)
  have w_6 := hts (Cond.initialized "java/lang/Math") (List.mem_of_getElem? (i := 6) rfl)
  have w_7 := hts (Cond.code Lib.Math.min.name Lib.Math.min.code 2 (some .int)) (List.mem_of_getElem? (i := 7) rfl)
  have w_8 := hts (Cond.methodLink RX8 206 Lib.Math.max.name) (List.mem_of_getElem? (i := 8) rfl)
  have w_9 := hts (Cond.static Lib.Math.max.name) (List.mem_of_getElem? (i := 9) rfl)
  have w_10 := hts (Cond.code Lib.Math.max.name Lib.Math.max.code 2 (some .int)) (List.mem_of_getElem? (i := 10) rfl)
  have w_11 := hts (Cond.constant RX8 199 (-1000000)) (List.mem_of_getElem? (i := 11) rfl)
  have h := hf
  unfold fX8_purses at h
  refine lv_aload_n hx hb dX8_purses_0 rfl (lv_at hl 0 rfl) ?_
  refine va_get (D := (dC, dI)) (ci := 6) (v := .ref q_land) (C := RX8) (T := TX8) (N := 10) hx hb hts w_1 hown hK hP 0 rfl rfl 2 (by decide) w_0 (fun _ h9 => h9) rfl dX8_purses_1 ?_
  refine lv_iload_n hx hb dX8_purses_4 rfl (lv_at hl 1 rfl) ?_
  obtain ⟨r_1, hc_1, h⟩ := bd1_of h
  refine cl_rV (As := [.int v1]) (rest := []) ⟨hx, hb, hml, hown, hts⟩ (m_X3_hasBidder l dC dI cI cZ q_land q_land_heights q_land_holders q_land_kinds q_land_purses q_land_homes land_told land_low land_high land_price land_hour land_bidders land_heights land_holders land_kinds land_purses land_homes v1 (r_1) hc_1) (cwV 1 hts gX8_purses_X3_hasBidder rfl rfl rfl ⟨rfl, ddX3_hasBidder⟩ ⟨Nat.le_of_ble_eq_true rfl, Nat.le_of_ble_eq_true rfl⟩) hK hP [5, 6, 7, 8, 9, 10] rfl rfl rfl rfl rfl hl.1 (Nat.le_of_ble_eq_true rfl) ⟨Nat.zero_le _, Nat.zero_le _⟩ dX8_purses_5 ?_
  refine lv_if_eq (tgt := 34) hx hb dX8_purses_8 (by decide) (fun c_2 => ?_) (fun c_2 => ?_)
  · have h := (if_pos c_2).symm.trans h
    refine lv_ldc hx hb hown w_2 dX8_purses_34 ?_
    have h := Option.some.inj h
    subst h
    rw [hQQ]
    subst hAe
    exact W.iret (v := (-1000001)) hx hb hr (fun t ht hW => ⟨⟨_, (), rfl, rfl, by rw [ht]; exact hP, va_K.moved hW.alike hK, hD⟩, hS.F ht⟩) hS.2.2 dX8_purses_36
  · have h := (if_neg c_2).symm.trans h
    refine lv_iload_n hx hb dX8_purses_11 rfl (lv_at hl 2 rfl) ?_
    obtain ⟨r_3, hc_3, h⟩ := bd1_of h
    refine cl_pS (As := [.int v2]) (rest := []) ⟨hx, hb, hml, hown, hts⟩ (m_X5_isRow l v2 (r_3) hc_3) (va_cwS 1 hts gX8_purses_X5_isRow rfl rfl rfl ddX5_isRow ⟨Nat.le_of_ble_eq_true rfl, Nat.le_of_ble_eq_true rfl⟩) rfl rfl hl.1 (Nat.le_of_ble_eq_true rfl) ⟨Nat.zero_le _, Nat.zero_le _⟩ dX8_purses_12 ?_
    refine lv_if_eq (tgt := 34) hx hb dX8_purses_15 (by decide) (fun c_4 => ?_) (fun c_4 => ?_)
    · have h := (if_pos c_4).symm.trans h
      refine lv_ldc hx hb hown w_2 dX8_purses_34 ?_
      have h := Option.some.inj h
      subst h
      rw [hQQ]
      subst hAe
      exact W.iret (v := (-1000001)) hx hb hr (fun t ht hW => ⟨⟨_, (), rfl, rfl, by rw [ht]; exact hP, va_K.moved hW.alike hK, hD⟩, hS.F ht⟩) hS.2.2 dX8_purses_36
    · have h := (if_neg c_4).symm.trans h
      refine lv_iload hx hb dX8_purses_18 (lv_at hl 4 rfl) ?_
      obtain ⟨r_5, hc_5, h⟩ := bd1_of h
      refine cl_pS (As := [.int v4]) (rest := []) ⟨hx, hb, hml, hown, hts⟩ (m_X8_isNumberOfItems l v4 (r_5) hc_5) (va_cwS 1 hts gX8_purses_X8_isNumberOfItems rfl rfl rfl ddX8_isNumberOfItems ⟨Nat.le_of_ble_eq_true rfl, Nat.le_of_ble_eq_true rfl⟩) rfl rfl hl.1 (Nat.le_of_ble_eq_true rfl) ⟨Nat.zero_le _, Nat.zero_le _⟩ dX8_purses_20 ?_
      refine lv_if_eq (tgt := 34) hx hb dX8_purses_23 (by decide) (fun c_6 => ?_) (fun c_6 => ?_)
      · have h := (if_pos c_6).symm.trans h
        refine lv_ldc hx hb hown w_2 dX8_purses_34 ?_
        have h := Option.some.inj h
        subst h
        rw [hQQ]
        subst hAe
        exact W.iret (v := (-1000001)) hx hb hr (fun t ht hW => ⟨⟨_, (), rfl, rfl, by rw [ht]; exact hP, va_K.moved hW.alike hK, hD⟩, hS.F ht⟩) hS.2.2 dX8_purses_36
      · have h := (if_neg c_6).symm.trans h
        refine lv_iload hx hb dX8_purses_26 (lv_at hl 5 rfl) ?_
        obtain ⟨r_7, hc_7, h⟩ := bd1_of h
        refine cl_pS (As := [.int v5]) (rest := []) ⟨hx, hb, hml, hown, hts⟩ (m_X8_isChoice l v5 (r_7) hc_7) (va_cwS 1 hts gX8_purses_X8_isChoice rfl rfl rfl ddX8_isChoice ⟨Nat.le_of_ble_eq_true rfl, Nat.le_of_ble_eq_true rfl⟩) rfl rfl hl.1 (Nat.le_of_ble_eq_true rfl) ⟨Nat.zero_le _, Nat.zero_le _⟩ dX8_purses_28 ?_
        refine lv_if_ne (tgt := 37) hx hb dX8_purses_31 (by decide) (fun c_8 => ?_) (fun c_8 => ?_)
        · have h := (if_neg c_8).symm.trans h
          refine lv_aload_n hx hb dX8_purses_37 rfl (lv_at hl 0 rfl) ?_
          refine va_get (D := (dC, dI)) (ci := 6) (v := .ref q_rows) (C := RX8) (T := TX8) (N := 10) hx hb hts w_1 hown hK hP 0 rfl rfl 0 (by decide) w_3 (fun _ h9 => h9) rfl dX8_purses_38 ?_
          refine lv_iload_n hx hb dX8_purses_41 rfl (lv_at hl 2 rfl) ?_
          obtain ⟨r_9, hc_9, h⟩ := bd1_of h
          refine cl_rV (As := [.int v2]) (rest := []) ⟨hx, hb, hml, hown, hts⟩ (m_X5_isMissing l dC dI cI cZ q_rows q_rows_lanes q_rows_lengths q_rows_items rows_lanes rows_lengths rows_items v2 (r_9) hc_9) (cwV 1 hts gX8_purses_X5_isMissing rfl rfl rfl ⟨rfl, ddX5_isMissing⟩ ⟨Nat.le_of_ble_eq_true rfl, Nat.le_of_ble_eq_true rfl⟩) hK hP [1, 2, 3, 4] rfl rfl rfl rfl rfl hl.1 (Nat.le_of_ble_eq_true rfl) ⟨Nat.zero_le _, Nat.zero_le _⟩ dX8_purses_42 ?_
          refine lv_if_eq (tgt := 54) hx hb dX8_purses_45 (by decide) (fun c_10 => ?_) (fun c_10 => ?_)
          · have h := (if_pos c_10).symm.trans h
            refine lv_aload_n hx hb dX8_purses_54 rfl (lv_at hl 0 rfl) ?_
            refine va_get (D := (dC, dI)) (ci := 6) (v := .ref q_rows) (C := RX8) (T := TX8) (N := 10) hx hb hts w_1 hown hK hP 0 rfl rfl 0 (by decide) w_3 (fun _ h9 => h9) rfl dX8_purses_55 ?_
            refine lv_iload_n hx hb dX8_purses_58 rfl (lv_at hl 2 rfl) ?_
            refine lv_iload_n hx hb dX8_purses_59 rfl (lv_at hl 3 rfl) ?_
            refine lv_iload hx hb dX8_purses_60 (lv_at hl 4 rfl) ?_
            obtain ⟨r_11, hc_11, h⟩ := bd1_of h
            refine cl_rV (As := [.int v2, .int v3, .int v4]) (rest := []) ⟨hx, hb, hml, hown, hts⟩ (m_X5_hasPlaces l dC dI cI cZ q_rows q_rows_lanes q_rows_lengths q_rows_items rows_lanes rows_lengths rows_items v2 v3 v4 (r_11) hc_11) (cwV 3 hts gX8_purses_X5_hasPlaces rfl rfl rfl ⟨rfl, ddX5_hasPlaces⟩ ⟨Nat.le_of_ble_eq_true rfl, Nat.le_of_ble_eq_true rfl⟩) hK hP [1, 2, 3, 4] rfl rfl rfl rfl rfl hl.1 (Nat.le_of_ble_eq_true rfl) ⟨Nat.zero_le _, Nat.zero_le _⟩ dX8_purses_62 ?_
            refine lv_if_ne (tgt := 74) hx hb dX8_purses_65 (by decide) (fun c_12 => ?_) (fun c_12 => ?_)
            · have h := (if_neg c_12).symm.trans h
              refine lv_aload_n hx hb dX8_purses_74 rfl (lv_at hl 0 rfl) ?_
              refine lv_iload_n hx hb dX8_purses_75 rfl (lv_at hl 2 rfl) ?_
              refine lv_iload_n hx hb dX8_purses_76 rfl (lv_at hl 3 rfl) ?_
              refine lv_iload hx hb dX8_purses_77 (lv_at hl 4 rfl) ?_
              refine lv_iconst (v := 1) hx hb dX8_purses_79 (by decide) ?_
              obtain ⟨r_13, hc_13, h⟩ := bd1_of h
              refine cl_rV (As := [.int v2, .int v3, .int v4, .int 1]) (rest := []) ⟨hx, hb, hml, hown, hts⟩ (m_X8_areCells l dC dI cI cZ q_s q_rows q_tape q_land q_spare q_firstImage q_secondImage q_acts q_basket q_asks q_rows q_rows_lanes q_rows_lengths q_rows_items s_finding rows_lanes rows_lengths rows_items v2 v3 v4 1 (r_13) hc_13) (cwV 4 hts gX8_purses_X8_areCells rfl rfl rfl ⟨rfl, ddX8_areCells⟩ ⟨Nat.le_of_ble_eq_true rfl, Nat.le_of_ble_eq_true rfl⟩) hK hP [0, 1, 2, 3, 4] rfl rfl rfl rfl rfl hl.1 (Nat.le_of_ble_eq_true rfl) ⟨Nat.zero_le _, Nat.zero_le _⟩ dX8_purses_80 ?_
              refine lv_if_ne (tgt := 89) hx hb dX8_purses_83 (by decide) (fun c_14 => ?_) (fun c_14 => ?_)
              · have h := (if_neg c_14).symm.trans h
                refine lv_iconst (v := 0) hx hb dX8_purses_89 (by decide) ?_
                refine lv_istore (lv' := [(6, .int 0), (0, .ref q_s), (1, .int v1), (2, .int v2), (3, .int v3), (4, .int v4), (5, .int v5)]) hx hb dX8_purses_90 hl (by decide) rfl (fun ls hl => ?_)
                refine lv_iconst (v := 0) hx hb dX8_purses_92 (by decide) ?_
                refine lv_istore (lv' := [(7, .int 0), (6, .int 0), (0, .ref q_s), (1, .int v1), (2, .int v2), (3, .int v3), (4, .int v4), (5, .int v5)]) hx hb dX8_purses_93 hl (by decide) rfl (fun ls hl => ?_)
                have KL95 : ∀ (k95_135 : Int32 → Option (Int32 × Int32)) , (∀ (v6_e135 : Int32) (H : Heap) (locs : List Loc) (ls : Array Slot), va_P (dC, dI) vwCl ((W_X cI cZ q_s q_rows q_tape q_land q_spare q_firstImage q_secondImage q_acts q_basket q_asks s_finding) ++ ((W_Rows cI cZ q_rows q_rows_lanes q_rows_lengths q_rows_items rows_lanes rows_lengths rows_items) ++ ((W_Isle cI cZ q_land q_land_heights q_land_holders q_land_kinds q_land_purses q_land_homes land_told land_low land_high land_price land_hour land_bidders land_heights land_holders land_kinds land_purses land_homes)))) H → va_D A ((W_X cI cZ q_s q_rows q_tape q_land q_spare q_firstImage q_secondImage q_acts q_basket q_asks s_finding) ++ ((W_Rows cI cZ q_rows q_rows_lanes q_rows_lengths q_rows_items rows_lanes rows_lengths rows_items) ++ ((W_Isle cI cZ q_land q_land_heights q_land_holders q_land_kinds q_land_purses q_land_homes land_told land_low land_high land_price land_hour land_bidders land_heights land_holders land_kinds land_purses land_homes)))) → va_S A s.heap H locs → lv_has ls 9 [(0, .ref q_s), (1, .int v1), (2, .int v2), (3, .int v3), (4, .int v4), (5, .int v5), (6, .int v6_e135)] → k95_135 v6_e135 = some res → W p l e (headSpec wsX8_purses rmX8_purses).room s m ([.ref q_s, .int v1, .int v2, .int v3, .int v4, .int v5] : List Value).toArray below meth c H locs 0 0 QQ (F0 m 135 ls [])) → ∀ (n : Nat) (v6_h95 : Int32) (v7_h95 : Int32) (H : Heap) (locs : List Loc) (ls : Array Slot), va_P (dC, dI) vwCl ((W_X cI cZ q_s q_rows q_tape q_land q_spare q_firstImage q_secondImage q_acts q_basket q_asks s_finding) ++ ((W_Rows cI cZ q_rows q_rows_lanes q_rows_lengths q_rows_items rows_lanes rows_lengths rows_items) ++ ((W_Isle cI cZ q_land q_land_heights q_land_holders q_land_kinds q_land_purses q_land_homes land_told land_low land_high land_price land_hour land_bidders land_heights land_holders land_kinds land_purses land_homes)))) H → va_D A ((W_X cI cZ q_s q_rows q_tape q_land q_spare q_firstImage q_secondImage q_acts q_basket q_asks s_finding) ++ ((W_Rows cI cZ q_rows q_rows_lanes q_rows_lengths q_rows_items rows_lanes rows_lengths rows_items) ++ ((W_Isle cI cZ q_land q_land_heights q_land_holders q_land_kinds q_land_purses q_land_homes land_told land_low land_high land_price land_hour land_bidders land_heights land_holders land_kinds land_purses land_homes)))) → va_S A s.heap H locs → lv_has ls 9 [(0, .ref q_s), (1, .int v1), (2, .int v2), (3, .int v3), (4, .int v4), (5, .int v5), (6, .int v6_h95), (7, .int v7_h95)] → fX8_purses_L95 rows_items land_price land_heights land_kinds v1 v2 v3 v4 k95_135 n v6_h95 v7_h95 = some res → W p l e (headSpec wsX8_purses rmX8_purses).room s m ([.ref q_s, .int v1, .int v2, .int v3, .int v4, .int v5] : List Value).toArray below meth c H locs 0 0 QQ (F0 m 95 ls []) := by
                  intro k95_135 Kk95_135 n
                  induction n with
                  | zero => intro v6_h95 v7_h95 H locs ls hP hD hS hl h; rw [fX8_purses_L95.eq_1] at h; cases h
                  | succ n ih =>
                    intro v6_h95 v7_h95 H locs ls hP hD hS hl h
                    rw [fX8_purses_L95.eq_2] at h
                    refine lv_iload hx hb dX8_purses_95 (lv_at hl 7 rfl) ?_
                    refine lv_iload hx hb dX8_purses_97 (lv_at hl 4 rfl) ?_
                    refine lv_iconst (v := 1) hx hb dX8_purses_99 (by decide) ?_
                    refine lv_isub hx hb dX8_purses_100 ?_
                    refine lv_icmp_ge (tgt := 135) hx hb dX8_purses_101 (by decide) (fun c_15 => ?_) (fun c_15 => ?_)
                    · have h := (if_pos c_15).symm.trans h
                      exact Kk95_135 v6_h95 _ _ _ hP hD hS (lv_sub hl [0, 1, 2, 3, 4, 5, 6] rfl) h
                    · have h := (if_neg c_15).symm.trans h
                      refine lv_iload hx hb dX8_purses_104 (lv_at hl 6 rfl) ?_
                      refine lv_aload_n hx hb dX8_purses_106 rfl (lv_at hl 0 rfl) ?_
                      refine va_get (D := (dC, dI)) (ci := 6) (v := .ref q_land) (C := RX8) (T := TX8) (N := 10) hx hb hts w_1 hown hK hP 0 rfl rfl 2 (by decide) w_0 (fun _ h9 => h9) rfl dX8_purses_107 ?_
                      refine lv_iload_n hx hb dX8_purses_110 rfl (lv_at hl 1 rfl) ?_
                      refine lv_aload_n hx hb dX8_purses_111 rfl (lv_at hl 0 rfl) ?_
                      refine va_get (D := (dC, dI)) (ci := 6) (v := .ref q_rows) (C := RX8) (T := TX8) (N := 10) hx hb hts w_1 hown hK hP 0 rfl rfl 0 (by decide) w_3 (fun _ h9 => h9) rfl dX8_purses_112 ?_
                      refine lv_iload_n hx hb dX8_purses_115 rfl (lv_at hl 2 rfl) ?_
                      refine lv_iload_n hx hb dX8_purses_116 rfl (lv_at hl 3 rfl) ?_
                      refine lv_iload hx hb dX8_purses_117 (lv_at hl 7 rfl) ?_
                      refine lv_iadd hx hb dX8_purses_119 ?_
                      obtain ⟨r_16, hc_16, h⟩ := bd1_of h
                      refine cl_rV (As := [.int v2, .int (v3 + v7_h95)]) (rest := [.int v1, .ref q_land, .int v6_h95]) ⟨hx, hb, hml, hown, hts⟩ (m_X5_item l dC dI cI cZ q_rows q_rows_lanes q_rows_lengths q_rows_items rows_lanes rows_lengths rows_items v2 (v3 + v7_h95) (r_16) hc_16) (cwV 2 hts gX8_purses_X5_item rfl rfl rfl ⟨rfl, ddX5_item⟩ ⟨Nat.le_of_ble_eq_true rfl, Nat.le_of_ble_eq_true rfl⟩) hK hP [1, 2, 3, 4] rfl rfl rfl rfl rfl hl.1 (Nat.le_of_ble_eq_true rfl) ⟨Nat.zero_le _, Nat.zero_le _⟩ dX8_purses_120 ?_
                      obtain ⟨r_17, hc_17, h⟩ := bd1_of h
                      refine cl_rV (As := [.int v1, .int r_16]) (rest := [.int v6_h95]) ⟨hx, hb, hml, hown, hts⟩ (m_X3_costTo l dC dI cI cZ q_land q_land_heights q_land_holders q_land_kinds q_land_purses q_land_homes land_told land_low land_high land_price land_hour land_bidders land_heights land_holders land_kinds land_purses land_homes v1 r_16 (r_17) hc_17) (cwV 2 hts gX8_purses_X3_costTo rfl rfl rfl ⟨rfl, ddX3_costTo⟩ ⟨Nat.le_of_ble_eq_true rfl, Nat.le_of_ble_eq_true rfl⟩) hK hP [5, 6, 7, 8, 9, 10] rfl rfl rfl rfl rfl hl.1 (Nat.le_of_ble_eq_true rfl) ⟨Nat.zero_le _, Nat.zero_le _⟩ dX8_purses_123 ?_
                      refine lv_iadd hx hb dX8_purses_126 ?_
                      refine lv_istore (lv' := [(6, .int (v6_h95 + r_17)), (0, .ref q_s), (1, .int v1), (2, .int v2), (3, .int v3), (4, .int v4), (5, .int v5), (7, .int v7_h95)]) hx hb dX8_purses_127 hl (by decide) rfl (fun ls hl => ?_)
                      refine lv_iinc (v := (v7_h95 + 1)) (lv' := [(7, .int (v7_h95 + 1)), (6, .int (v6_h95 + r_17)), (0, .ref q_s), (1, .int v1), (2, .int v2), (3, .int v3), (4, .int v4), (5, .int v5)]) hx hb dX8_purses_129 hl (k := 7) rfl rfl (by decide) rfl (fun ls hl => ?_)
                      refine lv_goto (tgt := 95) hx hb dX8_purses_132 (by decide) ?_
                      exact ih (v6_h95 + r_17) (v7_h95 + 1) _ _ _ hP hD hS (lv_sub hl [2, 3, 4, 5, 6, 7, 1, 0] rfl) h
                refine KL95 _ (fun v6_e135 H locs ls hP hD hS hl h => ?_) FU 0 0 _ _ _ hP hD hS (lv_sub hl [2, 3, 4, 5, 6, 7, 1, 0] rfl) h
                refine lv_bipush (v := 99) hx hb dX8_purses_135 (by decide) ?_
                refine lv_iload hx hb dX8_purses_137 (lv_at hl 6 rfl) ?_
                refine lv_aload_n hx hb dX8_purses_139 rfl (lv_at hl 0 rfl) ?_
                refine va_get (D := (dC, dI)) (ci := 6) (v := .ref q_land) (C := RX8) (T := TX8) (N := 10) hx hb hts w_1 hown hK hP 0 rfl rfl 2 (by decide) w_0 (fun _ h9 => h9) rfl dX8_purses_140 ?_
                refine lv_iload_n hx hb dX8_purses_143 rfl (lv_at hl 1 rfl) ?_
                refine lv_aload_n hx hb dX8_purses_144 rfl (lv_at hl 0 rfl) ?_
                refine va_get (D := (dC, dI)) (ci := 6) (v := .ref q_rows) (C := RX8) (T := TX8) (N := 10) hx hb hts w_1 hown hK hP 0 rfl rfl 0 (by decide) w_3 (fun _ h9 => h9) rfl dX8_purses_145 ?_
                refine lv_iload_n hx hb dX8_purses_148 rfl (lv_at hl 2 rfl) ?_
                refine lv_iload_n hx hb dX8_purses_149 rfl (lv_at hl 3 rfl) ?_
                refine lv_iload hx hb dX8_purses_150 (lv_at hl 4 rfl) ?_
                refine lv_iadd hx hb dX8_purses_152 ?_
                refine lv_iconst (v := 1) hx hb dX8_purses_153 (by decide) ?_
                refine lv_isub hx hb dX8_purses_154 ?_
                obtain ⟨r_18, hc_18, h⟩ := bd1_of h
                refine cl_rV (As := [.int v2, .int ((v3 + v4) - 1)]) (rest := [.int v1, .ref q_land, .int v6_e135, .int 99]) ⟨hx, hb, hml, hown, hts⟩ (m_X5_item l dC dI cI cZ q_rows q_rows_lanes q_rows_lengths q_rows_items rows_lanes rows_lengths rows_items v2 ((v3 + v4) - 1) (r_18) hc_18) (cwV 2 hts gX8_purses_X5_item rfl rfl rfl ⟨rfl, ddX5_item⟩ ⟨Nat.le_of_ble_eq_true rfl, Nat.le_of_ble_eq_true rfl⟩) hK hP [1, 2, 3, 4] rfl rfl rfl rfl rfl hl.1 (Nat.le_of_ble_eq_true rfl) ⟨Nat.zero_le _, Nat.zero_le _⟩ dX8_purses_155 ?_
                obtain ⟨r_19, hc_19, h⟩ := bd1_of h
                refine cl_rV (As := [.int v1, .int r_18]) (rest := [.int v6_e135, .int 99]) ⟨hx, hb, hml, hown, hts⟩ (m_X3_costTo l dC dI cI cZ q_land q_land_heights q_land_holders q_land_kinds q_land_purses q_land_homes land_told land_low land_high land_price land_hour land_bidders land_heights land_holders land_kinds land_purses land_homes v1 r_18 (r_19) hc_19) (cwV 2 hts gX8_purses_X3_costTo rfl rfl rfl ⟨rfl, ddX3_costTo⟩ ⟨Nat.le_of_ble_eq_true rfl, Nat.le_of_ble_eq_true rfl⟩) hK hP [5, 6, 7, 8, 9, 10] rfl rfl rfl rfl rfl hl.1 (Nat.le_of_ble_eq_true rfl) ⟨Nat.zero_le _, Nat.zero_le _⟩ dX8_purses_158 ?_
                refine lv_iadd hx hb dX8_purses_161 ?_
                refine lv_iconst (v := 1) hx hb dX8_purses_162 (by decide) ?_
                refine lv_isub hx hb dX8_purses_163 ?_
                refine va_mmin hx hb (hml.trans hl.1.symm) hown w_4 w_5 w_6 w_7 (Nat.le_of_ble_eq_true rfl) (Nat.le_of_ble_eq_true rfl) (Nat.zero_le _) (Nat.zero_le _) dX8_purses_164 ?_
                refine lv_istore (lv' := [(7, .int (imin 99 ((v6_e135 + r_19) - 1))), (0, .ref q_s), (1, .int v1), (2, .int v2), (3, .int v3), (4, .int v4), (5, .int v5), (6, .int v6_e135)]) hx hb dX8_purses_167 hl (by decide) rfl (fun ls hl => ?_)
                refine lv_iconst (v := 0) hx hb dX8_purses_169 (by decide) ?_
                refine lv_iload hx hb dX8_purses_170 (lv_at hl 0 rfl) ?_
                refine lv_iload hx hb dX8_purses_172 (lv_at hl 7 rfl) ?_
                refine lv_isub hx hb dX8_purses_174 ?_
                refine lv_iconst (v := 1) hx hb dX8_purses_175 (by decide) ?_
                refine lv_iadd hx hb dX8_purses_176 ?_
                refine va_mmax hx hb (hml.trans hl.1.symm) hown w_8 w_9 w_6 w_10 (Nat.le_of_ble_eq_true rfl) (Nat.le_of_ble_eq_true rfl) (Nat.zero_le _) (Nat.zero_le _) dX8_purses_177 ?_
                refine lv_istore (lv' := [(8, .int (imax 0 (((imin 99 ((v6_e135 + r_19) - 1)) - v6_e135) + 1))), (7, .int (imin 99 ((v6_e135 + r_19) - 1))), (0, .ref q_s), (1, .int v1), (2, .int v2), (3, .int v3), (4, .int v4), (5, .int v5), (6, .int v6_e135)]) hx hb dX8_purses_180 hl (by decide) rfl (fun ls hl => ?_)
                refine lv_iload hx hb dX8_purses_182 (lv_at hl 7 rfl) ?_
                refine lv_if_ne (tgt := 194) hx hb dX8_purses_184 (by decide) (fun c_20 => ?_) (fun c_20 => ?_)
                · have h := (if_neg c_20).symm.trans h
                  refine lv_aload_n hx hb dX8_purses_194 rfl (lv_at hl 2 rfl) ?_
                  refine lv_iload hx hb dX8_purses_195 (lv_at hl 0 rfl) ?_
                  refine lv_if_le (tgt := 205) hx hb dX8_purses_197 (by decide) (fun c_21 => ?_) (fun c_21 => ?_)
                  · have h := (if_pos c_21).symm.trans h
                    refine lv_ldc hx hb hown w_11 dX8_purses_205 ?_
                    obtain ⟨r_22, s_finding_22, hc_22, h⟩ := bd2_of h
                    refine cl_mVi (As := [.int (-1000000)]) (rest := []) (ws' := (W_X cI cZ q_s q_rows q_tape q_land q_spare q_firstImage q_secondImage q_acts q_basket q_asks s_finding_22) ++ ((W_Rows cI cZ q_rows q_rows_lanes q_rows_lengths q_rows_items rows_lanes rows_lengths rows_items) ++ ((W_Isle cI cZ q_land q_land_heights q_land_holders q_land_kinds q_land_purses q_land_homes land_told land_low land_high land_price land_hour land_bidders land_heights land_holders land_kinds land_purses land_homes)))) (wr := (W_Rows cI cZ q_rows q_rows_lanes q_rows_lengths q_rows_items rows_lanes rows_lengths rows_items) ++ ((W_Isle cI cZ q_land q_land_heights q_land_holders q_land_kinds q_land_purses q_land_homes land_told land_low land_high land_price land_hour land_bidders land_heights land_holders land_kinds land_purses land_homes))) ⟨hx, hb, hml, hown, hts⟩ (m_X8_unfound l dC dI cI cZ q_s q_rows q_tape q_land q_spare q_firstImage q_secondImage q_acts q_basket q_asks s_finding (-1000000) _ (r_22, s_finding_22) hc_22) (cwV 1 hts gX8_purses_X8_unfound rfl rfl rfl ⟨rfl, ddX8_unfound⟩ ⟨Nat.le_of_ble_eq_true rfl, Nat.le_of_ble_eq_true rfl⟩) hK hP hD hS hA [0] [1, 2, 3, 4, 5, 6, 7, 8, 9, 10] rfl rfl rfl rfl (by decide) [10, 0, 1, 2, 3, 4, 5, 6, 7, 8, 9] rfl rfl rfl rfl rfl rfl rfl hl.1 (Nat.le_of_ble_eq_true rfl) ⟨Nat.zero_le _, Nat.zero_le _⟩ dX8_purses_207 (fun H locs hP hD hS => ?_)
                    have h := Option.some.inj h
                    subst h
                    rw [hQQ]
                    subst hAe
                    exact W.iret (v := r_22) hx hb hr (fun t ht hW => ⟨⟨_, (), rfl, rfl, by rw [ht]; exact hP, va_K.moved hW.alike hK, hD⟩, hS.F ht⟩) hS.2.2 dX8_purses_210
                  · have h := (if_neg c_21).symm.trans h
                    refine lv_iload hx hb dX8_purses_200 (lv_at hl 8 rfl) ?_
                    refine lv_goto (tgt := 207) hx hb dX8_purses_202 (by decide) ?_
                    obtain ⟨r_23, s_finding_23, hc_23, h⟩ := bd2_of h
                    refine cl_mVi (As := [.int v6_e135]) (rest := []) (ws' := (W_X cI cZ q_s q_rows q_tape q_land q_spare q_firstImage q_secondImage q_acts q_basket q_asks s_finding_23) ++ ((W_Rows cI cZ q_rows q_rows_lanes q_rows_lengths q_rows_items rows_lanes rows_lengths rows_items) ++ ((W_Isle cI cZ q_land q_land_heights q_land_holders q_land_kinds q_land_purses q_land_homes land_told land_low land_high land_price land_hour land_bidders land_heights land_holders land_kinds land_purses land_homes)))) (wr := (W_Rows cI cZ q_rows q_rows_lanes q_rows_lengths q_rows_items rows_lanes rows_lengths rows_items) ++ ((W_Isle cI cZ q_land q_land_heights q_land_holders q_land_kinds q_land_purses q_land_homes land_told land_low land_high land_price land_hour land_bidders land_heights land_holders land_kinds land_purses land_homes))) ⟨hx, hb, hml, hown, hts⟩ (m_X8_unfound l dC dI cI cZ q_s q_rows q_tape q_land q_spare q_firstImage q_secondImage q_acts q_basket q_asks s_finding v6_e135 _ (r_23, s_finding_23) hc_23) (cwV 1 hts gX8_purses_X8_unfound rfl rfl rfl ⟨rfl, ddX8_unfound⟩ ⟨Nat.le_of_ble_eq_true rfl, Nat.le_of_ble_eq_true rfl⟩) hK hP hD hS hA [0] [1, 2, 3, 4, 5, 6, 7, 8, 9, 10] rfl rfl rfl rfl (by decide) [10, 0, 1, 2, 3, 4, 5, 6, 7, 8, 9] rfl rfl rfl rfl rfl rfl rfl hl.1 (Nat.le_of_ble_eq_true rfl) ⟨Nat.zero_le _, Nat.zero_le _⟩ dX8_purses_207 (fun H locs hP hD hS => ?_)
                    have h := Option.some.inj h
                    subst h
                    rw [hQQ]
                    subst hAe
                    exact W.iret (v := r_23) hx hb hr (fun t ht hW => ⟨⟨_, (), rfl, rfl, by rw [ht]; exact hP, va_K.moved hW.alike hK, hD⟩, hS.F ht⟩) hS.2.2 dX8_purses_210
                · have h := (if_pos c_20).symm.trans h
                  refine lv_aload_n hx hb dX8_purses_187 rfl (lv_at hl 2 rfl) ?_
                  refine lv_iload hx hb dX8_purses_188 (lv_at hl 0 rfl) ?_
                  obtain ⟨r_24, s_finding_24, hc_24, h⟩ := bd2_of h
                  refine cl_mVi (As := [.int (imax 0 (((imin 99 ((v6_e135 + r_19) - 1)) - v6_e135) + 1))]) (rest := []) (ws' := (W_X cI cZ q_s q_rows q_tape q_land q_spare q_firstImage q_secondImage q_acts q_basket q_asks s_finding_24) ++ ((W_Rows cI cZ q_rows q_rows_lanes q_rows_lengths q_rows_items rows_lanes rows_lengths rows_items) ++ ((W_Isle cI cZ q_land q_land_heights q_land_holders q_land_kinds q_land_purses q_land_homes land_told land_low land_high land_price land_hour land_bidders land_heights land_holders land_kinds land_purses land_homes)))) (wr := (W_Rows cI cZ q_rows q_rows_lanes q_rows_lengths q_rows_items rows_lanes rows_lengths rows_items) ++ ((W_Isle cI cZ q_land q_land_heights q_land_holders q_land_kinds q_land_purses q_land_homes land_told land_low land_high land_price land_hour land_bidders land_heights land_holders land_kinds land_purses land_homes))) ⟨hx, hb, hml, hown, hts⟩ (m_X8_unfound l dC dI cI cZ q_s q_rows q_tape q_land q_spare q_firstImage q_secondImage q_acts q_basket q_asks s_finding (imax 0 (((imin 99 ((v6_e135 + r_19) - 1)) - v6_e135) + 1)) _ (r_24, s_finding_24) hc_24) (cwV 1 hts gX8_purses_X8_unfound rfl rfl rfl ⟨rfl, ddX8_unfound⟩ ⟨Nat.le_of_ble_eq_true rfl, Nat.le_of_ble_eq_true rfl⟩) hK hP hD hS hA [0] [1, 2, 3, 4, 5, 6, 7, 8, 9, 10] rfl rfl rfl rfl (by decide) [10, 0, 1, 2, 3, 4, 5, 6, 7, 8, 9] rfl rfl rfl rfl rfl rfl rfl hl.1 (Nat.le_of_ble_eq_true rfl) ⟨Nat.zero_le _, Nat.zero_le _⟩ dX8_purses_190 (fun H locs hP hD hS => ?_)
                  have h := Option.some.inj h
                  subst h
                  rw [hQQ]
                  subst hAe
                  exact W.iret (v := r_24) hx hb hr (fun t ht hW => ⟨⟨_, (), rfl, rfl, by rw [ht]; exact hP, va_K.moved hW.alike hK, hD⟩, hS.F ht⟩) hS.2.2 dX8_purses_193
              · have h := (if_pos c_14).symm.trans h
                refine lv_ldc hx hb hown w_2 dX8_purses_86 ?_
                have h := Option.some.inj h
                subst h
                rw [hQQ]
                subst hAe
                exact W.iret (v := (-1000001)) hx hb hr (fun t ht hW => ⟨⟨_, (), rfl, rfl, by rw [ht]; exact hP, va_K.moved hW.alike hK, hD⟩, hS.F ht⟩) hS.2.2 dX8_purses_88
            · have h := (if_pos c_12).symm.trans h
              refine lv_aload_n hx hb dX8_purses_68 rfl (lv_at hl 0 rfl) ?_
              refine lv_iconst (v := 2) hx hb dX8_purses_69 (by decide) ?_
              obtain ⟨r_25, s_finding_25, hc_25, h⟩ := bd2_of h
              refine cl_mVi (As := [.int 2]) (rest := []) (ws' := (W_X cI cZ q_s q_rows q_tape q_land q_spare q_firstImage q_secondImage q_acts q_basket q_asks s_finding_25) ++ ((W_Rows cI cZ q_rows q_rows_lanes q_rows_lengths q_rows_items rows_lanes rows_lengths rows_items) ++ ((W_Isle cI cZ q_land q_land_heights q_land_holders q_land_kinds q_land_purses q_land_homes land_told land_low land_high land_price land_hour land_bidders land_heights land_holders land_kinds land_purses land_homes)))) (wr := (W_Rows cI cZ q_rows q_rows_lanes q_rows_lengths q_rows_items rows_lanes rows_lengths rows_items) ++ ((W_Isle cI cZ q_land q_land_heights q_land_holders q_land_kinds q_land_purses q_land_homes land_told land_low land_high land_price land_hour land_bidders land_heights land_holders land_kinds land_purses land_homes))) ⟨hx, hb, hml, hown, hts⟩ (m_X8_found l dC dI cI cZ q_s q_rows q_tape q_land q_spare q_firstImage q_secondImage q_acts q_basket q_asks s_finding 2 _ (r_25, s_finding_25) hc_25) (cwV 1 hts gX8_purses_X8_found rfl rfl rfl ⟨rfl, ddX8_found⟩ ⟨Nat.le_of_ble_eq_true rfl, Nat.le_of_ble_eq_true rfl⟩) hK hP hD hS hA [0] [1, 2, 3, 4, 5, 6, 7, 8, 9, 10] rfl rfl rfl rfl (by decide) [10, 0, 1, 2, 3, 4, 5, 6, 7, 8, 9] rfl rfl rfl rfl rfl rfl rfl hl.1 (Nat.le_of_ble_eq_true rfl) ⟨Nat.zero_le _, Nat.zero_le _⟩ dX8_purses_70 (fun H locs hP hD hS => ?_)
              have h := Option.some.inj h
              subst h
              rw [hQQ]
              subst hAe
              exact W.iret (v := r_25) hx hb hr (fun t ht hW => ⟨⟨_, (), rfl, rfl, by rw [ht]; exact hP, va_K.moved hW.alike hK, hD⟩, hS.F ht⟩) hS.2.2 dX8_purses_73
          · have h := (if_neg c_10).symm.trans h
            refine lv_aload_n hx hb dX8_purses_48 rfl (lv_at hl 0 rfl) ?_
            refine lv_iconst (v := 1) hx hb dX8_purses_49 (by decide) ?_
            obtain ⟨r_26, s_finding_26, hc_26, h⟩ := bd2_of h
            refine cl_mVi (As := [.int 1]) (rest := []) (ws' := (W_X cI cZ q_s q_rows q_tape q_land q_spare q_firstImage q_secondImage q_acts q_basket q_asks s_finding_26) ++ ((W_Rows cI cZ q_rows q_rows_lanes q_rows_lengths q_rows_items rows_lanes rows_lengths rows_items) ++ ((W_Isle cI cZ q_land q_land_heights q_land_holders q_land_kinds q_land_purses q_land_homes land_told land_low land_high land_price land_hour land_bidders land_heights land_holders land_kinds land_purses land_homes)))) (wr := (W_Rows cI cZ q_rows q_rows_lanes q_rows_lengths q_rows_items rows_lanes rows_lengths rows_items) ++ ((W_Isle cI cZ q_land q_land_heights q_land_holders q_land_kinds q_land_purses q_land_homes land_told land_low land_high land_price land_hour land_bidders land_heights land_holders land_kinds land_purses land_homes))) ⟨hx, hb, hml, hown, hts⟩ (m_X8_found l dC dI cI cZ q_s q_rows q_tape q_land q_spare q_firstImage q_secondImage q_acts q_basket q_asks s_finding 1 _ (r_26, s_finding_26) hc_26) (cwV 1 hts gX8_purses_X8_found rfl rfl rfl ⟨rfl, ddX8_found⟩ ⟨Nat.le_of_ble_eq_true rfl, Nat.le_of_ble_eq_true rfl⟩) hK hP hD hS hA [0] [1, 2, 3, 4, 5, 6, 7, 8, 9, 10] rfl rfl rfl rfl (by decide) [10, 0, 1, 2, 3, 4, 5, 6, 7, 8, 9] rfl rfl rfl rfl rfl rfl rfl hl.1 (Nat.le_of_ble_eq_true rfl) ⟨Nat.zero_le _, Nat.zero_le _⟩ dX8_purses_50 (fun H locs hP hD hS => ?_)
            have h := Option.some.inj h
            subst h
            rw [hQQ]
            subst hAe
            exact W.iret (v := r_26) hx hb hr (fun t ht hW => ⟨⟨_, (), rfl, rfl, by rw [ht]; exact hP, va_K.moved hW.alike hK, hD⟩, hS.F ht⟩) hS.2.2 dX8_purses_53
        · have h := (if_pos c_8).symm.trans h
          refine lv_ldc hx hb hown w_2 dX8_purses_34 ?_
          have h := Option.some.inj h
          subst h
          rw [hQQ]
          subst hAe
          exact W.iret (v := (-1000001)) hx hb hr (fun t ht hW => ⟨⟨_, (), rfl, rfl, by rw [ht]; exact hP, va_K.moved hW.alike hK, hD⟩, hS.F ht⟩) hS.2.2 dX8_purses_36
def fX8_drawn (land_told : Int32) (land_low : Int32) (land_high : Int32) (land_price : Int32) (land_hour : Int32) (land_bidders : Int32) (land_heights : (Nat → Int32)) (land_holders : (Nat → Int32)) (land_kinds : (Nat → Int32)) (land_purses : (Nat → Int32)) (land_homes : (Nat → Int32)) (spare_told : Int32) (spare_low : Int32) (spare_high : Int32) (spare_price : Int32) (spare_hour : Int32) (spare_bidders : Int32) (spare_heights : (Nat → Int32)) (spare_holders : (Nat → Int32)) (spare_kinds : (Nat → Int32)) (spare_purses : (Nat → Int32)) (spare_homes : (Nat → Int32)) (v1 : Int32) (v2 : Int32) (v3 : Int32) : Option (Int32 × Int32 × Int32 × Int32 × Int32 × Int32 × Int32 × (Nat → Int32) × (Nat → Int32) × (Nat → Int32) × (Nat → Int32) × (Nat → Int32)) :=
  bd1 (fX3_isTold land_told) (fun r_1 => (if r_1 = 0 then some ((-1000002), spare_told, spare_low, spare_high, spare_price, spare_hour, spare_bidders, spare_heights, spare_holders, spare_kinds, spare_purses, spare_homes) else (if v1 < 0 then some ((-1000001), spare_told, spare_low, spare_high, spare_price, spare_hour, spare_bidders, spare_heights, spare_holders, spare_kinds, spare_purses, spare_homes) else (if 60 < v1 then some ((-1000001), spare_told, spare_low, spare_high, spare_price, spare_hour, spare_bidders, spare_heights, spare_holders, spare_kinds, spare_purses, spare_homes) else (if v2 < 1 then some ((-1000001), spare_told, spare_low, spare_high, spare_price, spare_hour, spare_bidders, spare_heights, spare_holders, spare_kinds, spare_purses, spare_homes) else (if 999999 < v2 then some ((-1000001), spare_told, spare_low, spare_high, spare_price, spare_hour, spare_bidders, spare_heights, spare_holders, spare_kinds, spare_purses, spare_homes) else bd1 (fX8_isChoice v3) (fun r_7 => (if r_7 = 0 then some ((-1000001), spare_told, spare_low, spare_high, spare_price, spare_hour, spare_bidders, spare_heights, spare_holders, spare_kinds, spare_purses, spare_homes) else bd11 (fX3_become spare_heights spare_holders spare_kinds spare_purses spare_homes land_told land_low land_high land_price land_hour land_bidders land_heights land_holders land_kinds land_purses land_homes) (fun spare_told_9 spare_low_9 spare_high_9 spare_price_9 spare_hour_9 spare_bidders_9 spare_heights_9 spare_holders_9 spare_kinds_9 spare_purses_9 spare_homes_9 => bd3 (fX3_passDrawnHours spare_low_9 spare_high_9 spare_price_9 spare_hour_9 spare_bidders_9 spare_heights_9 spare_holders_9 spare_kinds_9 spare_purses_9 v1 v2) (fun spare_hour_10 spare_holders_10 spare_purses_10 => (if v3 = 0 then bd1 (fX3_heldCells spare_holders_10) (fun r_13 => bd1 (fJ6_bitCount_0f7a4 r_13) (fun r_14 => some (r_14, spare_told_9, spare_low_9, spare_high_9, spare_price_9, spare_hour_10, spare_bidders_9, spare_heights_9, spare_holders_10, spare_kinds_9, spare_purses_10, spare_homes_9))) else bd1 (fX3_allPurses spare_bidders_9 spare_purses_10) (fun r_12 => some (r_12, spare_told_9, spare_low_9, spare_high_9, spare_price_9, spare_hour_10, spare_bidders_9, spare_heights_9, spare_holders_10, spare_kinds_9, spare_purses_10, spare_homes_9)))))))))))))
abbrev rmX8_drawn : Room := { frames := 5, cells := 0, slots := 0, locals := 115 }
theorem ddX8_drawn : yX8_drawn.cls ≠ "java/lang/invoke/MethodHandle" ∧ yX8_drawn.cls ≠ "java/lang/invoke/VarHandle" ∧ (parseMethodDescriptor yX8_drawn.desc).map (fun d => d.parameters.length) = some 3 := by decide +kernel
set_option maxHeartbeats 4000000 in
set_option maxRecDepth 100000 in
theorem m_X8_drawn (l : Launch) (dC : Nat → ClassId) (dI : Nat → Nat → Nat) (cI cZ : ClassId) (q_s q_rows q_tape q_land q_spare q_firstImage q_secondImage q_acts q_basket q_asks q_land q_land_heights q_land_holders q_land_kinds q_land_purses q_land_homes q_spare q_spare_heights q_spare_holders q_spare_kinds q_spare_purses q_spare_homes : Nat) (s_finding : Int32) (land_told : Int32) (land_low : Int32) (land_high : Int32) (land_price : Int32) (land_hour : Int32) (land_bidders : Int32) (land_heights : (Nat → Int32)) (land_holders : (Nat → Int32)) (land_kinds : (Nat → Int32)) (land_purses : (Nat → Int32)) (land_homes : (Nat → Int32)) (spare_told : Int32) (spare_low : Int32) (spare_high : Int32) (spare_price : Int32) (spare_hour : Int32) (spare_bidders : Int32) (spare_heights : (Nat → Int32)) (spare_holders : (Nat → Int32)) (spare_kinds : (Nat → Int32)) (spare_purses : (Nat → Int32)) (spare_homes : (Nat → Int32)) (v1 : Int32) (v2 : Int32) (v3 : Int32) (sz : Nat) (res : Int32 × Int32 × Int32 × Int32 × Int32 × Int32 × Int32 × (Nat → Int32) × (Nat → Int32) × (Nat → Int32) × (Nat → Int32) × (Nat → Int32)) (hf : fX8_drawn land_told land_low land_high land_price land_hour land_bidders land_heights land_holders land_kinds land_purses land_homes spare_told spare_low spare_high spare_price spare_hour spare_bidders spare_heights spare_holders spare_kinds spare_purses spare_homes v1 v2 v3 = some res) : Met l yX8_drawn wsX8_drawn rmX8_drawn (mtPc (dC, dI) (tyZ cI cZ) ((W_X cI cZ q_s q_rows q_tape q_land q_spare q_firstImage q_secondImage q_acts q_basket q_asks s_finding) ++ ((W_Isle cI cZ q_land q_land_heights q_land_holders q_land_kinds q_land_purses q_land_homes land_told land_low land_high land_price land_hour land_bidders land_heights land_holders land_kinds land_purses land_homes) ++ ((W_Isle cI cZ q_spare q_spare_heights q_spare_holders q_spare_kinds q_spare_purses q_spare_homes spare_told spare_low spare_high spare_price spare_hour spare_bidders spare_heights spare_holders spare_kinds spare_purses spare_homes)))) [.ref q_s, .int v1, .int v2, .int v3] sz) (mtQi (dC, dI) (tyZ cI cZ) ((W_X cI cZ q_s q_rows q_tape q_land q_spare q_firstImage q_secondImage q_acts q_basket q_asks s_finding) ++ ((W_Isle cI cZ q_land q_land_heights q_land_holders q_land_kinds q_land_purses q_land_homes land_told land_low land_high land_price land_hour land_bidders land_heights land_holders land_kinds land_purses land_homes) ++ ((W_Isle cI cZ q_spare q_spare_heights q_spare_holders q_spare_kinds q_spare_purses q_spare_homes spare_told spare_low spare_high spare_price spare_hour spare_bidders spare_heights spare_holders spare_kinds spare_purses spare_homes)))) ((W_X cI cZ q_s q_rows q_tape q_land q_spare q_firstImage q_secondImage q_acts q_basket q_asks s_finding) ++ ((W_Isle cI cZ q_land q_land_heights q_land_holders q_land_kinds q_land_purses q_land_homes land_told land_low land_high land_price land_hour land_bidders land_heights land_holders land_kinds land_purses land_homes) ++ ((W_Isle cI cZ q_spare q_spare_heights q_spare_holders q_spare_kinds q_spare_purses q_spare_homes res.2.1 res.2.2.1 res.2.2.2.1 res.2.2.2.2.1 res.2.2.2.2.2.1 res.2.2.2.2.2.2.1 res.2.2.2.2.2.2.2.1 res.2.2.2.2.2.2.2.2.1 res.2.2.2.2.2.2.2.2.2.1 res.2.2.2.2.2.2.2.2.2.2.1 res.2.2.2.2.2.2.2.2.2.2.2)))) res.1 sz) 0 0 (va_A ((W_X cI cZ q_s q_rows q_tape q_land q_spare q_firstImage q_secondImage q_acts q_basket q_asks s_finding) ++ ((W_Isle cI cZ q_land q_land_heights q_land_holders q_land_kinds q_land_purses q_land_homes land_told land_low land_high land_price land_hour land_bidders land_heights land_holders land_kinds land_purses land_homes) ++ ((W_Isle cI cZ q_spare q_spare_heights q_spare_holders q_spare_kinds q_spare_purses q_spare_homes spare_told spare_low spare_high spare_price spare_hour spare_bidders spare_heights spare_holders spare_kinds spare_purses spare_homes)))) sz) := by
  refine Met.ofW (cc := cX8_drawn) (maxL := 4) (ret := (some .int)) (by decide) rfl ?_
  intro p e s m args below meth c s₁ B hml hv
  obtain ⟨rfl, hsz, hP, hK, hD0⟩ := hv
  have hx := B.exec
  have hb := B.bytes
  have hr := B.returns
  have hts := atoms_spec (ws := wsX8_drawn) B.pre
  have hown : s.vm.findClass RX8 = some m.cls := findClass_of_methodNamed B.named
  have hlocks := B.notSynchronized
  subst hsz
  have hD := hD0.self (sz := s.heap.size)
  obtain ⟨A, hAe⟩ : ∃ A, A = va_A ((W_X cI cZ q_s q_rows q_tape q_land q_spare q_firstImage q_secondImage q_acts q_basket q_asks s_finding) ++ ((W_Isle cI cZ q_land q_land_heights q_land_holders q_land_kinds q_land_purses q_land_homes land_told land_low land_high land_price land_hour land_bidders land_heights land_holders land_kinds land_purses land_homes) ++ ((W_Isle cI cZ q_spare q_spare_heights q_spare_holders q_spare_kinds q_spare_purses q_spare_homes spare_told spare_low spare_high spare_price spare_hour spare_bidders spare_heights spare_holders spare_kinds spare_purses spare_homes)))) s.heap.size := ⟨_, rfl⟩
  rw [← hAe] at hD
  have hA : ∀ q : Nat, s.heap.size ≤ q → A q := fun q h => by rw [hAe]; exact Or.inr h
  have hS : va_S A s.heap s.heap [] := va_S.rf
  have hl := lv_entry ([.ref q_s, .int v1, .int v2, .int v3]) (n := 4) (Nat.le_of_ble_eq_true rfl)
  rw [lg_entry_eq]
  generalize (lg_sl ([.ref q_s, .int v1, .int v2, .int v3]) ++ List.replicate (4 - (lg_sl ([.ref q_s, .int v1, .int v2, .int v3])).length) Slot.unset).toArray = ls at hl ⊢
  have hl : lv_has ls 4 [(0, .ref q_s), (1, .int v1), (2, .int v2), (3, .int v3)] := hl
  obtain ⟨QQ, hQQ⟩ : ∃ Q, Q = MQ below (mtQi (dC, dI) (tyZ cI cZ) ((W_X cI cZ q_s q_rows q_tape q_land q_spare q_firstImage q_secondImage q_acts q_basket q_asks s_finding) ++ ((W_Isle cI cZ q_land q_land_heights q_land_holders q_land_kinds q_land_purses q_land_homes land_told land_low land_high land_price land_hour land_bidders land_heights land_holders land_kinds land_purses land_homes) ++ ((W_Isle cI cZ q_spare q_spare_heights q_spare_holders q_spare_kinds q_spare_purses q_spare_homes spare_told spare_low spare_high spare_price spare_hour spare_bidders spare_heights spare_holders spare_kinds spare_purses spare_homes)))) ((W_X cI cZ q_s q_rows q_tape q_land q_spare q_firstImage q_secondImage q_acts q_basket q_asks s_finding) ++ ((W_Isle cI cZ q_land q_land_heights q_land_holders q_land_kinds q_land_purses q_land_homes land_told land_low land_high land_price land_hour land_bidders land_heights land_holders land_kinds land_purses land_homes) ++ ((W_Isle cI cZ q_spare q_spare_heights q_spare_holders q_spare_kinds q_spare_purses q_spare_homes res.2.1 res.2.2.1 res.2.2.2.1 res.2.2.2.2.1 res.2.2.2.2.2.1 res.2.2.2.2.2.2.1 res.2.2.2.2.2.2.2.1 res.2.2.2.2.2.2.2.2.1 res.2.2.2.2.2.2.2.2.2.1 res.2.2.2.2.2.2.2.2.2.2.1 res.2.2.2.2.2.2.2.2.2.2.2)))) res.1 s.heap.size) ([.ref q_s, .int v1, .int v2, .int v3] : List Value).toArray s 0 0 (va_A ((W_X cI cZ q_s q_rows q_tape q_land q_spare q_firstImage q_secondImage q_acts q_basket q_asks s_finding) ++ ((W_Isle cI cZ q_land q_land_heights q_land_holders q_land_kinds q_land_purses q_land_homes land_told land_low land_high land_price land_hour land_bidders land_heights land_holders land_kinds land_purses land_homes) ++ ((W_Isle cI cZ q_spare q_spare_heights q_spare_holders q_spare_kinds q_spare_purses q_spare_homes spare_told spare_low spare_high spare_price spare_hour spare_bidders spare_heights spare_holders spare_kinds spare_purses spare_homes)))) s.heap.size) := ⟨_, rfl⟩
  rw [← hQQ]
  have w_0 := hts (Cond.fieldLink RX8 26 "TideInches" "land" "LTideInches$Isle;") (List.mem_of_getElem? (i := 1) rfl)
  have w_1 := (fun w hw => List.mem_cons_of_mem _ (List.mem_append_left _ (List.mem_append_right _ hw)) : ∀ w ∈ wsX80, w ∈ wsX8_drawn)
  have w_2 := hts (Cond.constant RX8 68 (-1000001)) (List.mem_of_getElem? (i := 4) rfl)
  have w_3 := hts (Cond.constant RX8 282 (999999)) (List.mem_of_getElem? (i := 3) rfl)
  have w_4 := hts (Cond.fieldLink RX8 30 "TideInches" "spare" "LTideInches$Isle;") (List.mem_of_getElem? (i := 5) rfl)
  have w_5 := hts (Cond.constant RX8 136 (-1000002)) (List.mem_of_getElem? (i := 2) rfl)
  have h := hf
  unfold fX8_drawn at h
  refine lv_aload_n hx hb dX8_drawn_0 rfl (lv_at hl 0 rfl) ?_
  refine va_get (D := (dC, dI)) (ci := 6) (v := .ref q_land) (C := RX8) (T := TX8) (N := 10) hx hb hts w_1 hown hK hP 0 rfl rfl 2 (by decide) w_0 (fun _ h9 => h9) rfl dX8_drawn_1 ?_
  obtain ⟨r_1, hc_1, h⟩ := bd1_of h
  refine cl_rV (As := []) (rest := []) ⟨hx, hb, hml, hown, hts⟩ (m_X3_isTold l dC dI cI cZ q_land q_land_heights q_land_holders q_land_kinds q_land_purses q_land_homes land_told land_low land_high land_price land_hour land_bidders land_heights land_holders land_kinds land_purses land_homes (r_1) hc_1) (cwV 0 hts gX8_drawn_X3_isTold rfl rfl rfl ⟨rfl, ddX3_isTold⟩ ⟨Nat.le_of_ble_eq_true rfl, Nat.le_of_ble_eq_true rfl⟩) hK hP [1, 2, 3, 4, 5, 6] rfl rfl rfl rfl rfl hl.1 (Nat.le_of_ble_eq_true rfl) ⟨Nat.zero_le _, Nat.zero_le _⟩ dX8_drawn_4 ?_
  refine lv_if_ne (tgt := 13) hx hb dX8_drawn_7 (by decide) (fun c_2 => ?_) (fun c_2 => ?_)
  · have h := (if_neg c_2).symm.trans h
    refine lv_iload_n hx hb dX8_drawn_13 rfl (lv_at hl 1 rfl) ?_
    refine lv_if_lt (tgt := 42) hx hb dX8_drawn_14 (by decide) (fun c_3 => ?_) (fun c_3 => ?_)
    · have h := (if_pos c_3).symm.trans h
      refine lv_ldc hx hb hown w_2 dX8_drawn_42 ?_
      have h := Option.some.inj h
      subst h
      rw [hQQ]
      subst hAe
      exact W.iret (v := (-1000001)) hx hb hr (fun t ht hW => ⟨⟨_, (), rfl, rfl, by rw [ht]; exact hP, va_K.moved hW.alike hK, hD⟩, hS.F ht⟩) hS.2.2 dX8_drawn_44
    · have h := (if_neg c_3).symm.trans h
      refine lv_iload_n hx hb dX8_drawn_17 rfl (lv_at hl 1 rfl) ?_
      refine lv_bipush (v := 60) hx hb dX8_drawn_18 (by decide) ?_
      refine lv_icmp_gt (tgt := 42) hx hb dX8_drawn_20 (by decide) (fun c_4 => ?_) (fun c_4 => ?_)
      · have h := (if_pos c_4).symm.trans h
        refine lv_ldc hx hb hown w_2 dX8_drawn_42 ?_
        have h := Option.some.inj h
        subst h
        rw [hQQ]
        subst hAe
        exact W.iret (v := (-1000001)) hx hb hr (fun t ht hW => ⟨⟨_, (), rfl, rfl, by rw [ht]; exact hP, va_K.moved hW.alike hK, hD⟩, hS.F ht⟩) hS.2.2 dX8_drawn_44
      · have h := (if_neg c_4).symm.trans h
        refine lv_iload_n hx hb dX8_drawn_23 rfl (lv_at hl 2 rfl) ?_
        refine lv_iconst (v := 1) hx hb dX8_drawn_24 (by decide) ?_
        refine lv_icmp_lt (tgt := 42) hx hb dX8_drawn_25 (by decide) (fun c_5 => ?_) (fun c_5 => ?_)
        · have h := (if_pos c_5).symm.trans h
          refine lv_ldc hx hb hown w_2 dX8_drawn_42 ?_
          have h := Option.some.inj h
          subst h
          rw [hQQ]
          subst hAe
          exact W.iret (v := (-1000001)) hx hb hr (fun t ht hW => ⟨⟨_, (), rfl, rfl, by rw [ht]; exact hP, va_K.moved hW.alike hK, hD⟩, hS.F ht⟩) hS.2.2 dX8_drawn_44
        · have h := (if_neg c_5).symm.trans h
          refine lv_iload_n hx hb dX8_drawn_28 rfl (lv_at hl 2 rfl) ?_
          refine lv_ldcw hx hb hown w_3 dX8_drawn_29 ?_
          refine lv_icmp_gt (tgt := 42) hx hb dX8_drawn_32 (by decide) (fun c_6 => ?_) (fun c_6 => ?_)
          · have h := (if_pos c_6).symm.trans h
            refine lv_ldc hx hb hown w_2 dX8_drawn_42 ?_
            have h := Option.some.inj h
            subst h
            rw [hQQ]
            subst hAe
            exact W.iret (v := (-1000001)) hx hb hr (fun t ht hW => ⟨⟨_, (), rfl, rfl, by rw [ht]; exact hP, va_K.moved hW.alike hK, hD⟩, hS.F ht⟩) hS.2.2 dX8_drawn_44
          · have h := (if_neg c_6).symm.trans h
            refine lv_iload_n hx hb dX8_drawn_35 rfl (lv_at hl 3 rfl) ?_
            obtain ⟨r_7, hc_7, h⟩ := bd1_of h
            refine cl_pS (As := [.int v3]) (rest := []) ⟨hx, hb, hml, hown, hts⟩ (m_X8_isChoice l v3 (r_7) hc_7) (va_cwS 1 hts gX8_drawn_X8_isChoice rfl rfl rfl ddX8_isChoice ⟨Nat.le_of_ble_eq_true rfl, Nat.le_of_ble_eq_true rfl⟩) rfl rfl hl.1 (Nat.le_of_ble_eq_true rfl) ⟨Nat.zero_le _, Nat.zero_le _⟩ dX8_drawn_36 ?_
            refine lv_if_ne (tgt := 45) hx hb dX8_drawn_39 (by decide) (fun c_8 => ?_) (fun c_8 => ?_)
            · have h := (if_neg c_8).symm.trans h
              refine lv_aload_n hx hb dX8_drawn_45 rfl (lv_at hl 0 rfl) ?_
              refine va_get (D := (dC, dI)) (ci := 6) (v := .ref q_spare) (C := RX8) (T := TX8) (N := 10) hx hb hts w_1 hown hK hP 0 rfl rfl 3 (by decide) w_4 (fun _ h9 => h9) rfl dX8_drawn_46 ?_
              refine lv_aload_n hx hb dX8_drawn_49 rfl (lv_at hl 0 rfl) ?_
              refine va_get (D := (dC, dI)) (ci := 6) (v := .ref q_land) (C := RX8) (T := TX8) (N := 10) hx hb hts w_1 hown hK hP 0 rfl rfl 2 (by decide) w_0 (fun _ h9 => h9) rfl dX8_drawn_50 ?_
              obtain ⟨spare_told_9, spare_low_9, spare_high_9, spare_price_9, spare_hour_9, spare_bidders_9, spare_heights_9, spare_holders_9, spare_kinds_9, spare_purses_9, spare_homes_9, hc_9, h⟩ := bd11_of h
              refine cl_mVv (As := [.ref q_land]) (rest := []) (ws' := (W_X cI cZ q_s q_rows q_tape q_land q_spare q_firstImage q_secondImage q_acts q_basket q_asks s_finding) ++ ((W_Isle cI cZ q_land q_land_heights q_land_holders q_land_kinds q_land_purses q_land_homes land_told land_low land_high land_price land_hour land_bidders land_heights land_holders land_kinds land_purses land_homes) ++ ((W_Isle cI cZ q_spare q_spare_heights q_spare_holders q_spare_kinds q_spare_purses q_spare_homes spare_told_9 spare_low_9 spare_high_9 spare_price_9 spare_hour_9 spare_bidders_9 spare_heights_9 spare_holders_9 spare_kinds_9 spare_purses_9 spare_homes_9)))) (wr := (W_X cI cZ q_s q_rows q_tape q_land q_spare q_firstImage q_secondImage q_acts q_basket q_asks s_finding)) ⟨hx, hb, hml, hown, hts⟩ (m_X3_become l dC dI cI cZ q_spare q_spare_heights q_spare_holders q_spare_kinds q_spare_purses q_spare_homes q_land q_land_heights q_land_holders q_land_kinds q_land_purses q_land_homes spare_told spare_low spare_high spare_price spare_hour spare_bidders spare_heights spare_holders spare_kinds spare_purses spare_homes land_told land_low land_high land_price land_hour land_bidders land_heights land_holders land_kinds land_purses land_homes _ (spare_told_9, spare_low_9, spare_high_9, spare_price_9, spare_hour_9, spare_bidders_9, spare_heights_9, spare_holders_9, spare_kinds_9, spare_purses_9, spare_homes_9) hc_9) (cwV 1 hts gX8_drawn_X3_become rfl rfl rfl ⟨rfl, ddX3_become⟩ ⟨Nat.le_of_ble_eq_true rfl, Nat.le_of_ble_eq_true rfl⟩) hK hP hD hS hA [7, 8, 9, 10, 11, 12, 1, 2, 3, 4, 5, 6] [0] rfl rfl rfl rfl (by decide) [0, 7, 8, 9, 10, 11, 12, 1, 2, 3, 4, 5, 6] rfl rfl rfl rfl rfl rfl rfl hl.1 (Nat.le_of_ble_eq_true rfl) ⟨Nat.zero_le _, Nat.zero_le _⟩ dX8_drawn_53 (fun H locs hP hD hS => ?_)
              refine lv_aload_n hx hb dX8_drawn_56 rfl (lv_at hl 0 rfl) ?_
              refine va_get (D := (dC, dI)) (ci := 6) (v := .ref q_spare) (C := RX8) (T := TX8) (N := 10) hx hb hts w_1 hown hK hP 0 rfl rfl 3 (by decide) w_4 (fun _ h9 => h9) rfl dX8_drawn_57 ?_
              refine lv_iload_n hx hb dX8_drawn_60 rfl (lv_at hl 1 rfl) ?_
              refine lv_iload_n hx hb dX8_drawn_61 rfl (lv_at hl 2 rfl) ?_
              obtain ⟨spare_hour_10, spare_holders_10, spare_purses_10, hc_10, h⟩ := bd3_of h
              refine cl_mVv (As := [.int v1, .int v2]) (rest := []) (ws' := (W_X cI cZ q_s q_rows q_tape q_land q_spare q_firstImage q_secondImage q_acts q_basket q_asks s_finding) ++ ((W_Isle cI cZ q_land q_land_heights q_land_holders q_land_kinds q_land_purses q_land_homes land_told land_low land_high land_price land_hour land_bidders land_heights land_holders land_kinds land_purses land_homes) ++ ((W_Isle cI cZ q_spare q_spare_heights q_spare_holders q_spare_kinds q_spare_purses q_spare_homes spare_told_9 spare_low_9 spare_high_9 spare_price_9 spare_hour_10 spare_bidders_9 spare_heights_9 spare_holders_10 spare_kinds_9 spare_purses_10 spare_homes_9)))) (wr := (W_X cI cZ q_s q_rows q_tape q_land q_spare q_firstImage q_secondImage q_acts q_basket q_asks s_finding) ++ ((W_Isle cI cZ q_land q_land_heights q_land_holders q_land_kinds q_land_purses q_land_homes land_told land_low land_high land_price land_hour land_bidders land_heights land_holders land_kinds land_purses land_homes))) ⟨hx, hb, hml, hown, hts⟩ (m_X3_passDrawnHours l dC dI cI cZ q_spare q_spare_heights q_spare_holders q_spare_kinds q_spare_purses q_spare_homes spare_told_9 spare_low_9 spare_high_9 spare_price_9 spare_hour_9 spare_bidders_9 spare_heights_9 spare_holders_9 spare_kinds_9 spare_purses_9 spare_homes_9 v1 v2 _ (spare_hour_10, spare_holders_10, spare_purses_10) hc_10) (cwV 2 hts gX8_drawn_X3_passDrawnHours rfl rfl rfl ⟨rfl, ddX3_passDrawnHours⟩ ⟨Nat.le_of_ble_eq_true rfl, Nat.le_of_ble_eq_true rfl⟩) hK hP hD hS hA [7, 8, 9, 10, 11, 12] [0, 1, 2, 3, 4, 5, 6] rfl rfl rfl rfl (by decide) [0, 1, 2, 3, 4, 5, 6, 7, 8, 9, 10, 11, 12] rfl rfl rfl rfl rfl rfl rfl hl.1 (Nat.le_of_ble_eq_true rfl) ⟨Nat.zero_le _, Nat.zero_le _⟩ dX8_drawn_62 (fun H locs hP hD hS => ?_)
              refine lv_iload_n hx hb dX8_drawn_65 rfl (lv_at hl 3 rfl) ?_
              refine lv_if_ne (tgt := 82) hx hb dX8_drawn_66 (by decide) (fun c_11 => ?_) (fun c_11 => ?_)
              · have h := (if_neg c_11).symm.trans h
                refine lv_aload_n hx hb dX8_drawn_82 rfl (lv_at hl 0 rfl) ?_
                refine va_get (D := (dC, dI)) (ci := 6) (v := .ref q_spare) (C := RX8) (T := TX8) (N := 10) hx hb hts w_1 hown hK hP 0 rfl rfl 3 (by decide) w_4 (fun _ h9 => h9) rfl dX8_drawn_83 ?_
                obtain ⟨r_12, hc_12, h⟩ := bd1_of h
                refine cl_rV (As := []) (rest := []) ⟨hx, hb, hml, hown, hts⟩ (m_X3_allPurses l dC dI cI cZ q_spare q_spare_heights q_spare_holders q_spare_kinds q_spare_purses q_spare_homes spare_told_9 spare_low_9 spare_high_9 spare_price_9 spare_hour_10 spare_bidders_9 spare_heights_9 spare_holders_10 spare_kinds_9 spare_purses_10 spare_homes_9 (r_12) hc_12) (cwV 0 hts gX8_drawn_X3_allPurses rfl rfl rfl ⟨rfl, ddX3_allPurses⟩ ⟨Nat.le_of_ble_eq_true rfl, Nat.le_of_ble_eq_true rfl⟩) hK hP [7, 8, 9, 10, 11, 12] rfl rfl rfl rfl rfl hl.1 (Nat.le_of_ble_eq_true rfl) ⟨Nat.zero_le _, Nat.zero_le _⟩ dX8_drawn_86 ?_
                have h := Option.some.inj h
                subst h
                rw [hQQ]
                subst hAe
                exact W.iret (v := r_12) hx hb hr (fun t ht hW => ⟨⟨_, (), rfl, rfl, by rw [ht]; exact hP, va_K.moved hW.alike hK, hD⟩, hS.F ht⟩) hS.2.2 dX8_drawn_89
              · have h := (if_pos c_11).symm.trans h
                refine lv_aload_n hx hb dX8_drawn_69 rfl (lv_at hl 0 rfl) ?_
                refine va_get (D := (dC, dI)) (ci := 6) (v := .ref q_spare) (C := RX8) (T := TX8) (N := 10) hx hb hts w_1 hown hK hP 0 rfl rfl 3 (by decide) w_4 (fun _ h9 => h9) rfl dX8_drawn_70 ?_
                obtain ⟨r_13, hc_13, h⟩ := bd1_of h
                refine cl_rV (As := []) (rest := []) ⟨hx, hb, hml, hown, hts⟩ (m_X3_heldCells l dC dI cI cZ q_spare q_spare_heights q_spare_holders q_spare_kinds q_spare_purses q_spare_homes spare_told_9 spare_low_9 spare_high_9 spare_price_9 spare_hour_10 spare_bidders_9 spare_heights_9 spare_holders_10 spare_kinds_9 spare_purses_10 spare_homes_9 (r_13) hc_13) (cwV 0 hts gX8_drawn_X3_heldCells rfl rfl rfl ⟨rfl, ddX3_heldCells⟩ ⟨Nat.le_of_ble_eq_true rfl, Nat.le_of_ble_eq_true rfl⟩) hK hP [7, 8, 9, 10, 11, 12] rfl rfl rfl rfl rfl hl.1 (Nat.le_of_ble_eq_true rfl) ⟨Nat.zero_le _, Nat.zero_le _⟩ dX8_drawn_73 ?_
                obtain ⟨r_14, hc_14, h⟩ := bd1_of h
                refine cl_pS (As := [.int r_13]) (rest := []) ⟨hx, hb, hml, hown, hts⟩ (m_J6_bitCount_0f7a4 l r_13 (r_14) hc_14) (va_cwS 1 hts gX8_drawn_J6_bitCount_0f7a4 rfl rfl rfl ddJ6_bitCount_0f7a4 ⟨Nat.le_of_ble_eq_true rfl, Nat.le_of_ble_eq_true rfl⟩) rfl rfl hl.1 (Nat.le_of_ble_eq_true rfl) ⟨Nat.zero_le _, Nat.zero_le _⟩ dX8_drawn_76 ?_
                refine lv_goto (tgt := 89) hx hb dX8_drawn_79 (by decide) ?_
                have h := Option.some.inj h
                subst h
                rw [hQQ]
                subst hAe
                exact W.iret (v := r_14) hx hb hr (fun t ht hW => ⟨⟨_, (), rfl, rfl, by rw [ht]; exact hP, va_K.moved hW.alike hK, hD⟩, hS.F ht⟩) hS.2.2 dX8_drawn_89
            · have h := (if_pos c_8).symm.trans h
              refine lv_ldc hx hb hown w_2 dX8_drawn_42 ?_
              have h := Option.some.inj h
              subst h
              rw [hQQ]
              subst hAe
              exact W.iret (v := (-1000001)) hx hb hr (fun t ht hW => ⟨⟨_, (), rfl, rfl, by rw [ht]; exact hP, va_K.moved hW.alike hK, hD⟩, hS.F ht⟩) hS.2.2 dX8_drawn_44
  · have h := (if_pos c_2).symm.trans h
    refine lv_ldc hx hb hown w_5 dX8_drawn_10 ?_
    have h := Option.some.inj h
    subst h
    rw [hQQ]
    subst hAe
    exact W.iret (v := (-1000002)) hx hb hr (fun t ht hW => ⟨⟨_, (), rfl, rfl, by rw [ht]; exact hP, va_K.moved hW.alike hK, hD⟩, hS.F ht⟩) hS.2.2 dX8_drawn_12
def fX8_image (land_told : Int32) (land_low : Int32) (land_high : Int32) (land_price : Int32) (land_hour : Int32) (land_bidders : Int32) (land_heights : (Nat → Int32)) (land_holders : (Nat → Int32)) (land_kinds : (Nat → Int32)) (land_purses : (Nat → Int32)) (land_homes : (Nat → Int32)) (firstImage_told : Int32) (firstImage_low : Int32) (firstImage_high : Int32) (firstImage_price : Int32) (firstImage_hour : Int32) (firstImage_bidders : Int32) (firstImage_heights : (Nat → Int32)) (firstImage_holders : (Nat → Int32)) (firstImage_kinds : (Nat → Int32)) (firstImage_purses : (Nat → Int32)) (firstImage_homes : (Nat → Int32)) (secondImage_told : Int32) (secondImage_low : Int32) (secondImage_high : Int32) (secondImage_price : Int32) (secondImage_hour : Int32) (secondImage_bidders : Int32) (secondImage_heights : (Nat → Int32)) (secondImage_holders : (Nat → Int32)) (secondImage_kinds : (Nat → Int32)) (secondImage_purses : (Nat → Int32)) (secondImage_homes : (Nat → Int32)) (v1 : Int32) : Option (Int32 × Int32 × Int32 × Int32 × Int32 × Int32 × Int32 × (Nat → Int32) × (Nat → Int32) × (Nat → Int32) × (Nat → Int32) × (Nat → Int32) × Int32 × Int32 × Int32 × Int32 × Int32 × Int32 × (Nat → Int32) × (Nat → Int32) × (Nat → Int32) × (Nat → Int32) × (Nat → Int32)) :=
  bd1 (fX8_isChoice v1) (fun r_1 => (if r_1 = 0 then some ((-1000001), firstImage_told, firstImage_low, firstImage_high, firstImage_price, firstImage_hour, firstImage_bidders, firstImage_heights, firstImage_holders, firstImage_kinds, firstImage_purses, firstImage_homes, secondImage_told, secondImage_low, secondImage_high, secondImage_price, secondImage_hour, secondImage_bidders, secondImage_heights, secondImage_holders, secondImage_kinds, secondImage_purses, secondImage_homes) else bd1 (fX3_isTold land_told) (fun r_3 => (if r_3 = 0 then some ((-1000002), firstImage_told, firstImage_low, firstImage_high, firstImage_price, firstImage_hour, firstImage_bidders, firstImage_heights, firstImage_holders, firstImage_kinds, firstImage_purses, firstImage_homes, secondImage_told, secondImage_low, secondImage_high, secondImage_price, secondImage_hour, secondImage_bidders, secondImage_heights, secondImage_holders, secondImage_kinds, secondImage_purses, secondImage_homes) else (if v1 = 0 then bd11 (fX3_become firstImage_heights firstImage_holders firstImage_kinds firstImage_purses firstImage_homes land_told land_low land_high land_price land_hour land_bidders land_heights land_holders land_kinds land_purses land_homes) (fun firstImage_told_7 firstImage_low_7 firstImage_high_7 firstImage_price_7 firstImage_hour_7 firstImage_bidders_7 firstImage_heights_7 firstImage_holders_7 firstImage_kinds_7 firstImage_purses_7 firstImage_homes_7 => some (1, firstImage_told_7, firstImage_low_7, firstImage_high_7, firstImage_price_7, firstImage_hour_7, firstImage_bidders_7, firstImage_heights_7, firstImage_holders_7, firstImage_kinds_7, firstImage_purses_7, firstImage_homes_7, secondImage_told, secondImage_low, secondImage_high, secondImage_price, secondImage_hour, secondImage_bidders, secondImage_heights, secondImage_holders, secondImage_kinds, secondImage_purses, secondImage_homes)) else bd11 (fX3_become secondImage_heights secondImage_holders secondImage_kinds secondImage_purses secondImage_homes land_told land_low land_high land_price land_hour land_bidders land_heights land_holders land_kinds land_purses land_homes) (fun secondImage_told_6 secondImage_low_6 secondImage_high_6 secondImage_price_6 secondImage_hour_6 secondImage_bidders_6 secondImage_heights_6 secondImage_holders_6 secondImage_kinds_6 secondImage_purses_6 secondImage_homes_6 => some (1, firstImage_told, firstImage_low, firstImage_high, firstImage_price, firstImage_hour, firstImage_bidders, firstImage_heights, firstImage_holders, firstImage_kinds, firstImage_purses, firstImage_homes, secondImage_told_6, secondImage_low_6, secondImage_high_6, secondImage_price_6, secondImage_hour_6, secondImage_bidders_6, secondImage_heights_6, secondImage_holders_6, secondImage_kinds_6, secondImage_purses_6, secondImage_homes_6)))))))
abbrev rmX8_image : Room := { frames := 2, cells := 0, slots := 0, locals := 61 }
theorem ddX8_image : yX8_image.cls ≠ "java/lang/invoke/MethodHandle" ∧ yX8_image.cls ≠ "java/lang/invoke/VarHandle" ∧ (parseMethodDescriptor yX8_image.desc).map (fun d => d.parameters.length) = some 1 := by decide +kernel
set_option maxHeartbeats 4000000 in
set_option maxRecDepth 100000 in
theorem m_X8_image (l : Launch) (dC : Nat → ClassId) (dI : Nat → Nat → Nat) (cI cZ : ClassId) (q_s q_rows q_tape q_land q_spare q_firstImage q_secondImage q_acts q_basket q_asks q_land q_land_heights q_land_holders q_land_kinds q_land_purses q_land_homes q_firstImage q_firstImage_heights q_firstImage_holders q_firstImage_kinds q_firstImage_purses q_firstImage_homes q_secondImage q_secondImage_heights q_secondImage_holders q_secondImage_kinds q_secondImage_purses q_secondImage_homes : Nat) (s_finding : Int32) (land_told : Int32) (land_low : Int32) (land_high : Int32) (land_price : Int32) (land_hour : Int32) (land_bidders : Int32) (land_heights : (Nat → Int32)) (land_holders : (Nat → Int32)) (land_kinds : (Nat → Int32)) (land_purses : (Nat → Int32)) (land_homes : (Nat → Int32)) (firstImage_told : Int32) (firstImage_low : Int32) (firstImage_high : Int32) (firstImage_price : Int32) (firstImage_hour : Int32) (firstImage_bidders : Int32) (firstImage_heights : (Nat → Int32)) (firstImage_holders : (Nat → Int32)) (firstImage_kinds : (Nat → Int32)) (firstImage_purses : (Nat → Int32)) (firstImage_homes : (Nat → Int32)) (secondImage_told : Int32) (secondImage_low : Int32) (secondImage_high : Int32) (secondImage_price : Int32) (secondImage_hour : Int32) (secondImage_bidders : Int32) (secondImage_heights : (Nat → Int32)) (secondImage_holders : (Nat → Int32)) (secondImage_kinds : (Nat → Int32)) (secondImage_purses : (Nat → Int32)) (secondImage_homes : (Nat → Int32)) (v1 : Int32) (sz : Nat) (res : Int32 × Int32 × Int32 × Int32 × Int32 × Int32 × Int32 × (Nat → Int32) × (Nat → Int32) × (Nat → Int32) × (Nat → Int32) × (Nat → Int32) × Int32 × Int32 × Int32 × Int32 × Int32 × Int32 × (Nat → Int32) × (Nat → Int32) × (Nat → Int32) × (Nat → Int32) × (Nat → Int32)) (hf : fX8_image land_told land_low land_high land_price land_hour land_bidders land_heights land_holders land_kinds land_purses land_homes firstImage_told firstImage_low firstImage_high firstImage_price firstImage_hour firstImage_bidders firstImage_heights firstImage_holders firstImage_kinds firstImage_purses firstImage_homes secondImage_told secondImage_low secondImage_high secondImage_price secondImage_hour secondImage_bidders secondImage_heights secondImage_holders secondImage_kinds secondImage_purses secondImage_homes v1 = some res) : Met l yX8_image wsX8_image rmX8_image (mtPc (dC, dI) (tyZ cI cZ) ((W_X cI cZ q_s q_rows q_tape q_land q_spare q_firstImage q_secondImage q_acts q_basket q_asks s_finding) ++ ((W_Isle cI cZ q_land q_land_heights q_land_holders q_land_kinds q_land_purses q_land_homes land_told land_low land_high land_price land_hour land_bidders land_heights land_holders land_kinds land_purses land_homes) ++ ((W_Isle cI cZ q_firstImage q_firstImage_heights q_firstImage_holders q_firstImage_kinds q_firstImage_purses q_firstImage_homes firstImage_told firstImage_low firstImage_high firstImage_price firstImage_hour firstImage_bidders firstImage_heights firstImage_holders firstImage_kinds firstImage_purses firstImage_homes) ++ ((W_Isle cI cZ q_secondImage q_secondImage_heights q_secondImage_holders q_secondImage_kinds q_secondImage_purses q_secondImage_homes secondImage_told secondImage_low secondImage_high secondImage_price secondImage_hour secondImage_bidders secondImage_heights secondImage_holders secondImage_kinds secondImage_purses secondImage_homes))))) [.ref q_s, .int v1] sz) (mtQi (dC, dI) (tyZ cI cZ) ((W_X cI cZ q_s q_rows q_tape q_land q_spare q_firstImage q_secondImage q_acts q_basket q_asks s_finding) ++ ((W_Isle cI cZ q_land q_land_heights q_land_holders q_land_kinds q_land_purses q_land_homes land_told land_low land_high land_price land_hour land_bidders land_heights land_holders land_kinds land_purses land_homes) ++ ((W_Isle cI cZ q_firstImage q_firstImage_heights q_firstImage_holders q_firstImage_kinds q_firstImage_purses q_firstImage_homes firstImage_told firstImage_low firstImage_high firstImage_price firstImage_hour firstImage_bidders firstImage_heights firstImage_holders firstImage_kinds firstImage_purses firstImage_homes) ++ ((W_Isle cI cZ q_secondImage q_secondImage_heights q_secondImage_holders q_secondImage_kinds q_secondImage_purses q_secondImage_homes secondImage_told secondImage_low secondImage_high secondImage_price secondImage_hour secondImage_bidders secondImage_heights secondImage_holders secondImage_kinds secondImage_purses secondImage_homes))))) ((W_X cI cZ q_s q_rows q_tape q_land q_spare q_firstImage q_secondImage q_acts q_basket q_asks s_finding) ++ ((W_Isle cI cZ q_land q_land_heights q_land_holders q_land_kinds q_land_purses q_land_homes land_told land_low land_high land_price land_hour land_bidders land_heights land_holders land_kinds land_purses land_homes) ++ ((W_Isle cI cZ q_firstImage q_firstImage_heights q_firstImage_holders q_firstImage_kinds q_firstImage_purses q_firstImage_homes res.2.1 res.2.2.1 res.2.2.2.1 res.2.2.2.2.1 res.2.2.2.2.2.1 res.2.2.2.2.2.2.1 res.2.2.2.2.2.2.2.1 res.2.2.2.2.2.2.2.2.1 res.2.2.2.2.2.2.2.2.2.1 res.2.2.2.2.2.2.2.2.2.2.1 res.2.2.2.2.2.2.2.2.2.2.2.1) ++ ((W_Isle cI cZ q_secondImage q_secondImage_heights q_secondImage_holders q_secondImage_kinds q_secondImage_purses q_secondImage_homes res.2.2.2.2.2.2.2.2.2.2.2.2.1 res.2.2.2.2.2.2.2.2.2.2.2.2.2.1 res.2.2.2.2.2.2.2.2.2.2.2.2.2.2.1 res.2.2.2.2.2.2.2.2.2.2.2.2.2.2.2.1 res.2.2.2.2.2.2.2.2.2.2.2.2.2.2.2.2.1 res.2.2.2.2.2.2.2.2.2.2.2.2.2.2.2.2.2.1 res.2.2.2.2.2.2.2.2.2.2.2.2.2.2.2.2.2.2.1 res.2.2.2.2.2.2.2.2.2.2.2.2.2.2.2.2.2.2.2.1 res.2.2.2.2.2.2.2.2.2.2.2.2.2.2.2.2.2.2.2.2.1 res.2.2.2.2.2.2.2.2.2.2.2.2.2.2.2.2.2.2.2.2.2.1 res.2.2.2.2.2.2.2.2.2.2.2.2.2.2.2.2.2.2.2.2.2.2))))) res.1 sz) 0 0 (va_A ((W_X cI cZ q_s q_rows q_tape q_land q_spare q_firstImage q_secondImage q_acts q_basket q_asks s_finding) ++ ((W_Isle cI cZ q_land q_land_heights q_land_holders q_land_kinds q_land_purses q_land_homes land_told land_low land_high land_price land_hour land_bidders land_heights land_holders land_kinds land_purses land_homes) ++ ((W_Isle cI cZ q_firstImage q_firstImage_heights q_firstImage_holders q_firstImage_kinds q_firstImage_purses q_firstImage_homes firstImage_told firstImage_low firstImage_high firstImage_price firstImage_hour firstImage_bidders firstImage_heights firstImage_holders firstImage_kinds firstImage_purses firstImage_homes) ++ ((W_Isle cI cZ q_secondImage q_secondImage_heights q_secondImage_holders q_secondImage_kinds q_secondImage_purses q_secondImage_homes secondImage_told secondImage_low secondImage_high secondImage_price secondImage_hour secondImage_bidders secondImage_heights secondImage_holders secondImage_kinds secondImage_purses secondImage_homes))))) sz) := by
  refine Met.ofW (cc := cX8_image) (maxL := 3) (ret := (some .int)) (by decide) rfl ?_
  intro p e s m args below meth c s₁ B hml hv
  obtain ⟨rfl, hsz, hP, hK, hD0⟩ := hv
  have hx := B.exec
  have hb := B.bytes
  have hr := B.returns
  have hts := atoms_spec (ws := wsX8_image) B.pre
  have hown : s.vm.findClass RX8 = some m.cls := findClass_of_methodNamed B.named
  have hlocks := B.notSynchronized
  subst hsz
  have hD := hD0.self (sz := s.heap.size)
  obtain ⟨A, hAe⟩ : ∃ A, A = va_A ((W_X cI cZ q_s q_rows q_tape q_land q_spare q_firstImage q_secondImage q_acts q_basket q_asks s_finding) ++ ((W_Isle cI cZ q_land q_land_heights q_land_holders q_land_kinds q_land_purses q_land_homes land_told land_low land_high land_price land_hour land_bidders land_heights land_holders land_kinds land_purses land_homes) ++ ((W_Isle cI cZ q_firstImage q_firstImage_heights q_firstImage_holders q_firstImage_kinds q_firstImage_purses q_firstImage_homes firstImage_told firstImage_low firstImage_high firstImage_price firstImage_hour firstImage_bidders firstImage_heights firstImage_holders firstImage_kinds firstImage_purses firstImage_homes) ++ ((W_Isle cI cZ q_secondImage q_secondImage_heights q_secondImage_holders q_secondImage_kinds q_secondImage_purses q_secondImage_homes secondImage_told secondImage_low secondImage_high secondImage_price secondImage_hour secondImage_bidders secondImage_heights secondImage_holders secondImage_kinds secondImage_purses secondImage_homes))))) s.heap.size := ⟨_, rfl⟩
  rw [← hAe] at hD
  have hA : ∀ q : Nat, s.heap.size ≤ q → A q := fun q h => by rw [hAe]; exact Or.inr h
  have hS : va_S A s.heap s.heap [] := va_S.rf
  have hl := lv_entry ([.ref q_s, .int v1]) (n := 3) (Nat.le_of_ble_eq_true rfl)
  rw [lg_entry_eq]
  generalize (lg_sl ([.ref q_s, .int v1]) ++ List.replicate (3 - (lg_sl ([.ref q_s, .int v1])).length) Slot.unset).toArray = ls at hl ⊢
  have hl : lv_has ls 3 [(0, .ref q_s), (1, .int v1)] := hl
  obtain ⟨QQ, hQQ⟩ : ∃ Q, Q = MQ below (mtQi (dC, dI) (tyZ cI cZ) ((W_X cI cZ q_s q_rows q_tape q_land q_spare q_firstImage q_secondImage q_acts q_basket q_asks s_finding) ++ ((W_Isle cI cZ q_land q_land_heights q_land_holders q_land_kinds q_land_purses q_land_homes land_told land_low land_high land_price land_hour land_bidders land_heights land_holders land_kinds land_purses land_homes) ++ ((W_Isle cI cZ q_firstImage q_firstImage_heights q_firstImage_holders q_firstImage_kinds q_firstImage_purses q_firstImage_homes firstImage_told firstImage_low firstImage_high firstImage_price firstImage_hour firstImage_bidders firstImage_heights firstImage_holders firstImage_kinds firstImage_purses firstImage_homes) ++ ((W_Isle cI cZ q_secondImage q_secondImage_heights q_secondImage_holders q_secondImage_kinds q_secondImage_purses q_secondImage_homes secondImage_told secondImage_low secondImage_high secondImage_price secondImage_hour secondImage_bidders secondImage_heights secondImage_holders secondImage_kinds secondImage_purses secondImage_homes))))) ((W_X cI cZ q_s q_rows q_tape q_land q_spare q_firstImage q_secondImage q_acts q_basket q_asks s_finding) ++ ((W_Isle cI cZ q_land q_land_heights q_land_holders q_land_kinds q_land_purses q_land_homes land_told land_low land_high land_price land_hour land_bidders land_heights land_holders land_kinds land_purses land_homes) ++ ((W_Isle cI cZ q_firstImage q_firstImage_heights q_firstImage_holders q_firstImage_kinds q_firstImage_purses q_firstImage_homes res.2.1 res.2.2.1 res.2.2.2.1 res.2.2.2.2.1 res.2.2.2.2.2.1 res.2.2.2.2.2.2.1 res.2.2.2.2.2.2.2.1 res.2.2.2.2.2.2.2.2.1 res.2.2.2.2.2.2.2.2.2.1 res.2.2.2.2.2.2.2.2.2.2.1 res.2.2.2.2.2.2.2.2.2.2.2.1) ++ ((W_Isle cI cZ q_secondImage q_secondImage_heights q_secondImage_holders q_secondImage_kinds q_secondImage_purses q_secondImage_homes res.2.2.2.2.2.2.2.2.2.2.2.2.1 res.2.2.2.2.2.2.2.2.2.2.2.2.2.1 res.2.2.2.2.2.2.2.2.2.2.2.2.2.2.1 res.2.2.2.2.2.2.2.2.2.2.2.2.2.2.2.1 res.2.2.2.2.2.2.2.2.2.2.2.2.2.2.2.2.1 res.2.2.2.2.2.2.2.2.2.2.2.2.2.2.2.2.2.1 res.2.2.2.2.2.2.2.2.2.2.2.2.2.2.2.2.2.2.1 res.2.2.2.2.2.2.2.2.2.2.2.2.2.2.2.2.2.2.2.1 res.2.2.2.2.2.2.2.2.2.2.2.2.2.2.2.2.2.2.2.2.1 res.2.2.2.2.2.2.2.2.2.2.2.2.2.2.2.2.2.2.2.2.2.1 res.2.2.2.2.2.2.2.2.2.2.2.2.2.2.2.2.2.2.2.2.2.2))))) res.1 s.heap.size) ([.ref q_s, .int v1] : List Value).toArray s 0 0 (va_A ((W_X cI cZ q_s q_rows q_tape q_land q_spare q_firstImage q_secondImage q_acts q_basket q_asks s_finding) ++ ((W_Isle cI cZ q_land q_land_heights q_land_holders q_land_kinds q_land_purses q_land_homes land_told land_low land_high land_price land_hour land_bidders land_heights land_holders land_kinds land_purses land_homes) ++ ((W_Isle cI cZ q_firstImage q_firstImage_heights q_firstImage_holders q_firstImage_kinds q_firstImage_purses q_firstImage_homes firstImage_told firstImage_low firstImage_high firstImage_price firstImage_hour firstImage_bidders firstImage_heights firstImage_holders firstImage_kinds firstImage_purses firstImage_homes) ++ ((W_Isle cI cZ q_secondImage q_secondImage_heights q_secondImage_holders q_secondImage_kinds q_secondImage_purses q_secondImage_homes secondImage_told secondImage_low secondImage_high secondImage_price secondImage_hour secondImage_bidders secondImage_heights secondImage_holders secondImage_kinds secondImage_purses secondImage_homes))))) s.heap.size) := ⟨_, rfl⟩
  rw [← hQQ]
  have w_0 := hts (Cond.fieldLink RX8 26 "TideInches" "land" "LTideInches$Isle;") (List.mem_of_getElem? (i := 2) rfl)
  have w_1 := (fun w hw => List.mem_cons_of_mem _ (List.mem_append_left _ (List.mem_append_right _ hw)) : ∀ w ∈ wsX80, w ∈ wsX8_image)
  have w_2 := hts (Cond.fieldLink RX8 36 "TideInches" "secondImage" "LTideInches$Isle;") (List.mem_of_getElem? (i := 5) rfl)
  have w_3 := hts (Cond.fieldLink RX8 33 "TideInches" "firstImage" "LTideInches$Isle;") (List.mem_of_getElem? (i := 4) rfl)
  have w_4 := hts (Cond.constant RX8 136 (-1000002)) (List.mem_of_getElem? (i := 3) rfl)
  have w_5 := hts (Cond.constant RX8 68 (-1000001)) (List.mem_of_getElem? (i := 1) rfl)
  have h := hf
  unfold fX8_image at h
  refine lv_iload_n hx hb dX8_image_0 rfl (lv_at hl 1 rfl) ?_
  obtain ⟨r_1, hc_1, h⟩ := bd1_of h
  refine cl_pS (As := [.int v1]) (rest := []) ⟨hx, hb, hml, hown, hts⟩ (m_X8_isChoice l v1 (r_1) hc_1) (va_cwS 1 hts gX8_image_X8_isChoice rfl rfl rfl ddX8_isChoice ⟨Nat.le_of_ble_eq_true rfl, Nat.le_of_ble_eq_true rfl⟩) rfl rfl hl.1 (Nat.le_of_ble_eq_true rfl) ⟨Nat.zero_le _, Nat.zero_le _⟩ dX8_image_1 ?_
  refine lv_if_ne (tgt := 10) hx hb dX8_image_4 (by decide) (fun c_2 => ?_) (fun c_2 => ?_)
  · have h := (if_neg c_2).symm.trans h
    refine lv_aload_n hx hb dX8_image_10 rfl (lv_at hl 0 rfl) ?_
    refine va_get (D := (dC, dI)) (ci := 6) (v := .ref q_land) (C := RX8) (T := TX8) (N := 10) hx hb hts w_1 hown hK hP 0 rfl rfl 2 (by decide) w_0 (fun _ h9 => h9) rfl dX8_image_11 ?_
    obtain ⟨r_3, hc_3, h⟩ := bd1_of h
    refine cl_rV (As := []) (rest := []) ⟨hx, hb, hml, hown, hts⟩ (m_X3_isTold l dC dI cI cZ q_land q_land_heights q_land_holders q_land_kinds q_land_purses q_land_homes land_told land_low land_high land_price land_hour land_bidders land_heights land_holders land_kinds land_purses land_homes (r_3) hc_3) (cwV 0 hts gX8_image_X3_isTold rfl rfl rfl ⟨rfl, ddX3_isTold⟩ ⟨Nat.le_of_ble_eq_true rfl, Nat.le_of_ble_eq_true rfl⟩) hK hP [1, 2, 3, 4, 5, 6] rfl rfl rfl rfl rfl hl.1 (Nat.le_of_ble_eq_true rfl) ⟨Nat.zero_le _, Nat.zero_le _⟩ dX8_image_14 ?_
    refine lv_if_ne (tgt := 23) hx hb dX8_image_17 (by decide) (fun c_4 => ?_) (fun c_4 => ?_)
    · have h := (if_neg c_4).symm.trans h
      refine lv_iload_n hx hb dX8_image_23 rfl (lv_at hl 1 rfl) ?_
      refine lv_if_ne (tgt := 34) hx hb dX8_image_24 (by decide) (fun c_5 => ?_) (fun c_5 => ?_)
      · have h := (if_neg c_5).symm.trans h
        refine lv_aload_n hx hb dX8_image_34 rfl (lv_at hl 0 rfl) ?_
        refine va_get (D := (dC, dI)) (ci := 6) (v := .ref q_secondImage) (C := RX8) (T := TX8) (N := 10) hx hb hts w_1 hown hK hP 0 rfl rfl 5 (by decide) w_2 (fun _ h9 => h9) rfl dX8_image_35 ?_
        refine lv_astore_n (lv' := [(2, .ref q_secondImage), (0, .ref q_s), (1, .int v1)]) hx hb dX8_image_38 rfl hl (by decide) rfl (fun ls hl => ?_)
        refine lv_aload_n hx hb dX8_image_39 rfl (lv_at hl 0 rfl) ?_
        refine lv_aload_n hx hb dX8_image_40 rfl (lv_at hl 1 rfl) ?_
        refine va_get (D := (dC, dI)) (ci := 6) (v := .ref q_land) (C := RX8) (T := TX8) (N := 10) hx hb hts w_1 hown hK hP 0 rfl rfl 2 (by decide) w_0 (fun _ h9 => h9) rfl dX8_image_41 ?_
        obtain ⟨secondImage_told_6, secondImage_low_6, secondImage_high_6, secondImage_price_6, secondImage_hour_6, secondImage_bidders_6, secondImage_heights_6, secondImage_holders_6, secondImage_kinds_6, secondImage_purses_6, secondImage_homes_6, hc_6, h⟩ := bd11_of h
        refine cl_mVv (As := [.ref q_land]) (rest := []) (ws' := (W_X cI cZ q_s q_rows q_tape q_land q_spare q_firstImage q_secondImage q_acts q_basket q_asks s_finding) ++ ((W_Isle cI cZ q_land q_land_heights q_land_holders q_land_kinds q_land_purses q_land_homes land_told land_low land_high land_price land_hour land_bidders land_heights land_holders land_kinds land_purses land_homes) ++ ((W_Isle cI cZ q_firstImage q_firstImage_heights q_firstImage_holders q_firstImage_kinds q_firstImage_purses q_firstImage_homes firstImage_told firstImage_low firstImage_high firstImage_price firstImage_hour firstImage_bidders firstImage_heights firstImage_holders firstImage_kinds firstImage_purses firstImage_homes) ++ ((W_Isle cI cZ q_secondImage q_secondImage_heights q_secondImage_holders q_secondImage_kinds q_secondImage_purses q_secondImage_homes secondImage_told_6 secondImage_low_6 secondImage_high_6 secondImage_price_6 secondImage_hour_6 secondImage_bidders_6 secondImage_heights_6 secondImage_holders_6 secondImage_kinds_6 secondImage_purses_6 secondImage_homes_6))))) (wr := (W_X cI cZ q_s q_rows q_tape q_land q_spare q_firstImage q_secondImage q_acts q_basket q_asks s_finding) ++ ((W_Isle cI cZ q_firstImage q_firstImage_heights q_firstImage_holders q_firstImage_kinds q_firstImage_purses q_firstImage_homes firstImage_told firstImage_low firstImage_high firstImage_price firstImage_hour firstImage_bidders firstImage_heights firstImage_holders firstImage_kinds firstImage_purses firstImage_homes))) ⟨hx, hb, hml, hown, hts⟩ (m_X3_become l dC dI cI cZ q_secondImage q_secondImage_heights q_secondImage_holders q_secondImage_kinds q_secondImage_purses q_secondImage_homes q_land q_land_heights q_land_holders q_land_kinds q_land_purses q_land_homes secondImage_told secondImage_low secondImage_high secondImage_price secondImage_hour secondImage_bidders secondImage_heights secondImage_holders secondImage_kinds secondImage_purses secondImage_homes land_told land_low land_high land_price land_hour land_bidders land_heights land_holders land_kinds land_purses land_homes _ (secondImage_told_6, secondImage_low_6, secondImage_high_6, secondImage_price_6, secondImage_hour_6, secondImage_bidders_6, secondImage_heights_6, secondImage_holders_6, secondImage_kinds_6, secondImage_purses_6, secondImage_homes_6) hc_6) (cwV 1 hts gX8_image_X3_become rfl rfl rfl ⟨rfl, ddX3_become⟩ ⟨Nat.le_of_ble_eq_true rfl, Nat.le_of_ble_eq_true rfl⟩) hK hP hD hS hA [13, 14, 15, 16, 17, 18, 1, 2, 3, 4, 5, 6] [0, 7, 8, 9, 10, 11, 12] rfl rfl rfl rfl (by decide) [0, 13, 14, 15, 16, 17, 18, 1, 2, 3, 4, 5, 6, 7, 8, 9, 10, 11, 12] rfl rfl rfl rfl rfl rfl rfl hl.1 (Nat.le_of_ble_eq_true rfl) ⟨Nat.zero_le _, Nat.zero_le _⟩ dX8_image_44 (fun H locs hP hD hS => ?_)
        refine lv_iconst (v := 1) hx hb dX8_image_47 (by decide) ?_
        have h := Option.some.inj h
        subst h
        rw [hQQ]
        subst hAe
        exact W.iret (v := 1) hx hb hr (fun t ht hW => ⟨⟨_, (), rfl, rfl, by rw [ht]; exact hP, va_K.moved hW.alike hK, hD⟩, hS.F ht⟩) hS.2.2 dX8_image_48
      · have h := (if_pos c_5).symm.trans h
        refine lv_aload_n hx hb dX8_image_27 rfl (lv_at hl 0 rfl) ?_
        refine va_get (D := (dC, dI)) (ci := 6) (v := .ref q_firstImage) (C := RX8) (T := TX8) (N := 10) hx hb hts w_1 hown hK hP 0 rfl rfl 4 (by decide) w_3 (fun _ h9 => h9) rfl dX8_image_28 ?_
        refine lv_goto (tgt := 38) hx hb dX8_image_31 (by decide) ?_
        refine lv_astore_n (lv' := [(2, .ref q_firstImage), (0, .ref q_s), (1, .int v1)]) hx hb dX8_image_38 rfl hl (by decide) rfl (fun ls hl => ?_)
        refine lv_aload_n hx hb dX8_image_39 rfl (lv_at hl 0 rfl) ?_
        refine lv_aload_n hx hb dX8_image_40 rfl (lv_at hl 1 rfl) ?_
        refine va_get (D := (dC, dI)) (ci := 6) (v := .ref q_land) (C := RX8) (T := TX8) (N := 10) hx hb hts w_1 hown hK hP 0 rfl rfl 2 (by decide) w_0 (fun _ h9 => h9) rfl dX8_image_41 ?_
        obtain ⟨firstImage_told_7, firstImage_low_7, firstImage_high_7, firstImage_price_7, firstImage_hour_7, firstImage_bidders_7, firstImage_heights_7, firstImage_holders_7, firstImage_kinds_7, firstImage_purses_7, firstImage_homes_7, hc_7, h⟩ := bd11_of h
        refine cl_mVv (As := [.ref q_land]) (rest := []) (ws' := (W_X cI cZ q_s q_rows q_tape q_land q_spare q_firstImage q_secondImage q_acts q_basket q_asks s_finding) ++ ((W_Isle cI cZ q_land q_land_heights q_land_holders q_land_kinds q_land_purses q_land_homes land_told land_low land_high land_price land_hour land_bidders land_heights land_holders land_kinds land_purses land_homes) ++ ((W_Isle cI cZ q_firstImage q_firstImage_heights q_firstImage_holders q_firstImage_kinds q_firstImage_purses q_firstImage_homes firstImage_told_7 firstImage_low_7 firstImage_high_7 firstImage_price_7 firstImage_hour_7 firstImage_bidders_7 firstImage_heights_7 firstImage_holders_7 firstImage_kinds_7 firstImage_purses_7 firstImage_homes_7) ++ ((W_Isle cI cZ q_secondImage q_secondImage_heights q_secondImage_holders q_secondImage_kinds q_secondImage_purses q_secondImage_homes secondImage_told secondImage_low secondImage_high secondImage_price secondImage_hour secondImage_bidders secondImage_heights secondImage_holders secondImage_kinds secondImage_purses secondImage_homes))))) (wr := (W_X cI cZ q_s q_rows q_tape q_land q_spare q_firstImage q_secondImage q_acts q_basket q_asks s_finding) ++ ((W_Isle cI cZ q_secondImage q_secondImage_heights q_secondImage_holders q_secondImage_kinds q_secondImage_purses q_secondImage_homes secondImage_told secondImage_low secondImage_high secondImage_price secondImage_hour secondImage_bidders secondImage_heights secondImage_holders secondImage_kinds secondImage_purses secondImage_homes))) ⟨hx, hb, hml, hown, hts⟩ (m_X3_become l dC dI cI cZ q_firstImage q_firstImage_heights q_firstImage_holders q_firstImage_kinds q_firstImage_purses q_firstImage_homes q_land q_land_heights q_land_holders q_land_kinds q_land_purses q_land_homes firstImage_told firstImage_low firstImage_high firstImage_price firstImage_hour firstImage_bidders firstImage_heights firstImage_holders firstImage_kinds firstImage_purses firstImage_homes land_told land_low land_high land_price land_hour land_bidders land_heights land_holders land_kinds land_purses land_homes _ (firstImage_told_7, firstImage_low_7, firstImage_high_7, firstImage_price_7, firstImage_hour_7, firstImage_bidders_7, firstImage_heights_7, firstImage_holders_7, firstImage_kinds_7, firstImage_purses_7, firstImage_homes_7) hc_7) (cwV 1 hts gX8_image_X3_become rfl rfl rfl ⟨rfl, ddX3_become⟩ ⟨Nat.le_of_ble_eq_true rfl, Nat.le_of_ble_eq_true rfl⟩) hK hP hD hS hA [7, 8, 9, 10, 11, 12, 1, 2, 3, 4, 5, 6] [0, 13, 14, 15, 16, 17, 18] rfl rfl rfl rfl (by decide) [0, 13, 14, 15, 16, 17, 18, 7, 8, 9, 10, 11, 12, 1, 2, 3, 4, 5, 6] rfl rfl rfl rfl rfl rfl rfl hl.1 (Nat.le_of_ble_eq_true rfl) ⟨Nat.zero_le _, Nat.zero_le _⟩ dX8_image_44 (fun H locs hP hD hS => ?_)
        refine lv_iconst (v := 1) hx hb dX8_image_47 (by decide) ?_
        have h := Option.some.inj h
        subst h
        rw [hQQ]
        subst hAe
        exact W.iret (v := 1) hx hb hr (fun t ht hW => ⟨⟨_, (), rfl, rfl, by rw [ht]; exact hP, va_K.moved hW.alike hK, hD⟩, hS.F ht⟩) hS.2.2 dX8_image_48
    · have h := (if_pos c_4).symm.trans h
      refine lv_ldc hx hb hown w_4 dX8_image_20 ?_
      have h := Option.some.inj h
      subst h
      rw [hQQ]
      subst hAe
      exact W.iret (v := (-1000002)) hx hb hr (fun t ht hW => ⟨⟨_, (), rfl, rfl, by rw [ht]; exact hP, va_K.moved hW.alike hK, hD⟩, hS.F ht⟩) hS.2.2 dX8_image_22
  · have h := (if_pos c_2).symm.trans h
    refine lv_ldc hx hb hown w_5 dX8_image_7 ?_
    have h := Option.some.inj h
    subst h
    rw [hQQ]
    subst hAe
    exact W.iret (v := (-1000001)) hx hb hr (fun t ht hW => ⟨⟨_, (), rfl, rfl, by rw [ht]; exact hP, va_K.moved hW.alike hK, hD⟩, hS.F ht⟩) hS.2.2 dX8_image_9
def fX8_restore (land_told : Int32) (land_low : Int32) (land_high : Int32) (land_price : Int32) (land_hour : Int32) (land_bidders : Int32) (land_heights : (Nat → Int32)) (land_holders : (Nat → Int32)) (land_kinds : (Nat → Int32)) (land_purses : (Nat → Int32)) (land_homes : (Nat → Int32)) (firstImage_told : Int32) (firstImage_low : Int32) (firstImage_high : Int32) (firstImage_price : Int32) (firstImage_hour : Int32) (firstImage_bidders : Int32) (firstImage_heights : (Nat → Int32)) (firstImage_holders : (Nat → Int32)) (firstImage_kinds : (Nat → Int32)) (firstImage_purses : (Nat → Int32)) (firstImage_homes : (Nat → Int32)) (secondImage_told : Int32) (secondImage_low : Int32) (secondImage_high : Int32) (secondImage_price : Int32) (secondImage_hour : Int32) (secondImage_bidders : Int32) (secondImage_heights : (Nat → Int32)) (secondImage_holders : (Nat → Int32)) (secondImage_kinds : (Nat → Int32)) (secondImage_purses : (Nat → Int32)) (secondImage_homes : (Nat → Int32)) (acts_kept : Int32) (v1 : Int32) : Option (Int32 × Int32 × Int32 × Int32 × Int32 × Int32 × Int32 × (Nat → Int32) × (Nat → Int32) × (Nat → Int32) × (Nat → Int32) × (Nat → Int32) × Int32) :=
  bd1 (fX8_isChoice v1) (fun r_1 => (if r_1 = 0 then some ((-1000001), land_told, land_low, land_high, land_price, land_hour, land_bidders, land_heights, land_holders, land_kinds, land_purses, land_homes, acts_kept) else (if v1 = 0 then bd1 (fX3_isTold firstImage_told) (fun r_8 => (if r_8 = 0 then some ((-1000002), land_told, land_low, land_high, land_price, land_hour, land_bidders, land_heights, land_holders, land_kinds, land_purses, land_homes, acts_kept) else bd11 (fX3_become land_heights land_holders land_kinds land_purses land_homes firstImage_told firstImage_low firstImage_high firstImage_price firstImage_hour firstImage_bidders firstImage_heights firstImage_holders firstImage_kinds firstImage_purses firstImage_homes) (fun land_told_10 land_low_10 land_high_10 land_price_10 land_hour_10 land_bidders_10 land_heights_10 land_holders_10 land_kinds_10 land_purses_10 land_homes_10 => bd1 (fX0_forget ) (fun acts_kept_11 => some (1, land_told_10, land_low_10, land_high_10, land_price_10, land_hour_10, land_bidders_10, land_heights_10, land_holders_10, land_kinds_10, land_purses_10, land_homes_10, acts_kept_11))))) else bd1 (fX3_isTold secondImage_told) (fun r_4 => (if r_4 = 0 then some ((-1000002), land_told, land_low, land_high, land_price, land_hour, land_bidders, land_heights, land_holders, land_kinds, land_purses, land_homes, acts_kept) else bd11 (fX3_become land_heights land_holders land_kinds land_purses land_homes secondImage_told secondImage_low secondImage_high secondImage_price secondImage_hour secondImage_bidders secondImage_heights secondImage_holders secondImage_kinds secondImage_purses secondImage_homes) (fun land_told_6 land_low_6 land_high_6 land_price_6 land_hour_6 land_bidders_6 land_heights_6 land_holders_6 land_kinds_6 land_purses_6 land_homes_6 => bd1 (fX0_forget ) (fun acts_kept_7 => some (1, land_told_6, land_low_6, land_high_6, land_price_6, land_hour_6, land_bidders_6, land_heights_6, land_holders_6, land_kinds_6, land_purses_6, land_homes_6, acts_kept_7))))))))
abbrev rmX8_restore : Room := { frames := 2, cells := 0, slots := 0, locals := 61 }
theorem ddX8_restore : yX8_restore.cls ≠ "java/lang/invoke/MethodHandle" ∧ yX8_restore.cls ≠ "java/lang/invoke/VarHandle" ∧ (parseMethodDescriptor yX8_restore.desc).map (fun d => d.parameters.length) = some 1 := by decide +kernel
set_option maxHeartbeats 4000000 in
set_option maxRecDepth 100000 in
theorem m_X8_restore (l : Launch) (dC : Nat → ClassId) (dI : Nat → Nat → Nat) (cI cZ : ClassId) (q_s q_rows q_tape q_land q_spare q_firstImage q_secondImage q_acts q_basket q_asks q_land q_land_heights q_land_holders q_land_kinds q_land_purses q_land_homes q_firstImage q_firstImage_heights q_firstImage_holders q_firstImage_kinds q_firstImage_purses q_firstImage_homes q_secondImage q_secondImage_heights q_secondImage_holders q_secondImage_kinds q_secondImage_purses q_secondImage_homes q_acts q_acts_saved : Nat) (s_finding : Int32) (land_told : Int32) (land_low : Int32) (land_high : Int32) (land_price : Int32) (land_hour : Int32) (land_bidders : Int32) (land_heights : (Nat → Int32)) (land_holders : (Nat → Int32)) (land_kinds : (Nat → Int32)) (land_purses : (Nat → Int32)) (land_homes : (Nat → Int32)) (firstImage_told : Int32) (firstImage_low : Int32) (firstImage_high : Int32) (firstImage_price : Int32) (firstImage_hour : Int32) (firstImage_bidders : Int32) (firstImage_heights : (Nat → Int32)) (firstImage_holders : (Nat → Int32)) (firstImage_kinds : (Nat → Int32)) (firstImage_purses : (Nat → Int32)) (firstImage_homes : (Nat → Int32)) (secondImage_told : Int32) (secondImage_low : Int32) (secondImage_high : Int32) (secondImage_price : Int32) (secondImage_hour : Int32) (secondImage_bidders : Int32) (secondImage_heights : (Nat → Int32)) (secondImage_holders : (Nat → Int32)) (secondImage_kinds : (Nat → Int32)) (secondImage_purses : (Nat → Int32)) (secondImage_homes : (Nat → Int32)) (acts_saved : (Nat → Int32)) (acts_next : Int32) (acts_kept : Int32) (v1 : Int32) (sz : Nat) (res : Int32 × Int32 × Int32 × Int32 × Int32 × Int32 × Int32 × (Nat → Int32) × (Nat → Int32) × (Nat → Int32) × (Nat → Int32) × (Nat → Int32) × Int32) (hf : fX8_restore land_told land_low land_high land_price land_hour land_bidders land_heights land_holders land_kinds land_purses land_homes firstImage_told firstImage_low firstImage_high firstImage_price firstImage_hour firstImage_bidders firstImage_heights firstImage_holders firstImage_kinds firstImage_purses firstImage_homes secondImage_told secondImage_low secondImage_high secondImage_price secondImage_hour secondImage_bidders secondImage_heights secondImage_holders secondImage_kinds secondImage_purses secondImage_homes acts_kept v1 = some res) : Met l yX8_restore wsX8_restore rmX8_restore (mtPc (dC, dI) (tyZ cI cZ) ((W_X cI cZ q_s q_rows q_tape q_land q_spare q_firstImage q_secondImage q_acts q_basket q_asks s_finding) ++ ((W_Isle cI cZ q_land q_land_heights q_land_holders q_land_kinds q_land_purses q_land_homes land_told land_low land_high land_price land_hour land_bidders land_heights land_holders land_kinds land_purses land_homes) ++ ((W_Isle cI cZ q_firstImage q_firstImage_heights q_firstImage_holders q_firstImage_kinds q_firstImage_purses q_firstImage_homes firstImage_told firstImage_low firstImage_high firstImage_price firstImage_hour firstImage_bidders firstImage_heights firstImage_holders firstImage_kinds firstImage_purses firstImage_homes) ++ ((W_Isle cI cZ q_secondImage q_secondImage_heights q_secondImage_holders q_secondImage_kinds q_secondImage_purses q_secondImage_homes secondImage_told secondImage_low secondImage_high secondImage_price secondImage_hour secondImage_bidders secondImage_heights secondImage_holders secondImage_kinds secondImage_purses secondImage_homes) ++ ((W_Acts cI cZ q_acts q_acts_saved acts_saved acts_next acts_kept)))))) [.ref q_s, .int v1] sz) (mtQi (dC, dI) (tyZ cI cZ) ((W_X cI cZ q_s q_rows q_tape q_land q_spare q_firstImage q_secondImage q_acts q_basket q_asks s_finding) ++ ((W_Isle cI cZ q_land q_land_heights q_land_holders q_land_kinds q_land_purses q_land_homes land_told land_low land_high land_price land_hour land_bidders land_heights land_holders land_kinds land_purses land_homes) ++ ((W_Isle cI cZ q_firstImage q_firstImage_heights q_firstImage_holders q_firstImage_kinds q_firstImage_purses q_firstImage_homes firstImage_told firstImage_low firstImage_high firstImage_price firstImage_hour firstImage_bidders firstImage_heights firstImage_holders firstImage_kinds firstImage_purses firstImage_homes) ++ ((W_Isle cI cZ q_secondImage q_secondImage_heights q_secondImage_holders q_secondImage_kinds q_secondImage_purses q_secondImage_homes secondImage_told secondImage_low secondImage_high secondImage_price secondImage_hour secondImage_bidders secondImage_heights secondImage_holders secondImage_kinds secondImage_purses secondImage_homes) ++ ((W_Acts cI cZ q_acts q_acts_saved acts_saved acts_next acts_kept)))))) ((W_X cI cZ q_s q_rows q_tape q_land q_spare q_firstImage q_secondImage q_acts q_basket q_asks s_finding) ++ ((W_Isle cI cZ q_land q_land_heights q_land_holders q_land_kinds q_land_purses q_land_homes res.2.1 res.2.2.1 res.2.2.2.1 res.2.2.2.2.1 res.2.2.2.2.2.1 res.2.2.2.2.2.2.1 res.2.2.2.2.2.2.2.1 res.2.2.2.2.2.2.2.2.1 res.2.2.2.2.2.2.2.2.2.1 res.2.2.2.2.2.2.2.2.2.2.1 res.2.2.2.2.2.2.2.2.2.2.2.1) ++ ((W_Isle cI cZ q_firstImage q_firstImage_heights q_firstImage_holders q_firstImage_kinds q_firstImage_purses q_firstImage_homes firstImage_told firstImage_low firstImage_high firstImage_price firstImage_hour firstImage_bidders firstImage_heights firstImage_holders firstImage_kinds firstImage_purses firstImage_homes) ++ ((W_Isle cI cZ q_secondImage q_secondImage_heights q_secondImage_holders q_secondImage_kinds q_secondImage_purses q_secondImage_homes secondImage_told secondImage_low secondImage_high secondImage_price secondImage_hour secondImage_bidders secondImage_heights secondImage_holders secondImage_kinds secondImage_purses secondImage_homes) ++ ((W_Acts cI cZ q_acts q_acts_saved acts_saved acts_next res.2.2.2.2.2.2.2.2.2.2.2.2)))))) res.1 sz) 0 0 (va_A ((W_X cI cZ q_s q_rows q_tape q_land q_spare q_firstImage q_secondImage q_acts q_basket q_asks s_finding) ++ ((W_Isle cI cZ q_land q_land_heights q_land_holders q_land_kinds q_land_purses q_land_homes land_told land_low land_high land_price land_hour land_bidders land_heights land_holders land_kinds land_purses land_homes) ++ ((W_Isle cI cZ q_firstImage q_firstImage_heights q_firstImage_holders q_firstImage_kinds q_firstImage_purses q_firstImage_homes firstImage_told firstImage_low firstImage_high firstImage_price firstImage_hour firstImage_bidders firstImage_heights firstImage_holders firstImage_kinds firstImage_purses firstImage_homes) ++ ((W_Isle cI cZ q_secondImage q_secondImage_heights q_secondImage_holders q_secondImage_kinds q_secondImage_purses q_secondImage_homes secondImage_told secondImage_low secondImage_high secondImage_price secondImage_hour secondImage_bidders secondImage_heights secondImage_holders secondImage_kinds secondImage_purses secondImage_homes) ++ ((W_Acts cI cZ q_acts q_acts_saved acts_saved acts_next acts_kept)))))) sz) := by
  refine Met.ofW (cc := cX8_restore) (maxL := 3) (ret := (some .int)) (by decide) rfl ?_
  intro p e s m args below meth c s₁ B hml hv
  obtain ⟨rfl, hsz, hP, hK, hD0⟩ := hv
  have hx := B.exec
  have hb := B.bytes
  have hr := B.returns
  have hts := atoms_spec (ws := wsX8_restore) B.pre
  have hown : s.vm.findClass RX8 = some m.cls := findClass_of_methodNamed B.named
  have hlocks := B.notSynchronized
  subst hsz
  have hD := hD0.self (sz := s.heap.size)
  obtain ⟨A, hAe⟩ : ∃ A, A = va_A ((W_X cI cZ q_s q_rows q_tape q_land q_spare q_firstImage q_secondImage q_acts q_basket q_asks s_finding) ++ ((W_Isle cI cZ q_land q_land_heights q_land_holders q_land_kinds q_land_purses q_land_homes land_told land_low land_high land_price land_hour land_bidders land_heights land_holders land_kinds land_purses land_homes) ++ ((W_Isle cI cZ q_firstImage q_firstImage_heights q_firstImage_holders q_firstImage_kinds q_firstImage_purses q_firstImage_homes firstImage_told firstImage_low firstImage_high firstImage_price firstImage_hour firstImage_bidders firstImage_heights firstImage_holders firstImage_kinds firstImage_purses firstImage_homes) ++ ((W_Isle cI cZ q_secondImage q_secondImage_heights q_secondImage_holders q_secondImage_kinds q_secondImage_purses q_secondImage_homes secondImage_told secondImage_low secondImage_high secondImage_price secondImage_hour secondImage_bidders secondImage_heights secondImage_holders secondImage_kinds secondImage_purses secondImage_homes) ++ ((W_Acts cI cZ q_acts q_acts_saved acts_saved acts_next acts_kept)))))) s.heap.size := ⟨_, rfl⟩
  rw [← hAe] at hD
  have hA : ∀ q : Nat, s.heap.size ≤ q → A q := fun q h => by rw [hAe]; exact Or.inr h
  have hS : va_S A s.heap s.heap [] := va_S.rf
  have hl := lv_entry ([.ref q_s, .int v1]) (n := 3) (Nat.le_of_ble_eq_true rfl)
  rw [lg_entry_eq]
  generalize (lg_sl ([.ref q_s, .int v1]) ++ List.replicate (3 - (lg_sl ([.ref q_s, .int v1])).length) Slot.unset).toArray = ls at hl ⊢
  have hl : lv_has ls 3 [(0, .ref q_s), (1, .int v1)] := hl
  obtain ⟨QQ, hQQ⟩ : ∃ Q, Q = MQ below (mtQi (dC, dI) (tyZ cI cZ) ((W_X cI cZ q_s q_rows q_tape q_land q_spare q_firstImage q_secondImage q_acts q_basket q_asks s_finding) ++ ((W_Isle cI cZ q_land q_land_heights q_land_holders q_land_kinds q_land_purses q_land_homes land_told land_low land_high land_price land_hour land_bidders land_heights land_holders land_kinds land_purses land_homes) ++ ((W_Isle cI cZ q_firstImage q_firstImage_heights q_firstImage_holders q_firstImage_kinds q_firstImage_purses q_firstImage_homes firstImage_told firstImage_low firstImage_high firstImage_price firstImage_hour firstImage_bidders firstImage_heights firstImage_holders firstImage_kinds firstImage_purses firstImage_homes) ++ ((W_Isle cI cZ q_secondImage q_secondImage_heights q_secondImage_holders q_secondImage_kinds q_secondImage_purses q_secondImage_homes secondImage_told secondImage_low secondImage_high secondImage_price secondImage_hour secondImage_bidders secondImage_heights secondImage_holders secondImage_kinds secondImage_purses secondImage_homes) ++ ((W_Acts cI cZ q_acts q_acts_saved acts_saved acts_next acts_kept)))))) ((W_X cI cZ q_s q_rows q_tape q_land q_spare q_firstImage q_secondImage q_acts q_basket q_asks s_finding) ++ ((W_Isle cI cZ q_land q_land_heights q_land_holders q_land_kinds q_land_purses q_land_homes res.2.1 res.2.2.1 res.2.2.2.1 res.2.2.2.2.1 res.2.2.2.2.2.1 res.2.2.2.2.2.2.1 res.2.2.2.2.2.2.2.1 res.2.2.2.2.2.2.2.2.1 res.2.2.2.2.2.2.2.2.2.1 res.2.2.2.2.2.2.2.2.2.2.1 res.2.2.2.2.2.2.2.2.2.2.2.1) ++ ((W_Isle cI cZ q_firstImage q_firstImage_heights q_firstImage_holders q_firstImage_kinds q_firstImage_purses q_firstImage_homes firstImage_told firstImage_low firstImage_high firstImage_price firstImage_hour firstImage_bidders firstImage_heights firstImage_holders firstImage_kinds firstImage_purses firstImage_homes) ++ ((W_Isle cI cZ q_secondImage q_secondImage_heights q_secondImage_holders q_secondImage_kinds q_secondImage_purses q_secondImage_homes secondImage_told secondImage_low secondImage_high secondImage_price secondImage_hour secondImage_bidders secondImage_heights secondImage_holders secondImage_kinds secondImage_purses secondImage_homes) ++ ((W_Acts cI cZ q_acts q_acts_saved acts_saved acts_next res.2.2.2.2.2.2.2.2.2.2.2.2)))))) res.1 s.heap.size) ([.ref q_s, .int v1] : List Value).toArray s 0 0 (va_A ((W_X cI cZ q_s q_rows q_tape q_land q_spare q_firstImage q_secondImage q_acts q_basket q_asks s_finding) ++ ((W_Isle cI cZ q_land q_land_heights q_land_holders q_land_kinds q_land_purses q_land_homes land_told land_low land_high land_price land_hour land_bidders land_heights land_holders land_kinds land_purses land_homes) ++ ((W_Isle cI cZ q_firstImage q_firstImage_heights q_firstImage_holders q_firstImage_kinds q_firstImage_purses q_firstImage_homes firstImage_told firstImage_low firstImage_high firstImage_price firstImage_hour firstImage_bidders firstImage_heights firstImage_holders firstImage_kinds firstImage_purses firstImage_homes) ++ ((W_Isle cI cZ q_secondImage q_secondImage_heights q_secondImage_holders q_secondImage_kinds q_secondImage_purses q_secondImage_homes secondImage_told secondImage_low secondImage_high secondImage_price secondImage_hour secondImage_bidders secondImage_heights secondImage_holders secondImage_kinds secondImage_purses secondImage_homes) ++ ((W_Acts cI cZ q_acts q_acts_saved acts_saved acts_next acts_kept)))))) s.heap.size) := ⟨_, rfl⟩
  rw [← hQQ]
  have w_0 := hts (Cond.fieldLink RX8 36 "TideInches" "secondImage" "LTideInches$Isle;") (List.mem_of_getElem? (i := 3) rfl)
  have w_1 := (fun w hw => List.mem_cons_of_mem _ (List.mem_append_left _ (List.mem_append_left _ (List.mem_append_right _ hw))) : ∀ w ∈ wsX80, w ∈ wsX8_restore)
  have w_2 := hts (Cond.fieldLink RX8 26 "TideInches" "land" "LTideInches$Isle;") (List.mem_of_getElem? (i := 5) rfl)
  have w_3 := hts (Cond.fieldLink RX8 42 "TideInches" "acts" "LTideInches$Acts;") (List.mem_of_getElem? (i := 6) rfl)
  have w_4 := hts (Cond.constant RX8 136 (-1000002)) (List.mem_of_getElem? (i := 4) rfl)
  have w_5 := hts (Cond.fieldLink RX8 33 "TideInches" "firstImage" "LTideInches$Isle;") (List.mem_of_getElem? (i := 2) rfl)
  have w_6 := hts (Cond.constant RX8 68 (-1000001)) (List.mem_of_getElem? (i := 1) rfl)
  have h := hf
  unfold fX8_restore at h
  refine lv_iload_n hx hb dX8_restore_0 rfl (lv_at hl 1 rfl) ?_
  obtain ⟨r_1, hc_1, h⟩ := bd1_of h
  refine cl_pS (As := [.int v1]) (rest := []) ⟨hx, hb, hml, hown, hts⟩ (m_X8_isChoice l v1 (r_1) hc_1) (va_cwS 1 hts gX8_restore_X8_isChoice rfl rfl rfl ddX8_isChoice ⟨Nat.le_of_ble_eq_true rfl, Nat.le_of_ble_eq_true rfl⟩) rfl rfl hl.1 (Nat.le_of_ble_eq_true rfl) ⟨Nat.zero_le _, Nat.zero_le _⟩ dX8_restore_1 ?_
  refine lv_if_ne (tgt := 10) hx hb dX8_restore_4 (by decide) (fun c_2 => ?_) (fun c_2 => ?_)
  · have h := (if_neg c_2).symm.trans h
    refine lv_iload_n hx hb dX8_restore_10 rfl (lv_at hl 1 rfl) ?_
    refine lv_if_ne (tgt := 21) hx hb dX8_restore_11 (by decide) (fun c_3 => ?_) (fun c_3 => ?_)
    · have h := (if_neg c_3).symm.trans h
      refine lv_aload_n hx hb dX8_restore_21 rfl (lv_at hl 0 rfl) ?_
      refine va_get (D := (dC, dI)) (ci := 6) (v := .ref q_secondImage) (C := RX8) (T := TX8) (N := 10) hx hb hts w_1 hown hK hP 0 rfl rfl 5 (by decide) w_0 (fun _ h9 => h9) rfl dX8_restore_22 ?_
      refine lv_astore_n (lv' := [(2, .ref q_secondImage), (0, .ref q_s), (1, .int v1)]) hx hb dX8_restore_25 rfl hl (by decide) rfl (fun ls hl => ?_)
      refine lv_aload_n hx hb dX8_restore_26 rfl (lv_at hl 0 rfl) ?_
      obtain ⟨r_4, hc_4, h⟩ := bd1_of h
      refine cl_rV (As := []) (rest := []) ⟨hx, hb, hml, hown, hts⟩ (m_X3_isTold l dC dI cI cZ q_secondImage q_secondImage_heights q_secondImage_holders q_secondImage_kinds q_secondImage_purses q_secondImage_homes secondImage_told secondImage_low secondImage_high secondImage_price secondImage_hour secondImage_bidders secondImage_heights secondImage_holders secondImage_kinds secondImage_purses secondImage_homes (r_4) hc_4) (cwV 0 hts gX8_restore_X3_isTold rfl rfl rfl ⟨rfl, ddX3_isTold⟩ ⟨Nat.le_of_ble_eq_true rfl, Nat.le_of_ble_eq_true rfl⟩) hK hP [13, 14, 15, 16, 17, 18] rfl rfl rfl rfl rfl hl.1 (Nat.le_of_ble_eq_true rfl) ⟨Nat.zero_le _, Nat.zero_le _⟩ dX8_restore_27 ?_
      refine lv_if_ne (tgt := 36) hx hb dX8_restore_30 (by decide) (fun c_5 => ?_) (fun c_5 => ?_)
      · have h := (if_neg c_5).symm.trans h
        refine lv_aload_n hx hb dX8_restore_36 rfl (lv_at hl 1 rfl) ?_
        refine va_get (D := (dC, dI)) (ci := 6) (v := .ref q_land) (C := RX8) (T := TX8) (N := 10) hx hb hts w_1 hown hK hP 0 rfl rfl 2 (by decide) w_2 (fun _ h9 => h9) rfl dX8_restore_37 ?_
        refine lv_aload_n hx hb dX8_restore_40 rfl (lv_at hl 0 rfl) ?_
        obtain ⟨land_told_6, land_low_6, land_high_6, land_price_6, land_hour_6, land_bidders_6, land_heights_6, land_holders_6, land_kinds_6, land_purses_6, land_homes_6, hc_6, h⟩ := bd11_of h
        refine cl_mVv (As := [.ref q_secondImage]) (rest := []) (ws' := (W_X cI cZ q_s q_rows q_tape q_land q_spare q_firstImage q_secondImage q_acts q_basket q_asks s_finding) ++ ((W_Isle cI cZ q_land q_land_heights q_land_holders q_land_kinds q_land_purses q_land_homes land_told_6 land_low_6 land_high_6 land_price_6 land_hour_6 land_bidders_6 land_heights_6 land_holders_6 land_kinds_6 land_purses_6 land_homes_6) ++ ((W_Isle cI cZ q_firstImage q_firstImage_heights q_firstImage_holders q_firstImage_kinds q_firstImage_purses q_firstImage_homes firstImage_told firstImage_low firstImage_high firstImage_price firstImage_hour firstImage_bidders firstImage_heights firstImage_holders firstImage_kinds firstImage_purses firstImage_homes) ++ ((W_Isle cI cZ q_secondImage q_secondImage_heights q_secondImage_holders q_secondImage_kinds q_secondImage_purses q_secondImage_homes secondImage_told secondImage_low secondImage_high secondImage_price secondImage_hour secondImage_bidders secondImage_heights secondImage_holders secondImage_kinds secondImage_purses secondImage_homes) ++ ((W_Acts cI cZ q_acts q_acts_saved acts_saved acts_next acts_kept)))))) (wr := (W_X cI cZ q_s q_rows q_tape q_land q_spare q_firstImage q_secondImage q_acts q_basket q_asks s_finding) ++ ((W_Isle cI cZ q_firstImage q_firstImage_heights q_firstImage_holders q_firstImage_kinds q_firstImage_purses q_firstImage_homes firstImage_told firstImage_low firstImage_high firstImage_price firstImage_hour firstImage_bidders firstImage_heights firstImage_holders firstImage_kinds firstImage_purses firstImage_homes) ++ ((W_Acts cI cZ q_acts q_acts_saved acts_saved acts_next acts_kept)))) ⟨hx, hb, hml, hown, hts⟩ (m_X3_become l dC dI cI cZ q_land q_land_heights q_land_holders q_land_kinds q_land_purses q_land_homes q_secondImage q_secondImage_heights q_secondImage_holders q_secondImage_kinds q_secondImage_purses q_secondImage_homes land_told land_low land_high land_price land_hour land_bidders land_heights land_holders land_kinds land_purses land_homes secondImage_told secondImage_low secondImage_high secondImage_price secondImage_hour secondImage_bidders secondImage_heights secondImage_holders secondImage_kinds secondImage_purses secondImage_homes _ (land_told_6, land_low_6, land_high_6, land_price_6, land_hour_6, land_bidders_6, land_heights_6, land_holders_6, land_kinds_6, land_purses_6, land_homes_6) hc_6) (cwV 1 hts gX8_restore_X3_become rfl rfl rfl ⟨rfl, ddX3_become⟩ ⟨Nat.le_of_ble_eq_true rfl, Nat.le_of_ble_eq_true rfl⟩) hK hP hD hS hA [1, 2, 3, 4, 5, 6, 13, 14, 15, 16, 17, 18] [0, 7, 8, 9, 10, 11, 12, 19, 20] rfl rfl rfl rfl (by decide) [0, 9, 10, 11, 12, 13, 14, 1, 2, 3, 4, 5, 6, 15, 16, 17, 18, 19, 20, 7, 8] rfl rfl rfl rfl rfl rfl rfl hl.1 (Nat.le_of_ble_eq_true rfl) ⟨Nat.zero_le _, Nat.zero_le _⟩ dX8_restore_41 (fun H locs hP hD hS => ?_)
        refine lv_aload_n hx hb dX8_restore_44 rfl (lv_at hl 1 rfl) ?_
        refine va_get (D := (dC, dI)) (ci := 6) (v := .ref q_acts) (C := RX8) (T := TX8) (N := 10) hx hb hts w_1 hown hK hP 0 rfl rfl 6 (by decide) w_3 (fun _ h9 => h9) rfl dX8_restore_45 ?_
        obtain ⟨acts_kept_7, hc_7, h⟩ := bd1_of h
        refine cl_mVv (As := []) (rest := []) (ws' := (W_X cI cZ q_s q_rows q_tape q_land q_spare q_firstImage q_secondImage q_acts q_basket q_asks s_finding) ++ ((W_Isle cI cZ q_land q_land_heights q_land_holders q_land_kinds q_land_purses q_land_homes land_told_6 land_low_6 land_high_6 land_price_6 land_hour_6 land_bidders_6 land_heights_6 land_holders_6 land_kinds_6 land_purses_6 land_homes_6) ++ ((W_Isle cI cZ q_firstImage q_firstImage_heights q_firstImage_holders q_firstImage_kinds q_firstImage_purses q_firstImage_homes firstImage_told firstImage_low firstImage_high firstImage_price firstImage_hour firstImage_bidders firstImage_heights firstImage_holders firstImage_kinds firstImage_purses firstImage_homes) ++ ((W_Isle cI cZ q_secondImage q_secondImage_heights q_secondImage_holders q_secondImage_kinds q_secondImage_purses q_secondImage_homes secondImage_told secondImage_low secondImage_high secondImage_price secondImage_hour secondImage_bidders secondImage_heights secondImage_holders secondImage_kinds secondImage_purses secondImage_homes) ++ ((W_Acts cI cZ q_acts q_acts_saved acts_saved acts_next acts_kept_7)))))) (wr := (W_X cI cZ q_s q_rows q_tape q_land q_spare q_firstImage q_secondImage q_acts q_basket q_asks s_finding) ++ ((W_Isle cI cZ q_land q_land_heights q_land_holders q_land_kinds q_land_purses q_land_homes land_told_6 land_low_6 land_high_6 land_price_6 land_hour_6 land_bidders_6 land_heights_6 land_holders_6 land_kinds_6 land_purses_6 land_homes_6) ++ ((W_Isle cI cZ q_firstImage q_firstImage_heights q_firstImage_holders q_firstImage_kinds q_firstImage_purses q_firstImage_homes firstImage_told firstImage_low firstImage_high firstImage_price firstImage_hour firstImage_bidders firstImage_heights firstImage_holders firstImage_kinds firstImage_purses firstImage_homes) ++ ((W_Isle cI cZ q_secondImage q_secondImage_heights q_secondImage_holders q_secondImage_kinds q_secondImage_purses q_secondImage_homes secondImage_told secondImage_low secondImage_high secondImage_price secondImage_hour secondImage_bidders secondImage_heights secondImage_holders secondImage_kinds secondImage_purses secondImage_homes))))) ⟨hx, hb, hml, hown, hts⟩ (m_X0_forget l dC dI cI cZ q_acts q_acts_saved acts_saved acts_next acts_kept _ (acts_kept_7) hc_7) (cwV 0 hts gX8_restore_X0_forget rfl rfl rfl ⟨rfl, ddX0_forget⟩ ⟨Nat.le_of_ble_eq_true rfl, Nat.le_of_ble_eq_true rfl⟩) hK hP hD hS hA [19, 20] [0, 1, 2, 3, 4, 5, 6, 7, 8, 9, 10, 11, 12, 13, 14, 15, 16, 17, 18] rfl rfl rfl rfl (by decide) [0, 1, 2, 3, 4, 5, 6, 7, 8, 9, 10, 11, 12, 13, 14, 15, 16, 17, 18, 19, 20] rfl rfl rfl rfl rfl rfl rfl hl.1 (Nat.le_of_ble_eq_true rfl) ⟨Nat.zero_le _, Nat.zero_le _⟩ dX8_restore_48 (fun H locs hP hD hS => ?_)
        refine lv_iconst (v := 1) hx hb dX8_restore_51 (by decide) ?_
        have h := Option.some.inj h
        subst h
        rw [hQQ]
        subst hAe
        exact W.iret (v := 1) hx hb hr (fun t ht hW => ⟨⟨_, (), rfl, rfl, by rw [ht]; exact hP, va_K.moved hW.alike hK, hD⟩, hS.F ht⟩) hS.2.2 dX8_restore_52
      · have h := (if_pos c_5).symm.trans h
        refine lv_ldc hx hb hown w_4 dX8_restore_33 ?_
        have h := Option.some.inj h
        subst h
        rw [hQQ]
        subst hAe
        exact W.iret (v := (-1000002)) hx hb hr (fun t ht hW => ⟨⟨_, (), rfl, rfl, by rw [ht]; exact hP, va_K.moved hW.alike hK, hD⟩, hS.F ht⟩) hS.2.2 dX8_restore_35
    · have h := (if_pos c_3).symm.trans h
      refine lv_aload_n hx hb dX8_restore_14 rfl (lv_at hl 0 rfl) ?_
      refine va_get (D := (dC, dI)) (ci := 6) (v := .ref q_firstImage) (C := RX8) (T := TX8) (N := 10) hx hb hts w_1 hown hK hP 0 rfl rfl 4 (by decide) w_5 (fun _ h9 => h9) rfl dX8_restore_15 ?_
      refine lv_goto (tgt := 25) hx hb dX8_restore_18 (by decide) ?_
      refine lv_astore_n (lv' := [(2, .ref q_firstImage), (0, .ref q_s), (1, .int v1)]) hx hb dX8_restore_25 rfl hl (by decide) rfl (fun ls hl => ?_)
      refine lv_aload_n hx hb dX8_restore_26 rfl (lv_at hl 0 rfl) ?_
      obtain ⟨r_8, hc_8, h⟩ := bd1_of h
      refine cl_rV (As := []) (rest := []) ⟨hx, hb, hml, hown, hts⟩ (m_X3_isTold l dC dI cI cZ q_firstImage q_firstImage_heights q_firstImage_holders q_firstImage_kinds q_firstImage_purses q_firstImage_homes firstImage_told firstImage_low firstImage_high firstImage_price firstImage_hour firstImage_bidders firstImage_heights firstImage_holders firstImage_kinds firstImage_purses firstImage_homes (r_8) hc_8) (cwV 0 hts gX8_restore_X3_isTold rfl rfl rfl ⟨rfl, ddX3_isTold⟩ ⟨Nat.le_of_ble_eq_true rfl, Nat.le_of_ble_eq_true rfl⟩) hK hP [7, 8, 9, 10, 11, 12] rfl rfl rfl rfl rfl hl.1 (Nat.le_of_ble_eq_true rfl) ⟨Nat.zero_le _, Nat.zero_le _⟩ dX8_restore_27 ?_
      refine lv_if_ne (tgt := 36) hx hb dX8_restore_30 (by decide) (fun c_9 => ?_) (fun c_9 => ?_)
      · have h := (if_neg c_9).symm.trans h
        refine lv_aload_n hx hb dX8_restore_36 rfl (lv_at hl 1 rfl) ?_
        refine va_get (D := (dC, dI)) (ci := 6) (v := .ref q_land) (C := RX8) (T := TX8) (N := 10) hx hb hts w_1 hown hK hP 0 rfl rfl 2 (by decide) w_2 (fun _ h9 => h9) rfl dX8_restore_37 ?_
        refine lv_aload_n hx hb dX8_restore_40 rfl (lv_at hl 0 rfl) ?_
        obtain ⟨land_told_10, land_low_10, land_high_10, land_price_10, land_hour_10, land_bidders_10, land_heights_10, land_holders_10, land_kinds_10, land_purses_10, land_homes_10, hc_10, h⟩ := bd11_of h
        refine cl_mVv (As := [.ref q_firstImage]) (rest := []) (ws' := (W_X cI cZ q_s q_rows q_tape q_land q_spare q_firstImage q_secondImage q_acts q_basket q_asks s_finding) ++ ((W_Isle cI cZ q_land q_land_heights q_land_holders q_land_kinds q_land_purses q_land_homes land_told_10 land_low_10 land_high_10 land_price_10 land_hour_10 land_bidders_10 land_heights_10 land_holders_10 land_kinds_10 land_purses_10 land_homes_10) ++ ((W_Isle cI cZ q_firstImage q_firstImage_heights q_firstImage_holders q_firstImage_kinds q_firstImage_purses q_firstImage_homes firstImage_told firstImage_low firstImage_high firstImage_price firstImage_hour firstImage_bidders firstImage_heights firstImage_holders firstImage_kinds firstImage_purses firstImage_homes) ++ ((W_Isle cI cZ q_secondImage q_secondImage_heights q_secondImage_holders q_secondImage_kinds q_secondImage_purses q_secondImage_homes secondImage_told secondImage_low secondImage_high secondImage_price secondImage_hour secondImage_bidders secondImage_heights secondImage_holders secondImage_kinds secondImage_purses secondImage_homes) ++ ((W_Acts cI cZ q_acts q_acts_saved acts_saved acts_next acts_kept)))))) (wr := (W_X cI cZ q_s q_rows q_tape q_land q_spare q_firstImage q_secondImage q_acts q_basket q_asks s_finding) ++ ((W_Isle cI cZ q_secondImage q_secondImage_heights q_secondImage_holders q_secondImage_kinds q_secondImage_purses q_secondImage_homes secondImage_told secondImage_low secondImage_high secondImage_price secondImage_hour secondImage_bidders secondImage_heights secondImage_holders secondImage_kinds secondImage_purses secondImage_homes) ++ ((W_Acts cI cZ q_acts q_acts_saved acts_saved acts_next acts_kept)))) ⟨hx, hb, hml, hown, hts⟩ (m_X3_become l dC dI cI cZ q_land q_land_heights q_land_holders q_land_kinds q_land_purses q_land_homes q_firstImage q_firstImage_heights q_firstImage_holders q_firstImage_kinds q_firstImage_purses q_firstImage_homes land_told land_low land_high land_price land_hour land_bidders land_heights land_holders land_kinds land_purses land_homes firstImage_told firstImage_low firstImage_high firstImage_price firstImage_hour firstImage_bidders firstImage_heights firstImage_holders firstImage_kinds firstImage_purses firstImage_homes _ (land_told_10, land_low_10, land_high_10, land_price_10, land_hour_10, land_bidders_10, land_heights_10, land_holders_10, land_kinds_10, land_purses_10, land_homes_10) hc_10) (cwV 1 hts gX8_restore_X3_become rfl rfl rfl ⟨rfl, ddX3_become⟩ ⟨Nat.le_of_ble_eq_true rfl, Nat.le_of_ble_eq_true rfl⟩) hK hP hD hS hA [1, 2, 3, 4, 5, 6, 7, 8, 9, 10, 11, 12] [0, 13, 14, 15, 16, 17, 18, 19, 20] rfl rfl rfl rfl (by decide) [0, 9, 10, 11, 12, 13, 14, 15, 16, 17, 18, 19, 20, 1, 2, 3, 4, 5, 6, 7, 8] rfl rfl rfl rfl rfl rfl rfl hl.1 (Nat.le_of_ble_eq_true rfl) ⟨Nat.zero_le _, Nat.zero_le _⟩ dX8_restore_41 (fun H locs hP hD hS => ?_)
        refine lv_aload_n hx hb dX8_restore_44 rfl (lv_at hl 1 rfl) ?_
        refine va_get (D := (dC, dI)) (ci := 6) (v := .ref q_acts) (C := RX8) (T := TX8) (N := 10) hx hb hts w_1 hown hK hP 0 rfl rfl 6 (by decide) w_3 (fun _ h9 => h9) rfl dX8_restore_45 ?_
        obtain ⟨acts_kept_11, hc_11, h⟩ := bd1_of h
        refine cl_mVv (As := []) (rest := []) (ws' := (W_X cI cZ q_s q_rows q_tape q_land q_spare q_firstImage q_secondImage q_acts q_basket q_asks s_finding) ++ ((W_Isle cI cZ q_land q_land_heights q_land_holders q_land_kinds q_land_purses q_land_homes land_told_10 land_low_10 land_high_10 land_price_10 land_hour_10 land_bidders_10 land_heights_10 land_holders_10 land_kinds_10 land_purses_10 land_homes_10) ++ ((W_Isle cI cZ q_firstImage q_firstImage_heights q_firstImage_holders q_firstImage_kinds q_firstImage_purses q_firstImage_homes firstImage_told firstImage_low firstImage_high firstImage_price firstImage_hour firstImage_bidders firstImage_heights firstImage_holders firstImage_kinds firstImage_purses firstImage_homes) ++ ((W_Isle cI cZ q_secondImage q_secondImage_heights q_secondImage_holders q_secondImage_kinds q_secondImage_purses q_secondImage_homes secondImage_told secondImage_low secondImage_high secondImage_price secondImage_hour secondImage_bidders secondImage_heights secondImage_holders secondImage_kinds secondImage_purses secondImage_homes) ++ ((W_Acts cI cZ q_acts q_acts_saved acts_saved acts_next acts_kept_11)))))) (wr := (W_X cI cZ q_s q_rows q_tape q_land q_spare q_firstImage q_secondImage q_acts q_basket q_asks s_finding) ++ ((W_Isle cI cZ q_land q_land_heights q_land_holders q_land_kinds q_land_purses q_land_homes land_told_10 land_low_10 land_high_10 land_price_10 land_hour_10 land_bidders_10 land_heights_10 land_holders_10 land_kinds_10 land_purses_10 land_homes_10) ++ ((W_Isle cI cZ q_firstImage q_firstImage_heights q_firstImage_holders q_firstImage_kinds q_firstImage_purses q_firstImage_homes firstImage_told firstImage_low firstImage_high firstImage_price firstImage_hour firstImage_bidders firstImage_heights firstImage_holders firstImage_kinds firstImage_purses firstImage_homes) ++ ((W_Isle cI cZ q_secondImage q_secondImage_heights q_secondImage_holders q_secondImage_kinds q_secondImage_purses q_secondImage_homes secondImage_told secondImage_low secondImage_high secondImage_price secondImage_hour secondImage_bidders secondImage_heights secondImage_holders secondImage_kinds secondImage_purses secondImage_homes))))) ⟨hx, hb, hml, hown, hts⟩ (m_X0_forget l dC dI cI cZ q_acts q_acts_saved acts_saved acts_next acts_kept _ (acts_kept_11) hc_11) (cwV 0 hts gX8_restore_X0_forget rfl rfl rfl ⟨rfl, ddX0_forget⟩ ⟨Nat.le_of_ble_eq_true rfl, Nat.le_of_ble_eq_true rfl⟩) hK hP hD hS hA [19, 20] [0, 1, 2, 3, 4, 5, 6, 7, 8, 9, 10, 11, 12, 13, 14, 15, 16, 17, 18] rfl rfl rfl rfl (by decide) [0, 1, 2, 3, 4, 5, 6, 7, 8, 9, 10, 11, 12, 13, 14, 15, 16, 17, 18, 19, 20] rfl rfl rfl rfl rfl rfl rfl hl.1 (Nat.le_of_ble_eq_true rfl) ⟨Nat.zero_le _, Nat.zero_le _⟩ dX8_restore_48 (fun H locs hP hD hS => ?_)
        refine lv_iconst (v := 1) hx hb dX8_restore_51 (by decide) ?_
        have h := Option.some.inj h
        subst h
        rw [hQQ]
        subst hAe
        exact W.iret (v := 1) hx hb hr (fun t ht hW => ⟨⟨_, (), rfl, rfl, by rw [ht]; exact hP, va_K.moved hW.alike hK, hD⟩, hS.F ht⟩) hS.2.2 dX8_restore_52
      · have h := (if_pos c_9).symm.trans h
        refine lv_ldc hx hb hown w_4 dX8_restore_33 ?_
        have h := Option.some.inj h
        subst h
        rw [hQQ]
        subst hAe
        exact W.iret (v := (-1000002)) hx hb hr (fun t ht hW => ⟨⟨_, (), rfl, rfl, by rw [ht]; exact hP, va_K.moved hW.alike hK, hD⟩, hS.F ht⟩) hS.2.2 dX8_restore_35
  · have h := (if_pos c_2).symm.trans h
    refine lv_ldc hx hb hown w_6 dX8_restore_7 ?_
    have h := Option.some.inj h
    subst h
    rw [hQQ]
    subst hAe
    exact W.iret (v := (-1000001)) hx hb hr (fun t ht hW => ⟨⟨_, (), rfl, rfl, by rw [ht]; exact hP, va_K.moved hW.alike hK, hD⟩, hS.F ht⟩) hS.2.2 dX8_restore_9
def fX8_kind (land_bidders : Int32) (land_kinds : (Nat → Int32)) (v1 : Int32) : Option (Int32) :=
  bd1 (fX3_hasBidder land_bidders v1) (fun r_1 => (if r_1 = 0 then some ((-1000001)) else bd1 (fX3_kindOf land_kinds v1) (fun r_3 => some (r_3))))
abbrev rmX8_kind : Room := { frames := 1, cells := 0, slots := 0, locals := 21 }
theorem ddX8_kind : yX8_kind.cls ≠ "java/lang/invoke/MethodHandle" ∧ yX8_kind.cls ≠ "java/lang/invoke/VarHandle" ∧ (parseMethodDescriptor yX8_kind.desc).map (fun d => d.parameters.length) = some 1 := by decide +kernel
set_option maxHeartbeats 4000000 in
set_option maxRecDepth 100000 in
theorem m_X8_kind (l : Launch) (dC : Nat → ClassId) (dI : Nat → Nat → Nat) (cI cZ : ClassId) (q_s q_rows q_tape q_land q_spare q_firstImage q_secondImage q_acts q_basket q_asks q_land q_land_heights q_land_holders q_land_kinds q_land_purses q_land_homes : Nat) (s_finding : Int32) (land_told : Int32) (land_low : Int32) (land_high : Int32) (land_price : Int32) (land_hour : Int32) (land_bidders : Int32) (land_heights : (Nat → Int32)) (land_holders : (Nat → Int32)) (land_kinds : (Nat → Int32)) (land_purses : (Nat → Int32)) (land_homes : (Nat → Int32)) (v1 : Int32) (res : Int32) (hf : fX8_kind land_bidders land_kinds v1 = some res) : Met l yX8_kind wsX8_kind rmX8_kind (rdPc (dC, dI) (tyZ cI cZ) ((W_X cI cZ q_s q_rows q_tape q_land q_spare q_firstImage q_secondImage q_acts q_basket q_asks s_finding) ++ ((W_Isle cI cZ q_land q_land_heights q_land_holders q_land_kinds q_land_purses q_land_homes land_told land_low land_high land_price land_hour land_bidders land_heights land_holders land_kinds land_purses land_homes))) [.ref q_s, .int v1]) (rdQ res) 0 0 (fun _ => False) := by
  refine Met.ofW (cc := cX8_kind) (maxL := 2) (ret := (some .int)) (by decide) rfl ?_
  intro p e s m args below meth c s₁ B hml hv
  obtain ⟨rfl, hP, hK⟩ := hv
  have hx := B.exec
  have hb := B.bytes
  have hr := B.returns
  have hts := atoms_spec (ws := wsX8_kind) B.pre
  have hown : s.vm.findClass RX8 = some m.cls := findClass_of_methodNamed B.named
  have hlocks := B.notSynchronized
  have hl := lv_entry ([.ref q_s, .int v1]) (n := 2) (Nat.le_of_ble_eq_true rfl)
  rw [lg_entry_eq]
  generalize (lg_sl ([.ref q_s, .int v1]) ++ List.replicate (2 - (lg_sl ([.ref q_s, .int v1])).length) Slot.unset).toArray = ls at hl ⊢
  have hl : lv_has ls 2 [(0, .ref q_s), (1, .int v1)] := hl
  obtain ⟨QQ, hQQ⟩ : ∃ Q, Q = MQ below (rdQ res) ([.ref q_s, .int v1] : List Value).toArray s 0 0 (fun _ => False) := ⟨_, rfl⟩
  rw [← hQQ]
  have w_0 := hts (Cond.fieldLink RX8 26 "TideInches" "land" "LTideInches$Isle;") (List.mem_of_getElem? (i := 1) rfl)
  have w_1 := (fun w hw => List.mem_cons_of_mem _ (List.mem_append_left _ (List.mem_append_right _ hw)) : ∀ w ∈ wsX80, w ∈ wsX8_kind)
  have w_2 := hts (Cond.constant RX8 68 (-1000001)) (List.mem_of_getElem? (i := 2) rfl)
  have h := hf
  unfold fX8_kind at h
  refine lv_aload_n hx hb dX8_kind_0 rfl (lv_at hl 0 rfl) ?_
  refine va_get (D := (dC, dI)) (ci := 6) (v := .ref q_land) (C := RX8) (T := TX8) (N := 10) hx hb hts w_1 hown hK hP 0 rfl rfl 2 (by decide) w_0 (fun _ h9 => h9) rfl dX8_kind_1 ?_
  refine lv_iload_n hx hb dX8_kind_4 rfl (lv_at hl 1 rfl) ?_
  obtain ⟨r_1, hc_1, h⟩ := bd1_of h
  refine cl_rV (As := [.int v1]) (rest := []) ⟨hx, hb, hml, hown, hts⟩ (m_X3_hasBidder l dC dI cI cZ q_land q_land_heights q_land_holders q_land_kinds q_land_purses q_land_homes land_told land_low land_high land_price land_hour land_bidders land_heights land_holders land_kinds land_purses land_homes v1 (r_1) hc_1) (cwV 1 hts gX8_kind_X3_hasBidder rfl rfl rfl ⟨rfl, ddX3_hasBidder⟩ ⟨Nat.le_of_ble_eq_true rfl, Nat.le_of_ble_eq_true rfl⟩) hK hP [1, 2, 3, 4, 5, 6] rfl rfl rfl rfl rfl hl.1 (Nat.le_of_ble_eq_true rfl) ⟨Nat.zero_le _, Nat.zero_le _⟩ dX8_kind_5 ?_
  refine lv_if_eq (tgt := 22) hx hb dX8_kind_8 (by decide) (fun c_2 => ?_) (fun c_2 => ?_)
  · have h := (if_pos c_2).symm.trans h
    refine lv_ldc hx hb hown w_2 dX8_kind_22 ?_
    rw [hQQ]
    exact W.iret (v := (-1000001)) hx hb hr (fun t ht hW => ⟨_, rfl, Option.some.inj h, ht⟩) (fun q hq => by cases hq) dX8_kind_24
  · have h := (if_neg c_2).symm.trans h
    refine lv_aload_n hx hb dX8_kind_11 rfl (lv_at hl 0 rfl) ?_
    refine va_get (D := (dC, dI)) (ci := 6) (v := .ref q_land) (C := RX8) (T := TX8) (N := 10) hx hb hts w_1 hown hK hP 0 rfl rfl 2 (by decide) w_0 (fun _ h9 => h9) rfl dX8_kind_12 ?_
    refine lv_iload_n hx hb dX8_kind_15 rfl (lv_at hl 1 rfl) ?_
    obtain ⟨r_3, hc_3, h⟩ := bd1_of h
    refine cl_rV (As := [.int v1]) (rest := []) ⟨hx, hb, hml, hown, hts⟩ (m_X3_kindOf l dC dI cI cZ q_land q_land_heights q_land_holders q_land_kinds q_land_purses q_land_homes land_told land_low land_high land_price land_hour land_bidders land_heights land_holders land_kinds land_purses land_homes v1 (r_3) hc_3) (cwV 1 hts gX8_kind_X3_kindOf rfl rfl rfl ⟨rfl, ddX3_kindOf⟩ ⟨Nat.le_of_ble_eq_true rfl, Nat.le_of_ble_eq_true rfl⟩) hK hP [1, 2, 3, 4, 5, 6] rfl rfl rfl rfl rfl hl.1 (Nat.le_of_ble_eq_true rfl) ⟨Nat.zero_le _, Nat.zero_le _⟩ dX8_kind_16 ?_
    refine lv_goto (tgt := 24) hx hb dX8_kind_19 (by decide) ?_
    rw [hQQ]
    exact W.iret (v := r_3) hx hb hr (fun t ht hW => ⟨_, rfl, Option.some.inj h, ht⟩) (fun q hq => by cases hq) dX8_kind_24
def fX8_as (s_finding : Int32) (land_bidders : Int32) (land_kinds : (Nat → Int32)) (v1 : Int32) (v2 : Int32) : Option (Int32 × Int32) :=
  bd1 (fX3_hasBidder land_bidders v1) (fun r_1 => (if r_1 = 0 then some ((-1000001), s_finding) else (if v2 < 0 then some ((-1000001), s_finding) else (if v2 ≤ 5 then bd1 (fX3_kindOf land_kinds v1) (fun r_5 => bd1 (fX4_isA r_5 v2) (fun r_6 => (if r_6 = 0 then bd2 (fX8_found 3) (fun r_8 s_finding_8 => some (r_8, s_finding_8)) else bd2 (fX8_unfound v1) (fun r_9 s_finding_9 => some (r_9, s_finding_9))))) else some ((-1000001), s_finding)))))
abbrev rmX8_as : Room := { frames := 2, cells := 0, slots := 0, locals := 43 }
theorem ddX8_as : yX8_as.cls ≠ "java/lang/invoke/MethodHandle" ∧ yX8_as.cls ≠ "java/lang/invoke/VarHandle" ∧ (parseMethodDescriptor yX8_as.desc).map (fun d => d.parameters.length) = some 2 := by decide +kernel
set_option maxHeartbeats 4000000 in
set_option maxRecDepth 100000 in
theorem m_X8_as (l : Launch) (dC : Nat → ClassId) (dI : Nat → Nat → Nat) (cI cZ : ClassId) (q_s q_rows q_tape q_land q_spare q_firstImage q_secondImage q_acts q_basket q_asks q_land q_land_heights q_land_holders q_land_kinds q_land_purses q_land_homes : Nat) (s_finding : Int32) (land_told : Int32) (land_low : Int32) (land_high : Int32) (land_price : Int32) (land_hour : Int32) (land_bidders : Int32) (land_heights : (Nat → Int32)) (land_holders : (Nat → Int32)) (land_kinds : (Nat → Int32)) (land_purses : (Nat → Int32)) (land_homes : (Nat → Int32)) (v1 : Int32) (v2 : Int32) (sz : Nat) (res : Int32 × Int32) (hf : fX8_as s_finding land_bidders land_kinds v1 v2 = some res) : Met l yX8_as wsX8_as rmX8_as (mtPc (dC, dI) (tyZ cI cZ) ((W_X cI cZ q_s q_rows q_tape q_land q_spare q_firstImage q_secondImage q_acts q_basket q_asks s_finding) ++ ((W_Isle cI cZ q_land q_land_heights q_land_holders q_land_kinds q_land_purses q_land_homes land_told land_low land_high land_price land_hour land_bidders land_heights land_holders land_kinds land_purses land_homes))) [.ref q_s, .int v1, .int v2] sz) (mtQi (dC, dI) (tyZ cI cZ) ((W_X cI cZ q_s q_rows q_tape q_land q_spare q_firstImage q_secondImage q_acts q_basket q_asks s_finding) ++ ((W_Isle cI cZ q_land q_land_heights q_land_holders q_land_kinds q_land_purses q_land_homes land_told land_low land_high land_price land_hour land_bidders land_heights land_holders land_kinds land_purses land_homes))) ((W_X cI cZ q_s q_rows q_tape q_land q_spare q_firstImage q_secondImage q_acts q_basket q_asks res.2) ++ ((W_Isle cI cZ q_land q_land_heights q_land_holders q_land_kinds q_land_purses q_land_homes land_told land_low land_high land_price land_hour land_bidders land_heights land_holders land_kinds land_purses land_homes))) res.1 sz) 0 0 (va_A ((W_X cI cZ q_s q_rows q_tape q_land q_spare q_firstImage q_secondImage q_acts q_basket q_asks s_finding) ++ ((W_Isle cI cZ q_land q_land_heights q_land_holders q_land_kinds q_land_purses q_land_homes land_told land_low land_high land_price land_hour land_bidders land_heights land_holders land_kinds land_purses land_homes))) sz) := by
  refine Met.ofW (cc := cX8_as) (maxL := 3) (ret := (some .int)) (by decide) rfl ?_
  intro p e s m args below meth c s₁ B hml hv
  obtain ⟨rfl, hsz, hP, hK, hD0⟩ := hv
  have hx := B.exec
  have hb := B.bytes
  have hr := B.returns
  have hts := atoms_spec (ws := wsX8_as) B.pre
  have hown : s.vm.findClass RX8 = some m.cls := findClass_of_methodNamed B.named
  have hlocks := B.notSynchronized
  subst hsz
  have hD := hD0.self (sz := s.heap.size)
  obtain ⟨A, hAe⟩ : ∃ A, A = va_A ((W_X cI cZ q_s q_rows q_tape q_land q_spare q_firstImage q_secondImage q_acts q_basket q_asks s_finding) ++ ((W_Isle cI cZ q_land q_land_heights q_land_holders q_land_kinds q_land_purses q_land_homes land_told land_low land_high land_price land_hour land_bidders land_heights land_holders land_kinds land_purses land_homes))) s.heap.size := ⟨_, rfl⟩
  rw [← hAe] at hD
  have hA : ∀ q : Nat, s.heap.size ≤ q → A q := fun q h => by rw [hAe]; exact Or.inr h
  have hS : va_S A s.heap s.heap [] := va_S.rf
  have hl := lv_entry ([.ref q_s, .int v1, .int v2]) (n := 3) (Nat.le_of_ble_eq_true rfl)
  rw [lg_entry_eq]
  generalize (lg_sl ([.ref q_s, .int v1, .int v2]) ++ List.replicate (3 - (lg_sl ([.ref q_s, .int v1, .int v2])).length) Slot.unset).toArray = ls at hl ⊢
  have hl : lv_has ls 3 [(0, .ref q_s), (1, .int v1), (2, .int v2)] := hl
  obtain ⟨QQ, hQQ⟩ : ∃ Q, Q = MQ below (mtQi (dC, dI) (tyZ cI cZ) ((W_X cI cZ q_s q_rows q_tape q_land q_spare q_firstImage q_secondImage q_acts q_basket q_asks s_finding) ++ ((W_Isle cI cZ q_land q_land_heights q_land_holders q_land_kinds q_land_purses q_land_homes land_told land_low land_high land_price land_hour land_bidders land_heights land_holders land_kinds land_purses land_homes))) ((W_X cI cZ q_s q_rows q_tape q_land q_spare q_firstImage q_secondImage q_acts q_basket q_asks res.2) ++ ((W_Isle cI cZ q_land q_land_heights q_land_holders q_land_kinds q_land_purses q_land_homes land_told land_low land_high land_price land_hour land_bidders land_heights land_holders land_kinds land_purses land_homes))) res.1 s.heap.size) ([.ref q_s, .int v1, .int v2] : List Value).toArray s 0 0 (va_A ((W_X cI cZ q_s q_rows q_tape q_land q_spare q_firstImage q_secondImage q_acts q_basket q_asks s_finding) ++ ((W_Isle cI cZ q_land q_land_heights q_land_holders q_land_kinds q_land_purses q_land_homes land_told land_low land_high land_price land_hour land_bidders land_heights land_holders land_kinds land_purses land_homes))) s.heap.size) := ⟨_, rfl⟩
  rw [← hQQ]
  have w_0 := hts (Cond.fieldLink RX8 26 "TideInches" "land" "LTideInches$Isle;") (List.mem_of_getElem? (i := 1) rfl)
  have w_1 := (fun w hw => List.mem_cons_of_mem _ (List.mem_append_left _ (List.mem_append_right _ hw)) : ∀ w ∈ wsX80, w ∈ wsX8_as)
  have w_2 := hts (Cond.constant RX8 68 (-1000001)) (List.mem_of_getElem? (i := 2) rfl)
  have h := hf
  unfold fX8_as at h
  refine lv_aload_n hx hb dX8_as_0 rfl (lv_at hl 0 rfl) ?_
  refine va_get (D := (dC, dI)) (ci := 6) (v := .ref q_land) (C := RX8) (T := TX8) (N := 10) hx hb hts w_1 hown hK hP 0 rfl rfl 2 (by decide) w_0 (fun _ h9 => h9) rfl dX8_as_1 ?_
  refine lv_iload_n hx hb dX8_as_4 rfl (lv_at hl 1 rfl) ?_
  obtain ⟨r_1, hc_1, h⟩ := bd1_of h
  refine cl_rV (As := [.int v1]) (rest := []) ⟨hx, hb, hml, hown, hts⟩ (m_X3_hasBidder l dC dI cI cZ q_land q_land_heights q_land_holders q_land_kinds q_land_purses q_land_homes land_told land_low land_high land_price land_hour land_bidders land_heights land_holders land_kinds land_purses land_homes v1 (r_1) hc_1) (cwV 1 hts gX8_as_X3_hasBidder rfl rfl rfl ⟨rfl, ddX3_hasBidder⟩ ⟨Nat.le_of_ble_eq_true rfl, Nat.le_of_ble_eq_true rfl⟩) hK hP [1, 2, 3, 4, 5, 6] rfl rfl rfl rfl rfl hl.1 (Nat.le_of_ble_eq_true rfl) ⟨Nat.zero_le _, Nat.zero_le _⟩ dX8_as_5 ?_
  refine lv_if_eq (tgt := 20) hx hb dX8_as_8 (by decide) (fun c_2 => ?_) (fun c_2 => ?_)
  · have h := (if_pos c_2).symm.trans h
    refine lv_ldc hx hb hown w_2 dX8_as_20 ?_
    have h := Option.some.inj h
    subst h
    rw [hQQ]
    subst hAe
    exact W.iret (v := (-1000001)) hx hb hr (fun t ht hW => ⟨⟨_, (), rfl, rfl, by rw [ht]; exact hP, va_K.moved hW.alike hK, hD⟩, hS.F ht⟩) hS.2.2 dX8_as_22
  · have h := (if_neg c_2).symm.trans h
    refine lv_iload_n hx hb dX8_as_11 rfl (lv_at hl 2 rfl) ?_
    refine lv_if_lt (tgt := 20) hx hb dX8_as_12 (by decide) (fun c_3 => ?_) (fun c_3 => ?_)
    · have h := (if_pos c_3).symm.trans h
      refine lv_ldc hx hb hown w_2 dX8_as_20 ?_
      have h := Option.some.inj h
      subst h
      rw [hQQ]
      subst hAe
      exact W.iret (v := (-1000001)) hx hb hr (fun t ht hW => ⟨⟨_, (), rfl, rfl, by rw [ht]; exact hP, va_K.moved hW.alike hK, hD⟩, hS.F ht⟩) hS.2.2 dX8_as_22
    · have h := (if_neg c_3).symm.trans h
      refine lv_iload_n hx hb dX8_as_15 rfl (lv_at hl 2 rfl) ?_
      refine lv_iconst (v := 5) hx hb dX8_as_16 (by decide) ?_
      refine lv_icmp_le (tgt := 23) hx hb dX8_as_17 (by decide) (fun c_4 => ?_) (fun c_4 => ?_)
      · have h := (if_pos c_4).symm.trans h
        refine lv_aload_n hx hb dX8_as_23 rfl (lv_at hl 0 rfl) ?_
        refine va_get (D := (dC, dI)) (ci := 6) (v := .ref q_land) (C := RX8) (T := TX8) (N := 10) hx hb hts w_1 hown hK hP 0 rfl rfl 2 (by decide) w_0 (fun _ h9 => h9) rfl dX8_as_24 ?_
        refine lv_iload_n hx hb dX8_as_27 rfl (lv_at hl 1 rfl) ?_
        obtain ⟨r_5, hc_5, h⟩ := bd1_of h
        refine cl_rV (As := [.int v1]) (rest := []) ⟨hx, hb, hml, hown, hts⟩ (m_X3_kindOf l dC dI cI cZ q_land q_land_heights q_land_holders q_land_kinds q_land_purses q_land_homes land_told land_low land_high land_price land_hour land_bidders land_heights land_holders land_kinds land_purses land_homes v1 (r_5) hc_5) (cwV 1 hts gX8_as_X3_kindOf rfl rfl rfl ⟨rfl, ddX3_kindOf⟩ ⟨Nat.le_of_ble_eq_true rfl, Nat.le_of_ble_eq_true rfl⟩) hK hP [1, 2, 3, 4, 5, 6] rfl rfl rfl rfl rfl hl.1 (Nat.le_of_ble_eq_true rfl) ⟨Nat.zero_le _, Nat.zero_le _⟩ dX8_as_28 ?_
        refine lv_iload_n hx hb dX8_as_31 rfl (lv_at hl 2 rfl) ?_
        obtain ⟨r_6, hc_6, h⟩ := bd1_of h
        refine cl_pS (As := [.int r_5, .int v2]) (rest := []) ⟨hx, hb, hml, hown, hts⟩ (m_X4_isA l r_5 v2 (r_6) hc_6) (va_cwS 2 hts gX8_as_X4_isA rfl rfl rfl ddX4_isA ⟨Nat.le_of_ble_eq_true rfl, Nat.le_of_ble_eq_true rfl⟩) rfl rfl hl.1 (Nat.le_of_ble_eq_true rfl) ⟨Nat.zero_le _, Nat.zero_le _⟩ dX8_as_32 ?_
        refine lv_if_eq (tgt := 46) hx hb dX8_as_35 (by decide) (fun c_7 => ?_) (fun c_7 => ?_)
        · have h := (if_pos c_7).symm.trans h
          refine lv_aload_n hx hb dX8_as_46 rfl (lv_at hl 0 rfl) ?_
          refine lv_iconst (v := 3) hx hb dX8_as_47 (by decide) ?_
          obtain ⟨r_8, s_finding_8, hc_8, h⟩ := bd2_of h
          refine cl_mVi (As := [.int 3]) (rest := []) (ws' := (W_X cI cZ q_s q_rows q_tape q_land q_spare q_firstImage q_secondImage q_acts q_basket q_asks s_finding_8) ++ ((W_Isle cI cZ q_land q_land_heights q_land_holders q_land_kinds q_land_purses q_land_homes land_told land_low land_high land_price land_hour land_bidders land_heights land_holders land_kinds land_purses land_homes))) (wr := (W_Isle cI cZ q_land q_land_heights q_land_holders q_land_kinds q_land_purses q_land_homes land_told land_low land_high land_price land_hour land_bidders land_heights land_holders land_kinds land_purses land_homes)) ⟨hx, hb, hml, hown, hts⟩ (m_X8_found l dC dI cI cZ q_s q_rows q_tape q_land q_spare q_firstImage q_secondImage q_acts q_basket q_asks s_finding 3 _ (r_8, s_finding_8) hc_8) (cwV 1 hts gX8_as_X8_found rfl rfl rfl ⟨rfl, ddX8_found⟩ ⟨Nat.le_of_ble_eq_true rfl, Nat.le_of_ble_eq_true rfl⟩) hK hP hD hS hA [0] [1, 2, 3, 4, 5, 6] rfl rfl rfl rfl (by decide) [6, 0, 1, 2, 3, 4, 5] rfl rfl rfl rfl rfl rfl rfl hl.1 (Nat.le_of_ble_eq_true rfl) ⟨Nat.zero_le _, Nat.zero_le _⟩ dX8_as_48 (fun H locs hP hD hS => ?_)
          have h := Option.some.inj h
          subst h
          rw [hQQ]
          subst hAe
          exact W.iret (v := r_8) hx hb hr (fun t ht hW => ⟨⟨_, (), rfl, rfl, by rw [ht]; exact hP, va_K.moved hW.alike hK, hD⟩, hS.F ht⟩) hS.2.2 dX8_as_51
        · have h := (if_neg c_7).symm.trans h
          refine lv_aload_n hx hb dX8_as_38 rfl (lv_at hl 0 rfl) ?_
          refine lv_iload_n hx hb dX8_as_39 rfl (lv_at hl 1 rfl) ?_
          obtain ⟨r_9, s_finding_9, hc_9, h⟩ := bd2_of h
          refine cl_mVi (As := [.int v1]) (rest := []) (ws' := (W_X cI cZ q_s q_rows q_tape q_land q_spare q_firstImage q_secondImage q_acts q_basket q_asks s_finding_9) ++ ((W_Isle cI cZ q_land q_land_heights q_land_holders q_land_kinds q_land_purses q_land_homes land_told land_low land_high land_price land_hour land_bidders land_heights land_holders land_kinds land_purses land_homes))) (wr := (W_Isle cI cZ q_land q_land_heights q_land_holders q_land_kinds q_land_purses q_land_homes land_told land_low land_high land_price land_hour land_bidders land_heights land_holders land_kinds land_purses land_homes)) ⟨hx, hb, hml, hown, hts⟩ (m_X8_unfound l dC dI cI cZ q_s q_rows q_tape q_land q_spare q_firstImage q_secondImage q_acts q_basket q_asks s_finding v1 _ (r_9, s_finding_9) hc_9) (cwV 1 hts gX8_as_X8_unfound rfl rfl rfl ⟨rfl, ddX8_unfound⟩ ⟨Nat.le_of_ble_eq_true rfl, Nat.le_of_ble_eq_true rfl⟩) hK hP hD hS hA [0] [1, 2, 3, 4, 5, 6] rfl rfl rfl rfl (by decide) [6, 0, 1, 2, 3, 4, 5] rfl rfl rfl rfl rfl rfl rfl hl.1 (Nat.le_of_ble_eq_true rfl) ⟨Nat.zero_le _, Nat.zero_le _⟩ dX8_as_40 (fun H locs hP hD hS => ?_)
          refine lv_goto (tgt := 51) hx hb dX8_as_43 (by decide) ?_
          have h := Option.some.inj h
          subst h
          rw [hQQ]
          subst hAe
          exact W.iret (v := r_9) hx hb hr (fun t ht hW => ⟨⟨_, (), rfl, rfl, by rw [ht]; exact hP, va_K.moved hW.alike hK, hD⟩, hS.F ht⟩) hS.2.2 dX8_as_51
      · have h := (if_neg c_4).symm.trans h
        refine lv_ldc hx hb hown w_2 dX8_as_20 ?_
        have h := Option.some.inj h
        subst h
        rw [hQQ]
        subst hAe
        exact W.iret (v := (-1000001)) hx hb hr (fun t ht hW => ⟨⟨_, (), rfl, rfl, by rw [ht]; exact hP, va_K.moved hW.alike hK, hD⟩, hS.F ht⟩) hS.2.2 dX8_as_22
def fX8_ask (land_bidders : Int32) (land_kinds : (Nat → Int32)) (land_purses : (Nat → Int32)) (land_homes : (Nat → Int32)) (asks_bodies : (Nat → Int32)) (asks_traced : Int32) (asks_number : Int32) (asks_kind : Int32) (asks_purse : Int32) (asks_home : Int32) (v1 : Int32) (v2 : Int32) : Option (Int32 × (Nat → Int32) × Int32 × Int32 × Int32 × Int32 × Int32) :=
  bd1 (fX3_hasBidder land_bidders v1) (fun r_1 => (if r_1 = 0 then some ((-1000001), asks_bodies, asks_traced, asks_number, asks_kind, asks_purse, asks_home) else bd1 (fX8_isChoice v2) (fun r_3 => (if r_3 = 0 then some ((-1000001), asks_bodies, asks_traced, asks_number, asks_kind, asks_purse, asks_home) else bd5 (fX1_turnTo land_kinds land_purses land_homes v1) (fun asks_traced_5 asks_number_5 asks_kind_5 asks_purse_5 asks_home_5 => (if v2 = 0 then bd3 (fX1_sizeAsked asks_bodies asks_traced_5 asks_number_5 asks_kind_5 asks_purse_5 asks_home_5) (fun r_8 asks_bodies_8 asks_traced_8 => some (r_8, asks_bodies_8, asks_traced_8, asks_number_5, asks_kind_5, asks_purse_5, asks_home_5)) else bd3 (fX1_markAsked asks_bodies asks_traced_5 asks_number_5 asks_kind_5 asks_purse_5 asks_home_5) (fun r_7 asks_bodies_7 asks_traced_7 => some (r_7, asks_bodies_7, asks_traced_7, asks_number_5, asks_kind_5, asks_purse_5, asks_home_5))))))))
abbrev rmX8_ask : Room := { frames := 6, cells := 0, slots := 0, locals := 122 }
theorem ddX8_ask : yX8_ask.cls ≠ "java/lang/invoke/MethodHandle" ∧ yX8_ask.cls ≠ "java/lang/invoke/VarHandle" ∧ (parseMethodDescriptor yX8_ask.desc).map (fun d => d.parameters.length) = some 2 := by decide +kernel
set_option maxHeartbeats 4000000 in
set_option maxRecDepth 100000 in
theorem m_X8_ask (l : Launch) (dC : Nat → ClassId) (dI : Nat → Nat → Nat) (cI cZ : ClassId) (q_s q_rows q_tape q_land q_spare q_firstImage q_secondImage q_acts q_basket q_asks q_land q_land_heights q_land_holders q_land_kinds q_land_purses q_land_homes q_asks q_asks_bodies : Nat) (s_finding : Int32) (land_told : Int32) (land_low : Int32) (land_high : Int32) (land_price : Int32) (land_hour : Int32) (land_bidders : Int32) (land_heights : (Nat → Int32)) (land_holders : (Nat → Int32)) (land_kinds : (Nat → Int32)) (land_purses : (Nat → Int32)) (land_homes : (Nat → Int32)) (asks_bodies : (Nat → Int32)) (asks_traced : Int32) (asks_number : Int32) (asks_kind : Int32) (asks_purse : Int32) (asks_home : Int32) (v1 : Int32) (v2 : Int32) (sz : Nat) (res : Int32 × (Nat → Int32) × Int32 × Int32 × Int32 × Int32 × Int32) (hf : fX8_ask land_bidders land_kinds land_purses land_homes asks_bodies asks_traced asks_number asks_kind asks_purse asks_home v1 v2 = some res) : Met l yX8_ask wsX8_ask rmX8_ask (mtPc (dC, dI) (tyZ cI cZ) ((W_X cI cZ q_s q_rows q_tape q_land q_spare q_firstImage q_secondImage q_acts q_basket q_asks s_finding) ++ ((W_Isle cI cZ q_land q_land_heights q_land_holders q_land_kinds q_land_purses q_land_homes land_told land_low land_high land_price land_hour land_bidders land_heights land_holders land_kinds land_purses land_homes) ++ ((W_Asks cI cZ q_asks q_asks_bodies asks_bodies asks_traced asks_number asks_kind asks_purse asks_home)))) [.ref q_s, .int v1, .int v2] sz) (mtQi (dC, dI) (tyZ cI cZ) ((W_X cI cZ q_s q_rows q_tape q_land q_spare q_firstImage q_secondImage q_acts q_basket q_asks s_finding) ++ ((W_Isle cI cZ q_land q_land_heights q_land_holders q_land_kinds q_land_purses q_land_homes land_told land_low land_high land_price land_hour land_bidders land_heights land_holders land_kinds land_purses land_homes) ++ ((W_Asks cI cZ q_asks q_asks_bodies asks_bodies asks_traced asks_number asks_kind asks_purse asks_home)))) ((W_X cI cZ q_s q_rows q_tape q_land q_spare q_firstImage q_secondImage q_acts q_basket q_asks s_finding) ++ ((W_Isle cI cZ q_land q_land_heights q_land_holders q_land_kinds q_land_purses q_land_homes land_told land_low land_high land_price land_hour land_bidders land_heights land_holders land_kinds land_purses land_homes) ++ ((W_Asks cI cZ q_asks q_asks_bodies res.2.1 res.2.2.1 res.2.2.2.1 res.2.2.2.2.1 res.2.2.2.2.2.1 res.2.2.2.2.2.2)))) res.1 sz) 0 0 (va_A ((W_X cI cZ q_s q_rows q_tape q_land q_spare q_firstImage q_secondImage q_acts q_basket q_asks s_finding) ++ ((W_Isle cI cZ q_land q_land_heights q_land_holders q_land_kinds q_land_purses q_land_homes land_told land_low land_high land_price land_hour land_bidders land_heights land_holders land_kinds land_purses land_homes) ++ ((W_Asks cI cZ q_asks q_asks_bodies asks_bodies asks_traced asks_number asks_kind asks_purse asks_home)))) sz) := by
  refine Met.ofW (cc := cX8_ask) (maxL := 3) (ret := (some .int)) (by decide) rfl ?_
  intro p e s m args below meth c s₁ B hml hv
  obtain ⟨rfl, hsz, hP, hK, hD0⟩ := hv
  have hx := B.exec
  have hb := B.bytes
  have hr := B.returns
  have hts := atoms_spec (ws := wsX8_ask) B.pre
  have hown : s.vm.findClass RX8 = some m.cls := findClass_of_methodNamed B.named
  have hlocks := B.notSynchronized
  subst hsz
  have hD := hD0.self (sz := s.heap.size)
  obtain ⟨A, hAe⟩ : ∃ A, A = va_A ((W_X cI cZ q_s q_rows q_tape q_land q_spare q_firstImage q_secondImage q_acts q_basket q_asks s_finding) ++ ((W_Isle cI cZ q_land q_land_heights q_land_holders q_land_kinds q_land_purses q_land_homes land_told land_low land_high land_price land_hour land_bidders land_heights land_holders land_kinds land_purses land_homes) ++ ((W_Asks cI cZ q_asks q_asks_bodies asks_bodies asks_traced asks_number asks_kind asks_purse asks_home)))) s.heap.size := ⟨_, rfl⟩
  rw [← hAe] at hD
  have hA : ∀ q : Nat, s.heap.size ≤ q → A q := fun q h => by rw [hAe]; exact Or.inr h
  have hS : va_S A s.heap s.heap [] := va_S.rf
  have hl := lv_entry ([.ref q_s, .int v1, .int v2]) (n := 3) (Nat.le_of_ble_eq_true rfl)
  rw [lg_entry_eq]
  generalize (lg_sl ([.ref q_s, .int v1, .int v2]) ++ List.replicate (3 - (lg_sl ([.ref q_s, .int v1, .int v2])).length) Slot.unset).toArray = ls at hl ⊢
  have hl : lv_has ls 3 [(0, .ref q_s), (1, .int v1), (2, .int v2)] := hl
  obtain ⟨QQ, hQQ⟩ : ∃ Q, Q = MQ below (mtQi (dC, dI) (tyZ cI cZ) ((W_X cI cZ q_s q_rows q_tape q_land q_spare q_firstImage q_secondImage q_acts q_basket q_asks s_finding) ++ ((W_Isle cI cZ q_land q_land_heights q_land_holders q_land_kinds q_land_purses q_land_homes land_told land_low land_high land_price land_hour land_bidders land_heights land_holders land_kinds land_purses land_homes) ++ ((W_Asks cI cZ q_asks q_asks_bodies asks_bodies asks_traced asks_number asks_kind asks_purse asks_home)))) ((W_X cI cZ q_s q_rows q_tape q_land q_spare q_firstImage q_secondImage q_acts q_basket q_asks s_finding) ++ ((W_Isle cI cZ q_land q_land_heights q_land_holders q_land_kinds q_land_purses q_land_homes land_told land_low land_high land_price land_hour land_bidders land_heights land_holders land_kinds land_purses land_homes) ++ ((W_Asks cI cZ q_asks q_asks_bodies res.2.1 res.2.2.1 res.2.2.2.1 res.2.2.2.2.1 res.2.2.2.2.2.1 res.2.2.2.2.2.2)))) res.1 s.heap.size) ([.ref q_s, .int v1, .int v2] : List Value).toArray s 0 0 (va_A ((W_X cI cZ q_s q_rows q_tape q_land q_spare q_firstImage q_secondImage q_acts q_basket q_asks s_finding) ++ ((W_Isle cI cZ q_land q_land_heights q_land_holders q_land_kinds q_land_purses q_land_homes land_told land_low land_high land_price land_hour land_bidders land_heights land_holders land_kinds land_purses land_homes) ++ ((W_Asks cI cZ q_asks q_asks_bodies asks_bodies asks_traced asks_number asks_kind asks_purse asks_home)))) s.heap.size) := ⟨_, rfl⟩
  rw [← hQQ]
  have w_0 := hts (Cond.fieldLink RX8 26 "TideInches" "land" "LTideInches$Isle;") (List.mem_of_getElem? (i := 1) rfl)
  have w_1 := (fun w hw => List.mem_cons_of_mem _ (List.mem_append_left _ (List.mem_append_left _ (List.mem_append_right _ hw))) : ∀ w ∈ wsX80, w ∈ wsX8_ask)
  have w_2 := hts (Cond.constant RX8 68 (-1000001)) (List.mem_of_getElem? (i := 2) rfl)
  have w_3 := hts (Cond.fieldLink RX8 56 "TideInches" "asks" "LTideInches$Asks;") (List.mem_of_getElem? (i := 3) rfl)
  have h := hf
  unfold fX8_ask at h
  refine lv_aload_n hx hb dX8_ask_0 rfl (lv_at hl 0 rfl) ?_
  refine va_get (D := (dC, dI)) (ci := 6) (v := .ref q_land) (C := RX8) (T := TX8) (N := 10) hx hb hts w_1 hown hK hP 0 rfl rfl 2 (by decide) w_0 (fun _ h9 => h9) rfl dX8_ask_1 ?_
  refine lv_iload_n hx hb dX8_ask_4 rfl (lv_at hl 1 rfl) ?_
  obtain ⟨r_1, hc_1, h⟩ := bd1_of h
  refine cl_rV (As := [.int v1]) (rest := []) ⟨hx, hb, hml, hown, hts⟩ (m_X3_hasBidder l dC dI cI cZ q_land q_land_heights q_land_holders q_land_kinds q_land_purses q_land_homes land_told land_low land_high land_price land_hour land_bidders land_heights land_holders land_kinds land_purses land_homes v1 (r_1) hc_1) (cwV 1 hts gX8_ask_X3_hasBidder rfl rfl rfl ⟨rfl, ddX3_hasBidder⟩ ⟨Nat.le_of_ble_eq_true rfl, Nat.le_of_ble_eq_true rfl⟩) hK hP [1, 2, 3, 4, 5, 6] rfl rfl rfl rfl rfl hl.1 (Nat.le_of_ble_eq_true rfl) ⟨Nat.zero_le _, Nat.zero_le _⟩ dX8_ask_5 ?_
  refine lv_if_eq (tgt := 18) hx hb dX8_ask_8 (by decide) (fun c_2 => ?_) (fun c_2 => ?_)
  · have h := (if_pos c_2).symm.trans h
    refine lv_ldc hx hb hown w_2 dX8_ask_18 ?_
    have h := Option.some.inj h
    subst h
    rw [hQQ]
    subst hAe
    exact W.iret (v := (-1000001)) hx hb hr (fun t ht hW => ⟨⟨_, (), rfl, rfl, by rw [ht]; exact hP, va_K.moved hW.alike hK, hD⟩, hS.F ht⟩) hS.2.2 dX8_ask_20
  · have h := (if_neg c_2).symm.trans h
    refine lv_iload_n hx hb dX8_ask_11 rfl (lv_at hl 2 rfl) ?_
    obtain ⟨r_3, hc_3, h⟩ := bd1_of h
    refine cl_pS (As := [.int v2]) (rest := []) ⟨hx, hb, hml, hown, hts⟩ (m_X8_isChoice l v2 (r_3) hc_3) (va_cwS 1 hts gX8_ask_X8_isChoice rfl rfl rfl ddX8_isChoice ⟨Nat.le_of_ble_eq_true rfl, Nat.le_of_ble_eq_true rfl⟩) rfl rfl hl.1 (Nat.le_of_ble_eq_true rfl) ⟨Nat.zero_le _, Nat.zero_le _⟩ dX8_ask_12 ?_
    refine lv_if_ne (tgt := 21) hx hb dX8_ask_15 (by decide) (fun c_4 => ?_) (fun c_4 => ?_)
    · have h := (if_neg c_4).symm.trans h
      refine lv_aload_n hx hb dX8_ask_21 rfl (lv_at hl 0 rfl) ?_
      refine va_get (D := (dC, dI)) (ci := 6) (v := .ref q_asks) (C := RX8) (T := TX8) (N := 10) hx hb hts w_1 hown hK hP 0 rfl rfl 8 (by decide) w_3 (fun _ h9 => h9) rfl dX8_ask_22 ?_
      refine lv_aload_n hx hb dX8_ask_25 rfl (lv_at hl 0 rfl) ?_
      refine va_get (D := (dC, dI)) (ci := 6) (v := .ref q_land) (C := RX8) (T := TX8) (N := 10) hx hb hts w_1 hown hK hP 0 rfl rfl 2 (by decide) w_0 (fun _ h9 => h9) rfl dX8_ask_26 ?_
      refine lv_iload_n hx hb dX8_ask_29 rfl (lv_at hl 1 rfl) ?_
      obtain ⟨asks_traced_5, asks_number_5, asks_kind_5, asks_purse_5, asks_home_5, hc_5, h⟩ := bd5_of h
      refine cl_mVv (As := [.ref q_land, .int v1]) (rest := []) (ws' := (W_X cI cZ q_s q_rows q_tape q_land q_spare q_firstImage q_secondImage q_acts q_basket q_asks s_finding) ++ ((W_Isle cI cZ q_land q_land_heights q_land_holders q_land_kinds q_land_purses q_land_homes land_told land_low land_high land_price land_hour land_bidders land_heights land_holders land_kinds land_purses land_homes) ++ ((W_Asks cI cZ q_asks q_asks_bodies asks_bodies asks_traced_5 asks_number_5 asks_kind_5 asks_purse_5 asks_home_5)))) (wr := (W_X cI cZ q_s q_rows q_tape q_land q_spare q_firstImage q_secondImage q_acts q_basket q_asks s_finding)) ⟨hx, hb, hml, hown, hts⟩ (m_X1_turnTo l dC dI cI cZ q_asks q_asks_bodies q_land q_land_heights q_land_holders q_land_kinds q_land_purses q_land_homes asks_bodies asks_traced asks_number asks_kind asks_purse asks_home land_told land_low land_high land_price land_hour land_bidders land_heights land_holders land_kinds land_purses land_homes v1 _ (asks_traced_5, asks_number_5, asks_kind_5, asks_purse_5, asks_home_5) hc_5) (cwV 2 hts gX8_ask_X1_turnTo rfl rfl rfl ⟨rfl, ddX1_turnTo⟩ ⟨Nat.le_of_ble_eq_true rfl, Nat.le_of_ble_eq_true rfl⟩) hK hP hD hS hA [7, 8, 1, 2, 3, 4, 5, 6] [0] rfl rfl rfl rfl (by decide) [0, 3, 4, 5, 6, 7, 8, 1, 2] rfl rfl rfl rfl rfl rfl rfl hl.1 (Nat.le_of_ble_eq_true rfl) ⟨Nat.zero_le _, Nat.zero_le _⟩ dX8_ask_30 (fun H locs hP hD hS => ?_)
      refine lv_iload_n hx hb dX8_ask_33 rfl (lv_at hl 2 rfl) ?_
      refine lv_if_ne (tgt := 47) hx hb dX8_ask_34 (by decide) (fun c_6 => ?_) (fun c_6 => ?_)
      · have h := (if_neg c_6).symm.trans h
        refine lv_aload_n hx hb dX8_ask_47 rfl (lv_at hl 0 rfl) ?_
        refine va_get (D := (dC, dI)) (ci := 6) (v := .ref q_asks) (C := RX8) (T := TX8) (N := 10) hx hb hts w_1 hown hK hP 0 rfl rfl 8 (by decide) w_3 (fun _ h9 => h9) rfl dX8_ask_48 ?_
        obtain ⟨r_7, asks_bodies_7, asks_traced_7, hc_7, h⟩ := bd3_of h
        refine cl_mVi (As := []) (rest := []) (ws' := (W_X cI cZ q_s q_rows q_tape q_land q_spare q_firstImage q_secondImage q_acts q_basket q_asks s_finding) ++ ((W_Isle cI cZ q_land q_land_heights q_land_holders q_land_kinds q_land_purses q_land_homes land_told land_low land_high land_price land_hour land_bidders land_heights land_holders land_kinds land_purses land_homes) ++ ((W_Asks cI cZ q_asks q_asks_bodies asks_bodies_7 asks_traced_7 asks_number_5 asks_kind_5 asks_purse_5 asks_home_5)))) (wr := (W_X cI cZ q_s q_rows q_tape q_land q_spare q_firstImage q_secondImage q_acts q_basket q_asks s_finding) ++ ((W_Isle cI cZ q_land q_land_heights q_land_holders q_land_kinds q_land_purses q_land_homes land_told land_low land_high land_price land_hour land_bidders land_heights land_holders land_kinds land_purses land_homes))) ⟨hx, hb, hml, hown, hts⟩ (m_X1_markAsked l dC dI cI cZ q_asks q_asks_bodies asks_bodies asks_traced_5 asks_number_5 asks_kind_5 asks_purse_5 asks_home_5 _ (r_7, asks_bodies_7, asks_traced_7) hc_7) (cwV 0 hts gX8_ask_X1_markAsked rfl rfl rfl ⟨rfl, ddX1_markAsked⟩ ⟨Nat.le_of_ble_eq_true rfl, Nat.le_of_ble_eq_true rfl⟩) hK hP hD hS hA [7, 8] [0, 1, 2, 3, 4, 5, 6] rfl rfl rfl rfl (by decide) [0, 1, 2, 3, 4, 5, 6, 7, 8] rfl rfl rfl rfl rfl rfl rfl hl.1 (Nat.le_of_ble_eq_true rfl) ⟨Nat.zero_le _, Nat.zero_le _⟩ dX8_ask_51 (fun H locs hP hD hS => ?_)
        have h := Option.some.inj h
        subst h
        rw [hQQ]
        subst hAe
        exact W.iret (v := r_7) hx hb hr (fun t ht hW => ⟨⟨_, (), rfl, rfl, by rw [ht]; exact hP, va_K.moved hW.alike hK, hD⟩, hS.F ht⟩) hS.2.2 dX8_ask_54
      · have h := (if_pos c_6).symm.trans h
        refine lv_aload_n hx hb dX8_ask_37 rfl (lv_at hl 0 rfl) ?_
        refine va_get (D := (dC, dI)) (ci := 6) (v := .ref q_asks) (C := RX8) (T := TX8) (N := 10) hx hb hts w_1 hown hK hP 0 rfl rfl 8 (by decide) w_3 (fun _ h9 => h9) rfl dX8_ask_38 ?_
        obtain ⟨r_8, asks_bodies_8, asks_traced_8, hc_8, h⟩ := bd3_of h
        refine cl_mVi (As := []) (rest := []) (ws' := (W_X cI cZ q_s q_rows q_tape q_land q_spare q_firstImage q_secondImage q_acts q_basket q_asks s_finding) ++ ((W_Isle cI cZ q_land q_land_heights q_land_holders q_land_kinds q_land_purses q_land_homes land_told land_low land_high land_price land_hour land_bidders land_heights land_holders land_kinds land_purses land_homes) ++ ((W_Asks cI cZ q_asks q_asks_bodies asks_bodies_8 asks_traced_8 asks_number_5 asks_kind_5 asks_purse_5 asks_home_5)))) (wr := (W_X cI cZ q_s q_rows q_tape q_land q_spare q_firstImage q_secondImage q_acts q_basket q_asks s_finding) ++ ((W_Isle cI cZ q_land q_land_heights q_land_holders q_land_kinds q_land_purses q_land_homes land_told land_low land_high land_price land_hour land_bidders land_heights land_holders land_kinds land_purses land_homes))) ⟨hx, hb, hml, hown, hts⟩ (m_X1_sizeAsked l dC dI cI cZ q_asks q_asks_bodies asks_bodies asks_traced_5 asks_number_5 asks_kind_5 asks_purse_5 asks_home_5 _ (r_8, asks_bodies_8, asks_traced_8) hc_8) (cwV 0 hts gX8_ask_X1_sizeAsked rfl rfl rfl ⟨rfl, ddX1_sizeAsked⟩ ⟨Nat.le_of_ble_eq_true rfl, Nat.le_of_ble_eq_true rfl⟩) hK hP hD hS hA [7, 8] [0, 1, 2, 3, 4, 5, 6] rfl rfl rfl rfl (by decide) [0, 1, 2, 3, 4, 5, 6, 7, 8] rfl rfl rfl rfl rfl rfl rfl hl.1 (Nat.le_of_ble_eq_true rfl) ⟨Nat.zero_le _, Nat.zero_le _⟩ dX8_ask_41 (fun H locs hP hD hS => ?_)
        refine lv_goto (tgt := 54) hx hb dX8_ask_44 (by decide) ?_
        have h := Option.some.inj h
        subst h
        rw [hQQ]
        subst hAe
        exact W.iret (v := r_8) hx hb hr (fun t ht hW => ⟨⟨_, (), rfl, rfl, by rw [ht]; exact hP, va_K.moved hW.alike hK, hD⟩, hS.F ht⟩) hS.2.2 dX8_ask_54
    · have h := (if_pos c_4).symm.trans h
      refine lv_ldc hx hb hown w_2 dX8_ask_18 ?_
      have h := Option.some.inj h
      subst h
      rw [hQQ]
      subst hAe
      exact W.iret (v := (-1000001)) hx hb hr (fun t ht hW => ⟨⟨_, (), rfl, rfl, by rw [ht]; exact hP, va_K.moved hW.alike hK, hD⟩, hS.F ht⟩) hS.2.2 dX8_ask_20
def fX8_trace (asks_bodies : (Nat → Int32)) (asks_traced : Int32) (v1 : Int32) : Option (Int32) :=
  (if v1 < 0 then some ((-1000000)) else bd1 (fX1_traced asks_traced) (fun r_2 => (if r_2 ≤ v1 then some ((-1000000)) else bd1 (fX1_tracedBody asks_bodies v1) (fun r_4 => some (r_4)))))
abbrev rmX8_trace : Room := { frames := 1, cells := 0, slots := 0, locals := 21 }
theorem ddX8_trace : yX8_trace.cls ≠ "java/lang/invoke/MethodHandle" ∧ yX8_trace.cls ≠ "java/lang/invoke/VarHandle" ∧ (parseMethodDescriptor yX8_trace.desc).map (fun d => d.parameters.length) = some 1 := by decide +kernel
set_option maxHeartbeats 4000000 in
set_option maxRecDepth 100000 in
theorem m_X8_trace (l : Launch) (dC : Nat → ClassId) (dI : Nat → Nat → Nat) (cI cZ : ClassId) (q_s q_rows q_tape q_land q_spare q_firstImage q_secondImage q_acts q_basket q_asks q_asks q_asks_bodies : Nat) (s_finding : Int32) (asks_bodies : (Nat → Int32)) (asks_traced : Int32) (asks_number : Int32) (asks_kind : Int32) (asks_purse : Int32) (asks_home : Int32) (v1 : Int32) (res : Int32) (hf : fX8_trace asks_bodies asks_traced v1 = some res) : Met l yX8_trace wsX8_trace rmX8_trace (rdPc (dC, dI) (tyZ cI cZ) ((W_X cI cZ q_s q_rows q_tape q_land q_spare q_firstImage q_secondImage q_acts q_basket q_asks s_finding) ++ ((W_Asks cI cZ q_asks q_asks_bodies asks_bodies asks_traced asks_number asks_kind asks_purse asks_home))) [.ref q_s, .int v1]) (rdQ res) 0 0 (fun _ => False) := by
  refine Met.ofW (cc := cX8_trace) (maxL := 2) (ret := (some .int)) (by decide) rfl ?_
  intro p e s m args below meth c s₁ B hml hv
  obtain ⟨rfl, hP, hK⟩ := hv
  have hx := B.exec
  have hb := B.bytes
  have hr := B.returns
  have hts := atoms_spec (ws := wsX8_trace) B.pre
  have hown : s.vm.findClass RX8 = some m.cls := findClass_of_methodNamed B.named
  have hlocks := B.notSynchronized
  have hl := lv_entry ([.ref q_s, .int v1]) (n := 2) (Nat.le_of_ble_eq_true rfl)
  rw [lg_entry_eq]
  generalize (lg_sl ([.ref q_s, .int v1]) ++ List.replicate (2 - (lg_sl ([.ref q_s, .int v1])).length) Slot.unset).toArray = ls at hl ⊢
  have hl : lv_has ls 2 [(0, .ref q_s), (1, .int v1)] := hl
  obtain ⟨QQ, hQQ⟩ : ∃ Q, Q = MQ below (rdQ res) ([.ref q_s, .int v1] : List Value).toArray s 0 0 (fun _ => False) := ⟨_, rfl⟩
  rw [← hQQ]
  have w_0 := hts (Cond.constant RX8 199 (-1000000)) (List.mem_of_getElem? (i := 2) rfl)
  have w_1 := hts (Cond.fieldLink RX8 56 "TideInches" "asks" "LTideInches$Asks;") (List.mem_of_getElem? (i := 1) rfl)
  have w_2 := (fun w hw => List.mem_cons_of_mem _ (List.mem_append_left _ (List.mem_append_right _ hw)) : ∀ w ∈ wsX80, w ∈ wsX8_trace)
  have h := hf
  unfold fX8_trace at h
  refine lv_iload_n hx hb dX8_trace_0 rfl (lv_at hl 1 rfl) ?_
  refine lv_if_lt (tgt := 26) hx hb dX8_trace_1 (by decide) (fun c_1 => ?_) (fun c_1 => ?_)
  · have h := (if_pos c_1).symm.trans h
    refine lv_ldc hx hb hown w_0 dX8_trace_26 ?_
    rw [hQQ]
    exact W.iret (v := (-1000000)) hx hb hr (fun t ht hW => ⟨_, rfl, Option.some.inj h, ht⟩) (fun q hq => by cases hq) dX8_trace_28
  · have h := (if_neg c_1).symm.trans h
    refine lv_iload_n hx hb dX8_trace_4 rfl (lv_at hl 1 rfl) ?_
    refine lv_aload_n hx hb dX8_trace_5 rfl (lv_at hl 0 rfl) ?_
    refine va_get (D := (dC, dI)) (ci := 6) (v := .ref q_asks) (C := RX8) (T := TX8) (N := 10) hx hb hts w_2 hown hK hP 0 rfl rfl 8 (by decide) w_1 (fun _ h9 => h9) rfl dX8_trace_6 ?_
    obtain ⟨r_2, hc_2, h⟩ := bd1_of h
    refine cl_rV (As := []) (rest := [.int v1]) ⟨hx, hb, hml, hown, hts⟩ (m_X1_traced l dC dI cI cZ q_asks q_asks_bodies asks_bodies asks_traced asks_number asks_kind asks_purse asks_home (r_2) hc_2) (cwV 0 hts gX8_trace_X1_traced rfl rfl rfl ⟨rfl, ddX1_traced⟩ ⟨Nat.le_of_ble_eq_true rfl, Nat.le_of_ble_eq_true rfl⟩) hK hP [1, 2] rfl rfl rfl rfl rfl hl.1 (Nat.le_of_ble_eq_true rfl) ⟨Nat.zero_le _, Nat.zero_le _⟩ dX8_trace_9 ?_
    refine lv_icmp_ge (tgt := 26) hx hb dX8_trace_12 (by decide) (fun c_3 => ?_) (fun c_3 => ?_)
    · have h := (if_pos c_3).symm.trans h
      refine lv_ldc hx hb hown w_0 dX8_trace_26 ?_
      rw [hQQ]
      exact W.iret (v := (-1000000)) hx hb hr (fun t ht hW => ⟨_, rfl, Option.some.inj h, ht⟩) (fun q hq => by cases hq) dX8_trace_28
    · have h := (if_neg c_3).symm.trans h
      refine lv_aload_n hx hb dX8_trace_15 rfl (lv_at hl 0 rfl) ?_
      refine va_get (D := (dC, dI)) (ci := 6) (v := .ref q_asks) (C := RX8) (T := TX8) (N := 10) hx hb hts w_2 hown hK hP 0 rfl rfl 8 (by decide) w_1 (fun _ h9 => h9) rfl dX8_trace_16 ?_
      refine lv_iload_n hx hb dX8_trace_19 rfl (lv_at hl 1 rfl) ?_
      obtain ⟨r_4, hc_4, h⟩ := bd1_of h
      refine cl_rV (As := [.int v1]) (rest := []) ⟨hx, hb, hml, hown, hts⟩ (m_X1_tracedBody l dC dI cI cZ q_asks q_asks_bodies asks_bodies asks_traced asks_number asks_kind asks_purse asks_home v1 (r_4) hc_4) (cwV 1 hts gX8_trace_X1_tracedBody rfl rfl rfl ⟨rfl, ddX1_tracedBody⟩ ⟨Nat.le_of_ble_eq_true rfl, Nat.le_of_ble_eq_true rfl⟩) hK hP [1, 2] rfl rfl rfl rfl rfl hl.1 (Nat.le_of_ble_eq_true rfl) ⟨Nat.zero_le _, Nat.zero_le _⟩ dX8_trace_20 ?_
      refine lv_goto (tgt := 28) hx hb dX8_trace_23 (by decide) ?_
      rw [hQQ]
      exact W.iret (v := r_4) hx hb hr (fun t ht hW => ⟨_, rfl, Option.some.inj h, ht⟩) (fun q hq => by cases hq) dX8_trace_28
def fX8_count (rows_lanes : (Nat → Int32)) (tape_length : Int32) (land_low : Int32) (land_high : Int32) (land_price : Int32) (land_hour : Int32) (land_bidders : Int32) (land_holders : (Nat → Int32)) (acts_kept : Int32) (v1 : Int32) : Option (Int32) :=
  (if v1 = 0 then bd1 (fX5_there rows_lanes) (fun r_2 => some (r_2)) else (if v1 = 1 then bd1 (fX3_bidders land_bidders) (fun r_4 => some (r_4)) else (if v1 = 2 then bd1 (fX3_levelBehind land_low land_high land_hour 0) (fun r_6 => some (r_6)) else (if v1 = 3 then bd1 (fX3_priceTold land_price) (fun r_8 => some (r_8)) else (if v1 = 4 then bd1 (fX3_hour land_hour) (fun r_10 => some (r_10)) else (if v1 = 5 then bd1 (fX3_heldCells land_holders) (fun r_12 => some (r_12)) else (if v1 = 6 then bd1 (fX0_kept acts_kept) (fun r_14 => some (r_14)) else (if v1 = 7 then bd1 (fX7_length tape_length) (fun r_16 => some (r_16)) else some ((-1000001))))))))))
abbrev rmX8_count : Room := { frames := 2, cells := 0, slots := 0, locals := 43 }
theorem ddX8_count : yX8_count.cls ≠ "java/lang/invoke/MethodHandle" ∧ yX8_count.cls ≠ "java/lang/invoke/VarHandle" ∧ (parseMethodDescriptor yX8_count.desc).map (fun d => d.parameters.length) = some 1 := by decide +kernel
set_option maxHeartbeats 4000000 in
set_option maxRecDepth 100000 in
theorem m_X8_count (l : Launch) (dC : Nat → ClassId) (dI : Nat → Nat → Nat) (cI cZ : ClassId) (q_s q_rows q_tape q_land q_spare q_firstImage q_secondImage q_acts q_basket q_asks q_rows q_rows_lanes q_rows_lengths q_rows_items q_tape q_tape_bytes q_land q_land_heights q_land_holders q_land_kinds q_land_purses q_land_homes q_acts q_acts_saved : Nat) (s_finding : Int32) (rows_lanes : (Nat → Int32)) (rows_lengths : (Nat → Int32)) (rows_items : (Nat → Int32)) (tape_bytes : (Nat → Int32)) (tape_length : Int32) (tape_at : Int32) (tape_number : Int32) (tape_faultNumber : Int32) (land_told : Int32) (land_low : Int32) (land_high : Int32) (land_price : Int32) (land_hour : Int32) (land_bidders : Int32) (land_heights : (Nat → Int32)) (land_holders : (Nat → Int32)) (land_kinds : (Nat → Int32)) (land_purses : (Nat → Int32)) (land_homes : (Nat → Int32)) (acts_saved : (Nat → Int32)) (acts_next : Int32) (acts_kept : Int32) (v1 : Int32) (res : Int32) (hf : fX8_count rows_lanes tape_length land_low land_high land_price land_hour land_bidders land_holders acts_kept v1 = some res) : Met l yX8_count wsX8_count rmX8_count (rdPc (dC, dI) (tyZ cI cZ) ((W_X cI cZ q_s q_rows q_tape q_land q_spare q_firstImage q_secondImage q_acts q_basket q_asks s_finding) ++ ((W_Rows cI cZ q_rows q_rows_lanes q_rows_lengths q_rows_items rows_lanes rows_lengths rows_items) ++ ((W_Tape cI cZ q_tape q_tape_bytes tape_bytes tape_length tape_at tape_number tape_faultNumber) ++ ((W_Isle cI cZ q_land q_land_heights q_land_holders q_land_kinds q_land_purses q_land_homes land_told land_low land_high land_price land_hour land_bidders land_heights land_holders land_kinds land_purses land_homes) ++ ((W_Acts cI cZ q_acts q_acts_saved acts_saved acts_next acts_kept)))))) [.ref q_s, .int v1]) (rdQ res) 0 0 (fun _ => False) := by
  refine Met.ofW (cc := cX8_count) (maxL := 2) (ret := (some .int)) (by decide) rfl ?_
  intro p e s m args below meth c s₁ B hml hv
  obtain ⟨rfl, hP, hK⟩ := hv
  have hx := B.exec
  have hb := B.bytes
  have hr := B.returns
  have hts := atoms_spec (ws := wsX8_count) B.pre
  have hown : s.vm.findClass RX8 = some m.cls := findClass_of_methodNamed B.named
  have hlocks := B.notSynchronized
  have hl := lv_entry ([.ref q_s, .int v1]) (n := 2) (Nat.le_of_ble_eq_true rfl)
  rw [lg_entry_eq]
  generalize (lg_sl ([.ref q_s, .int v1]) ++ List.replicate (2 - (lg_sl ([.ref q_s, .int v1])).length) Slot.unset).toArray = ls at hl ⊢
  have hl : lv_has ls 2 [(0, .ref q_s), (1, .int v1)] := hl
  obtain ⟨QQ, hQQ⟩ : ∃ Q, Q = MQ below (rdQ res) ([.ref q_s, .int v1] : List Value).toArray s 0 0 (fun _ => False) := ⟨_, rfl⟩
  rw [← hQQ]
  have w_0 := hts (Cond.fieldLink RX8 12 "TideInches" "rows" "LTideInches$Rows;") (List.mem_of_getElem? (i := 1) rfl)
  have w_1 := (fun w hw => List.mem_cons_of_mem _ (List.mem_append_left _ (List.mem_append_left _ (List.mem_append_left _ (List.mem_append_left _ (List.mem_append_right _ hw))))) : ∀ w ∈ wsX80, w ∈ wsX8_count)
  have w_2 := hts (Cond.fieldLink RX8 26 "TideInches" "land" "LTideInches$Isle;") (List.mem_of_getElem? (i := 2) rfl)
  have w_3 := hts (Cond.fieldLink RX8 42 "TideInches" "acts" "LTideInches$Acts;") (List.mem_of_getElem? (i := 3) rfl)
  have w_4 := hts (Cond.fieldLink RX8 19 "TideInches" "tape" "LTideInches$Tape;") (List.mem_of_getElem? (i := 4) rfl)
  have w_5 := hts (Cond.constant RX8 68 (-1000001)) (List.mem_of_getElem? (i := 5) rfl)
  have h := hf
  unfold fX8_count at h
  refine lv_iload_n hx hb dX8_count_0 rfl (lv_at hl 1 rfl) ?_
  by_cases c_1 : v1 = 0
  · have h := (if_pos c_1).symm.trans h
    refine lv_tableIn (tgt := 48) hx hb dX8_count_1 (by rw [c_1]; decide) (by rw [c_1]; decide) (by rw [c_1]; rfl) (by decide) ?_
    refine lv_aload_n hx hb dX8_count_48 rfl (lv_at hl 0 rfl) ?_
    refine va_get (D := (dC, dI)) (ci := 6) (v := .ref q_rows) (C := RX8) (T := TX8) (N := 10) hx hb hts w_1 hown hK hP 0 rfl rfl 0 (by decide) w_0 (fun _ h9 => h9) rfl dX8_count_49 ?_
    obtain ⟨r_2, hc_2, h⟩ := bd1_of h
    refine cl_rV (As := []) (rest := []) ⟨hx, hb, hml, hown, hts⟩ (m_X5_there l dC dI cI cZ q_rows q_rows_lanes q_rows_lengths q_rows_items rows_lanes rows_lengths rows_items (r_2) hc_2) (cwV 0 hts gX8_count_X5_there rfl rfl rfl ⟨rfl, ddX5_there⟩ ⟨Nat.le_of_ble_eq_true rfl, Nat.le_of_ble_eq_true rfl⟩) hK hP [1, 2, 3, 4] rfl rfl rfl rfl rfl hl.1 (Nat.le_of_ble_eq_true rfl) ⟨Nat.zero_le _, Nat.zero_le _⟩ dX8_count_52 ?_
    rw [hQQ]
    exact W.iret (v := r_2) hx hb hr (fun t ht hW => ⟨_, rfl, Option.some.inj h, ht⟩) (fun q hq => by cases hq) dX8_count_55
  have h := (if_neg c_1).symm.trans h
  by_cases c_3 : v1 = 1
  · have h := (if_pos c_3).symm.trans h
    refine lv_tableIn (tgt := 56) hx hb dX8_count_1 (by rw [c_3]; decide) (by rw [c_3]; decide) (by rw [c_3]; rfl) (by decide) ?_
    refine lv_aload_n hx hb dX8_count_56 rfl (lv_at hl 0 rfl) ?_
    refine va_get (D := (dC, dI)) (ci := 6) (v := .ref q_land) (C := RX8) (T := TX8) (N := 10) hx hb hts w_1 hown hK hP 0 rfl rfl 2 (by decide) w_2 (fun _ h9 => h9) rfl dX8_count_57 ?_
    obtain ⟨r_4, hc_4, h⟩ := bd1_of h
    refine cl_rV (As := []) (rest := []) ⟨hx, hb, hml, hown, hts⟩ (m_X3_bidders l dC dI cI cZ q_land q_land_heights q_land_holders q_land_kinds q_land_purses q_land_homes land_told land_low land_high land_price land_hour land_bidders land_heights land_holders land_kinds land_purses land_homes (r_4) hc_4) (cwV 0 hts gX8_count_X3_bidders rfl rfl rfl ⟨rfl, ddX3_bidders⟩ ⟨Nat.le_of_ble_eq_true rfl, Nat.le_of_ble_eq_true rfl⟩) hK hP [7, 8, 9, 10, 11, 12] rfl rfl rfl rfl rfl hl.1 (Nat.le_of_ble_eq_true rfl) ⟨Nat.zero_le _, Nat.zero_le _⟩ dX8_count_60 ?_
    rw [hQQ]
    exact W.iret (v := r_4) hx hb hr (fun t ht hW => ⟨_, rfl, Option.some.inj h, ht⟩) (fun q hq => by cases hq) dX8_count_63
  have h := (if_neg c_3).symm.trans h
  by_cases c_5 : v1 = 2
  · have h := (if_pos c_5).symm.trans h
    refine lv_tableIn (tgt := 64) hx hb dX8_count_1 (by rw [c_5]; decide) (by rw [c_5]; decide) (by rw [c_5]; rfl) (by decide) ?_
    refine lv_aload_n hx hb dX8_count_64 rfl (lv_at hl 0 rfl) ?_
    refine va_get (D := (dC, dI)) (ci := 6) (v := .ref q_land) (C := RX8) (T := TX8) (N := 10) hx hb hts w_1 hown hK hP 0 rfl rfl 2 (by decide) w_2 (fun _ h9 => h9) rfl dX8_count_65 ?_
    refine lv_iconst (v := 0) hx hb dX8_count_68 (by decide) ?_
    obtain ⟨r_6, hc_6, h⟩ := bd1_of h
    refine cl_rV (As := [.int 0]) (rest := []) ⟨hx, hb, hml, hown, hts⟩ (m_X3_levelBehind l dC dI cI cZ q_land q_land_heights q_land_holders q_land_kinds q_land_purses q_land_homes land_told land_low land_high land_price land_hour land_bidders land_heights land_holders land_kinds land_purses land_homes 0 (r_6) hc_6) (cwV 1 hts gX8_count_X3_levelBehind rfl rfl rfl ⟨rfl, ddX3_levelBehind⟩ ⟨Nat.le_of_ble_eq_true rfl, Nat.le_of_ble_eq_true rfl⟩) hK hP [7, 8, 9, 10, 11, 12] rfl rfl rfl rfl rfl hl.1 (Nat.le_of_ble_eq_true rfl) ⟨Nat.zero_le _, Nat.zero_le _⟩ dX8_count_69 ?_
    rw [hQQ]
    exact W.iret (v := r_6) hx hb hr (fun t ht hW => ⟨_, rfl, Option.some.inj h, ht⟩) (fun q hq => by cases hq) dX8_count_72
  have h := (if_neg c_5).symm.trans h
  by_cases c_7 : v1 = 3
  · have h := (if_pos c_7).symm.trans h
    refine lv_tableIn (tgt := 73) hx hb dX8_count_1 (by rw [c_7]; decide) (by rw [c_7]; decide) (by rw [c_7]; rfl) (by decide) ?_
    refine lv_aload_n hx hb dX8_count_73 rfl (lv_at hl 0 rfl) ?_
    refine va_get (D := (dC, dI)) (ci := 6) (v := .ref q_land) (C := RX8) (T := TX8) (N := 10) hx hb hts w_1 hown hK hP 0 rfl rfl 2 (by decide) w_2 (fun _ h9 => h9) rfl dX8_count_74 ?_
    obtain ⟨r_8, hc_8, h⟩ := bd1_of h
    refine cl_rV (As := []) (rest := []) ⟨hx, hb, hml, hown, hts⟩ (m_X3_priceTold l dC dI cI cZ q_land q_land_heights q_land_holders q_land_kinds q_land_purses q_land_homes land_told land_low land_high land_price land_hour land_bidders land_heights land_holders land_kinds land_purses land_homes (r_8) hc_8) (cwV 0 hts gX8_count_X3_priceTold rfl rfl rfl ⟨rfl, ddX3_priceTold⟩ ⟨Nat.le_of_ble_eq_true rfl, Nat.le_of_ble_eq_true rfl⟩) hK hP [7, 8, 9, 10, 11, 12] rfl rfl rfl rfl rfl hl.1 (Nat.le_of_ble_eq_true rfl) ⟨Nat.zero_le _, Nat.zero_le _⟩ dX8_count_77 ?_
    rw [hQQ]
    exact W.iret (v := r_8) hx hb hr (fun t ht hW => ⟨_, rfl, Option.some.inj h, ht⟩) (fun q hq => by cases hq) dX8_count_80
  have h := (if_neg c_7).symm.trans h
  by_cases c_9 : v1 = 4
  · have h := (if_pos c_9).symm.trans h
    refine lv_tableIn (tgt := 81) hx hb dX8_count_1 (by rw [c_9]; decide) (by rw [c_9]; decide) (by rw [c_9]; rfl) (by decide) ?_
    refine lv_aload_n hx hb dX8_count_81 rfl (lv_at hl 0 rfl) ?_
    refine va_get (D := (dC, dI)) (ci := 6) (v := .ref q_land) (C := RX8) (T := TX8) (N := 10) hx hb hts w_1 hown hK hP 0 rfl rfl 2 (by decide) w_2 (fun _ h9 => h9) rfl dX8_count_82 ?_
    obtain ⟨r_10, hc_10, h⟩ := bd1_of h
    refine cl_rV (As := []) (rest := []) ⟨hx, hb, hml, hown, hts⟩ (m_X3_hour l dC dI cI cZ q_land q_land_heights q_land_holders q_land_kinds q_land_purses q_land_homes land_told land_low land_high land_price land_hour land_bidders land_heights land_holders land_kinds land_purses land_homes (r_10) hc_10) (cwV 0 hts gX8_count_X3_hour rfl rfl rfl ⟨rfl, ddX3_hour⟩ ⟨Nat.le_of_ble_eq_true rfl, Nat.le_of_ble_eq_true rfl⟩) hK hP [7, 8, 9, 10, 11, 12] rfl rfl rfl rfl rfl hl.1 (Nat.le_of_ble_eq_true rfl) ⟨Nat.zero_le _, Nat.zero_le _⟩ dX8_count_85 ?_
    rw [hQQ]
    exact W.iret (v := r_10) hx hb hr (fun t ht hW => ⟨_, rfl, Option.some.inj h, ht⟩) (fun q hq => by cases hq) dX8_count_88
  have h := (if_neg c_9).symm.trans h
  by_cases c_11 : v1 = 5
  · have h := (if_pos c_11).symm.trans h
    refine lv_tableIn (tgt := 89) hx hb dX8_count_1 (by rw [c_11]; decide) (by rw [c_11]; decide) (by rw [c_11]; rfl) (by decide) ?_
    refine lv_aload_n hx hb dX8_count_89 rfl (lv_at hl 0 rfl) ?_
    refine va_get (D := (dC, dI)) (ci := 6) (v := .ref q_land) (C := RX8) (T := TX8) (N := 10) hx hb hts w_1 hown hK hP 0 rfl rfl 2 (by decide) w_2 (fun _ h9 => h9) rfl dX8_count_90 ?_
    obtain ⟨r_12, hc_12, h⟩ := bd1_of h
    refine cl_rV (As := []) (rest := []) ⟨hx, hb, hml, hown, hts⟩ (m_X3_heldCells l dC dI cI cZ q_land q_land_heights q_land_holders q_land_kinds q_land_purses q_land_homes land_told land_low land_high land_price land_hour land_bidders land_heights land_holders land_kinds land_purses land_homes (r_12) hc_12) (cwV 0 hts gX8_count_X3_heldCells rfl rfl rfl ⟨rfl, ddX3_heldCells⟩ ⟨Nat.le_of_ble_eq_true rfl, Nat.le_of_ble_eq_true rfl⟩) hK hP [7, 8, 9, 10, 11, 12] rfl rfl rfl rfl rfl hl.1 (Nat.le_of_ble_eq_true rfl) ⟨Nat.zero_le _, Nat.zero_le _⟩ dX8_count_93 ?_
    rw [hQQ]
    exact W.iret (v := r_12) hx hb hr (fun t ht hW => ⟨_, rfl, Option.some.inj h, ht⟩) (fun q hq => by cases hq) dX8_count_96
  have h := (if_neg c_11).symm.trans h
  by_cases c_13 : v1 = 6
  · have h := (if_pos c_13).symm.trans h
    refine lv_tableIn (tgt := 97) hx hb dX8_count_1 (by rw [c_13]; decide) (by rw [c_13]; decide) (by rw [c_13]; rfl) (by decide) ?_
    refine lv_aload_n hx hb dX8_count_97 rfl (lv_at hl 0 rfl) ?_
    refine va_get (D := (dC, dI)) (ci := 6) (v := .ref q_acts) (C := RX8) (T := TX8) (N := 10) hx hb hts w_1 hown hK hP 0 rfl rfl 6 (by decide) w_3 (fun _ h9 => h9) rfl dX8_count_98 ?_
    obtain ⟨r_14, hc_14, h⟩ := bd1_of h
    refine cl_rV (As := []) (rest := []) ⟨hx, hb, hml, hown, hts⟩ (m_X0_kept l dC dI cI cZ q_acts q_acts_saved acts_saved acts_next acts_kept (r_14) hc_14) (cwV 0 hts gX8_count_X0_kept rfl rfl rfl ⟨rfl, ddX0_kept⟩ ⟨Nat.le_of_ble_eq_true rfl, Nat.le_of_ble_eq_true rfl⟩) hK hP [13, 14] rfl rfl rfl rfl rfl hl.1 (Nat.le_of_ble_eq_true rfl) ⟨Nat.zero_le _, Nat.zero_le _⟩ dX8_count_101 ?_
    rw [hQQ]
    exact W.iret (v := r_14) hx hb hr (fun t ht hW => ⟨_, rfl, Option.some.inj h, ht⟩) (fun q hq => by cases hq) dX8_count_104
  have h := (if_neg c_13).symm.trans h
  by_cases c_15 : v1 = 7
  · have h := (if_pos c_15).symm.trans h
    refine lv_tableIn (tgt := 105) hx hb dX8_count_1 (by rw [c_15]; decide) (by rw [c_15]; decide) (by rw [c_15]; rfl) (by decide) ?_
    refine lv_aload_n hx hb dX8_count_105 rfl (lv_at hl 0 rfl) ?_
    refine va_get (D := (dC, dI)) (ci := 6) (v := .ref q_tape) (C := RX8) (T := TX8) (N := 10) hx hb hts w_1 hown hK hP 0 rfl rfl 1 (by decide) w_4 (fun _ h9 => h9) rfl dX8_count_106 ?_
    obtain ⟨r_16, hc_16, h⟩ := bd1_of h
    refine cl_rV (As := []) (rest := []) ⟨hx, hb, hml, hown, hts⟩ (m_X7_length l dC dI cI cZ q_tape q_tape_bytes tape_bytes tape_length tape_at tape_number tape_faultNumber (r_16) hc_16) (cwV 0 hts gX8_count_X7_length rfl rfl rfl ⟨rfl, ddX7_length⟩ ⟨Nat.le_of_ble_eq_true rfl, Nat.le_of_ble_eq_true rfl⟩) hK hP [5, 6] rfl rfl rfl rfl rfl hl.1 (Nat.le_of_ble_eq_true rfl) ⟨Nat.zero_le _, Nat.zero_le _⟩ dX8_count_109 ?_
    rw [hQQ]
    exact W.iret (v := r_16) hx hb hr (fun t ht hW => ⟨_, rfl, Option.some.inj h, ht⟩) (fun q hq => by cases hq) dX8_count_112
  have h := (if_neg c_15).symm.trans h
  have n_1 : (v1).toInt ≠ 0 := ne_tn c_1 rfl
  have n_3 : (v1).toInt ≠ 1 := ne_tn c_3 rfl
  have n_5 : (v1).toInt ≠ 2 := ne_tn c_5 rfl
  have n_7 : (v1).toInt ≠ 3 := ne_tn c_7 rfl
  have n_9 : (v1).toInt ≠ 4 := ne_tn c_9 rfl
  have n_11 : (v1).toInt ≠ 5 := ne_tn c_11 rfl
  have n_13 : (v1).toInt ≠ 6 := ne_tn c_13 rfl
  have n_15 : (v1).toInt ≠ 7 := ne_tn c_15 rfl
  refine lv_tableOut (tgt := 113) hx hb dX8_count_1 (by omega) (by decide) ?_
  refine lv_ldc hx hb hown w_5 dX8_count_113 ?_
  rw [hQQ]
  exact W.iret (v := (-1000001)) hx hb hr (fun t ht hW => ⟨_, rfl, Option.some.inj h, ht⟩) (fun q hq => by cases hq) dX8_count_115
def fX8_status (s_finding : Int32) : Option (Int32) :=
  some (s_finding)
abbrev rmX8_status : Room := { frames := 0, cells := 0, slots := 0, locals := 0 }
theorem ddX8_status : yX8_status.cls ≠ "java/lang/invoke/MethodHandle" ∧ yX8_status.cls ≠ "java/lang/invoke/VarHandle" ∧ (parseMethodDescriptor yX8_status.desc).map (fun d => d.parameters.length) = some 0 := by decide +kernel
set_option maxHeartbeats 4000000 in
set_option maxRecDepth 100000 in
theorem m_X8_status (l : Launch) (dC : Nat → ClassId) (dI : Nat → Nat → Nat) (cI cZ : ClassId) (q_s q_rows q_tape q_land q_spare q_firstImage q_secondImage q_acts q_basket q_asks : Nat) (s_finding : Int32) (res : Int32) (hf : fX8_status s_finding = some res) : Met l yX8_status wsX8_status rmX8_status (rdPc (dC, dI) (tyZ cI cZ) ((W_X cI cZ q_s q_rows q_tape q_land q_spare q_firstImage q_secondImage q_acts q_basket q_asks s_finding)) [.ref q_s]) (rdQ res) 0 0 (fun _ => False) := by
  refine Met.ofW (cc := cX8_status) (maxL := 1) (ret := (some .int)) (by decide) rfl ?_
  intro p e s m args below meth c s₁ B hml hv
  obtain ⟨rfl, hP, hK⟩ := hv
  have hx := B.exec
  have hb := B.bytes
  have hr := B.returns
  have hts := atoms_spec (ws := wsX8_status) B.pre
  have hown : s.vm.findClass RX8 = some m.cls := findClass_of_methodNamed B.named
  have hlocks := B.notSynchronized
  have hl := lv_entry ([.ref q_s]) (n := 1) (Nat.le_of_ble_eq_true rfl)
  rw [lg_entry_eq]
  generalize (lg_sl ([.ref q_s]) ++ List.replicate (1 - (lg_sl ([.ref q_s])).length) Slot.unset).toArray = ls at hl ⊢
  have hl : lv_has ls 1 [(0, .ref q_s)] := hl
  obtain ⟨QQ, hQQ⟩ : ∃ Q, Q = MQ below (rdQ res) ([.ref q_s] : List Value).toArray s 0 0 (fun _ => False) := ⟨_, rfl⟩
  rw [← hQQ]
  have w_0 := hts (Cond.fieldLink RX8 60 "TideInches" "finding" "I") (List.mem_of_getElem? (i := 1) rfl)
  have w_1 := (fun w hw => List.mem_cons_of_mem _ (List.mem_append_right _ hw) : ∀ w ∈ wsX80, w ∈ wsX8_status)
  have h := hf
  unfold fX8_status at h
  refine lv_aload_n hx hb dX8_status_0 rfl (lv_at hl 0 rfl) ?_
  refine va_get (D := (dC, dI)) (ci := 6) (v := .int s_finding) (C := RX8) (T := TX8) (N := 10) hx hb hts w_1 hown hK hP 0 rfl rfl 9 (by decide) w_0 (fun _ h9 => h9) rfl dX8_status_1 ?_
  rw [hQQ]
  exact W.iret (v := s_finding) hx hb hr (fun t ht hW => ⟨_, rfl, Option.some.inj h, ht⟩) (fun q hq => by cases hq) dX8_status_4







