theorem arr_ex_int {s : State} {args : Array Value} (h : (Cond.arrayClass .int).before args s = true) : ∃ cA, ArrOfT s cA .int ∧ va_RA s cA .int := by
  obtain ⟨c, k, comp, h1, h2, h3⟩ := Cond.arrayClass_spec h
  exact ⟨c, fun n z => ⟨fun k h => (by cases h), k, h2, comp, h3⟩, h1⟩
theorem arr_ex_boolean {s : State} {args : Array Value} (h : (Cond.arrayClass .boolean).before args s = true) : ∃ cA, ArrOfT s cA .boolean ∧ va_RA s cA .boolean := by
  obtain ⟨c, k, comp, h1, h2, h3⟩ := Cond.arrayClass_spec h
  exact ⟨c, fun n z => ⟨fun k h => (by cases h), k, h2, comp, h3⟩, h1⟩
theorem no_b (b : Nat) : ¬ (b : Int) < (0 : Int32).toInt := by
  rw [Int32.toInt_zero]; omega
theorem okI_0 : OkI (fun _ => 0) := by
  have e : ((0 : Int32)).toInt = 0 := rfl
  refine ⟨Or.inl ⟨rfl, rfl⟩, ?_, ?_, ?_, ?_, fun c _ => ?_, fun c _ => ?_, fun b hb => absurd hb (no_b b)⟩ <;> simp only [e] <;> omega
theorem linv_0 {z_lanes_rows : Nat → Int32} {z_holders_land : Nat → Int32} {z_holders_spare : Nat → Int32} {z_holders_firstImage : Nat → Int32} {z_holders_secondImage : Nat → Int32} {z_lane : Nat → Int32} (p_z_lanes_rows : ∀ r : Nat, r < 8 → z_lanes_rows r = -1) (p_z_holders_land : ∀ r : Nat, r < 15 → z_holders_land r = -1) (p_z_holders_spare : ∀ r : Nat, r < 15 → z_holders_spare r = -1) (p_z_holders_firstImage : ∀ r : Nat, r < 15 → z_holders_firstImage r = -1) (p_z_holders_secondImage : ∀ r : Nat, r < 15 → z_holders_secondImage r = -1) (p_z_lane : ∀ r : Nat, r < 8 → z_lane r = -1) : LInv 0 z_lanes_rows (fun _ => 0) (fun _ => 0) (fun _ => 0) 0 0 0 0 0 0 0 0 (fun _ => 0) z_holders_land (fun _ => 0) (fun _ => 0) (fun _ => 0) 0 0 0 0 0 0 (fun _ => 0) z_holders_firstImage (fun _ => 0) (fun _ => 0) (fun _ => 0) 0 0 0 0 0 0 (fun _ => 0) z_holders_secondImage (fun _ => 0) (fun _ => 0) (fun _ => 0) (fun _ => 0) 0 0 (fun _ => 0) 0 0 z_lane (fun _ => 0) (fun _ => 0) (fun _ => 0) (fun _ => 0) 0 (fun _ => 0) 0 0 (fun _ => 0) (fun _ => 0) (fun _ => 0) 0 := by
  refine ⟨rfl, fun r hr => ⟨(p_z_lanes_rows r hr).trans (p_z_lane r hr).symm, Or.inl (p_z_lane r hr)⟩, ⟨rfl, 0, by omega, rfl, rfl, fun i h => absurd h (Nat.not_lt_zero i)⟩, ⟨rfl, rfl, rfl, rfl, rfl, rfl, fun _ _ => rfl, fun c hc => p_z_holders_land c hc, fun b hb => absurd hb (no_b b)⟩, okI_0, ⟨0, 0, by omega, by omega, rfl, rfl, rfl, fun j h => absurd h (Nat.not_lt_zero j)⟩, ⟨Or.inl rfl, rfl, fun h => absurd h (by decide)⟩, ⟨Or.inl rfl, rfl, fun h => absurd h (by decide)⟩, ⟨0, by omega, rfl, rfl, fun i h => absurd h (Nat.not_lt_zero i)⟩⟩
set_option maxHeartbeats 8000000 in
set_option maxRecDepth 100000 in
/-- THE LAW, from its entry -/
theorem whole_start {p : Program} {e : Env} {s : State} {m : MethodId} {below : List Frame} {meth : Method} {c : Code} (l : Launch) (hflags : l.flags = flags0) {b L : Nat} {xs : Nat → Int32} (hL : L ≤ 384) (C0 : lw_At p s m meth c b L xs) : W p l e room_1 s m #[Value.ref b] below meth c s.heap [] 0 0 (lw_Z below #[Value.ref b] s) (entryFrame m ([Value.ref b] : List Value).toArray 4) := by
  obtain ⟨hx, hb, hr, hml, hown, hts, hX, hbl, hlocks, hgv⟩ := id C0
  have hA : ∀ q : Nat, s.heap.size ≤ q → (fun q : Nat => s.heap.size ≤ q) q := fun _ h => h
  obtain ⟨c0, iS0, hKn0⟩ := u_known (C := RX0) (T := TX0) (N := 3) (n := 3) (lw_hts hts) inlX0 (lw_hts hts (Cond.instantiable RX0 3) (List.mem_of_getElem? (i := 28) rfl))
  obtain ⟨c1, iS1, hKn1⟩ := u_known (C := RX1) (T := TX1) (N := 6) (n := 6) (lw_hts hts) inlX1 (lw_hts hts (Cond.instantiable RX1 6) (List.mem_of_getElem? (i := 36) rfl))
  obtain ⟨c2, iS2, hKn2⟩ := u_known (C := RX2) (T := TX2) (N := 3) (n := 3) (lw_hts hts) inlX2 (lw_hts hts (Cond.instantiable RX2 3) (List.mem_of_getElem? (i := 32) rfl))
  obtain ⟨c3, iS3, hKn3⟩ := u_known (C := RX3) (T := TX3) (N := 11) (n := 11) (lw_hts hts) inlX3 (lw_hts hts (Cond.instantiable RX3 11) (List.mem_of_getElem? (i := 21) rfl))
  obtain ⟨c4, iS4, hKn4⟩ := u_known (C := RX5) (T := TX5) (N := 3) (n := 3) (lw_hts hts) inlX5 (lw_hts hts (Cond.instantiable RX5 3) (List.mem_of_getElem? (i := 13) rfl))
  obtain ⟨c5, iS5, hKn5⟩ := u_known (C := RX7) (T := TX7) (N := 5) (n := 5) (lw_hts hts) inlX7 (lw_hts hts (Cond.instantiable RX7 5) (List.mem_of_getElem? (i := 17) rfl))
  obtain ⟨c6, iS6, hKn6⟩ := u_known (C := RX8) (T := TX8) (N := 10) (n := 10) (lw_hts hts) inlX8 (lw_hts hts (Cond.instantiable RX8 10) (List.mem_of_getElem? (i := 1) rfl))
  obtain ⟨c7, iS7, hKn7⟩ := u_known (C := RX9) (T := TX9) (N := 23) (n := 23) (lw_hts hts) inlX9 (lw_hts hts (Cond.instantiable RX9 23) (List.mem_of_getElem? (i := 4) rfl))
  obtain ⟨cI, hcI⟩ := arr_ex_int (lw_hts hts (Cond.arrayClass .int) (List.mem_of_getElem? (i := 44) rfl))
  obtain ⟨cZ, hcZ⟩ := arr_ex_boolean (lw_hts hts (Cond.arrayClass .boolean) (List.mem_of_getElem? (i := 94) rfl))
  obtain ⟨dC, dI, hKc⟩ : ∃ (dC : Nat → ClassId) (dI : Nat → Nat → Nat), ∀ (k : Nat) (q : vw_C), vwCl[k]? = some q → u_Kn s q.1 q.2.1 q.2.2 (dC k) (dI k) := by
    refine ⟨fun k => if k = 0 then c0 else if k = 1 then c1 else if k = 2 then c2 else if k = 3 then c3 else if k = 4 then c4 else if k = 5 then c5 else if k = 6 then c6 else c7, fun k => if k = 0 then iS0 else if k = 1 then iS1 else if k = 2 then iS2 else if k = 3 then iS3 else if k = 4 then iS4 else if k = 5 then iS5 else if k = 6 then iS6 else iS7, ?_⟩
    intro k q hq
    match k, hq with
    | 0, hq => cases hq; exact hKn0
    | 1, hq => cases hq; exact hKn1
    | 2, hq => cases hq; exact hKn2
    | 3, hq => cases hq; exact hKn3
    | 4, hq => cases hq; exact hKn4
    | 5, hq => cases hq; exact hKn5
    | 6, hq => cases hq; exact hKn6
    | 7, hq => cases hq; exact hKn7
    | k + 8, hq => simp [vwCl] at hq
  have hK : va_K (dC, dI) vwCl (tyZ cI cZ) s := by
    refine ⟨hKc, ?_⟩
    intro k q hq
    match k, hq with
    | 0, hq => cases hq; exact hcI
    | 1, hq => cases hq; exact hcZ
    | k + 2, hq => simp [tyZ] at hq
  have hS : va_S (fun q : Nat => s.heap.size ≤ q) s.heap s.heap [] := va_S.rf
  have hP : va_P (dC, dI) vwCl [] s.heap := fun k q h => by simp at h
  have hD : va_D (fun q : Nat => s.heap.size ≤ q) [] := ⟨fun i j p q h => by simp at h, fun k q h => by simp at h⟩
  have hl := lv_entry ([.ref b]) (n := 4) (Nat.le_of_ble_eq_true rfl)
  rw [lg_entry_eq]
  generalize (lg_sl ([.ref b]) ++ List.replicate (4 - (lg_sl ([.ref b])).length) Slot.unset).toArray = ls at hl ⊢
  have hl : lv_has ls 4 [(0, .ref b)] := hl
  refine va_new (ci := 6) (fs := [.null, .null, .null, .null, .null, .null, .null, .null, .null, .int 0]) (C := RX8) (T := TX8) (N := 10) hx hb (lw_hts hts) inlX8 tyX8 tyX8_ok hown (lw_hts hts (Cond.classLink RL 7 RX8) (List.mem_of_getElem? (i := 0) rfl)) (lw_hts hts (Cond.instantiable RX8 10) (List.mem_of_getElem? (i := 1) rfl)) (lw_hts hts (Cond.initialized RX8) (List.mem_of_getElem? (i := 2) rfl)) hK hP hD hS hA rfl (fun j hj => by rcases (show j = 0 ∨ j = 1 ∨ j = 2 ∨ j = 3 ∨ j = 4 ∨ j = 5 ∨ j = 6 ∨ j = 7 ∨ j = 8 ∨ j = 9 by omega) with rfl | rfl | rfl | rfl | rfl | rfl | rfl | rfl | rfl | rfl <;> rfl) (Nat.le_of_ble_eq_true rfl) (Nat.le_of_ble_eq_true rfl) dL_law_0 (fun q_s H hP hD hS => ?_)
  have hP : va_P (dC, dI) vwCl [(q_s, .inr (6, [.null, .null, .null, .null, .null, .null, .null, .null, .null, .int 0]))] H := hP
  have hD : va_D (fun q : Nat => s.heap.size ≤ q) [(q_s, .inr (6, [.null, .null, .null, .null, .null, .null, .null, .null, .null, .int 0]))] := hD
  refine W.widen (k := 1) (n := 10) (by omega) (by omega) ?_
  refine lv_dup hx hb dL_law_3 rfl ?_
  have hPc := hP.sub (ws' := [(q_s, .inr (6, [.null, .null, .null, .null, .null, .null, .null, .null, .null, .int 0]))]) [0] rfl
  have hDc := hD.sub (ws' := [(q_s, .inr (6, [.null, .null, .null, .null, .null, .null, .null, .null, .null, .int 0]))]) [0] (by decide) rfl
  have hFc := va_free (wc := [(q_s, .inr (6, [.null, .null, .null, .null, .null, .null, .null, .null, .null, .int 0]))]) hD hS hA [0] rfl
  refine va_callv (va_runI (As := []) (rest := [.ref q_s]) ⟨hx, hb, hml, hown, lw_hts hts⟩ (m_X8_init l dC dI cI cZ q_s H.size) (cwI 0 (lw_hts hts) gL_law_X8_init rfl rfl rfl (lw_hts hts (Cond.initialized RX8) (List.mem_of_getElem? (i := 2) rfl)) (lw_hts hts (Cond.methodLink RL 9 yX8_init) (List.mem_of_getElem? (i := 6) rfl)) (lw_hts hts (Cond.instanceMethod yX8_init) (List.mem_of_getElem? (i := 7) rfl)) rfl ddX8_init ⟨Nat.le_of_ble_eq_true rfl, Nat.le_of_ble_eq_true rfl⟩) ⟨mt_fb, fun U hU hW => ⟨rfl, by rw [hU], by rw [hU]; exact hPc, va_K.moved hW.alike hK, hDc.weaken (fun _ _ _ _ => trivial)⟩⟩ rfl rfl hl.1 rfl (lv_room (Nat.le_of_ble_eq_true rfl)) dL_law_4 ⟨Nat.le_of_ble_eq_true rfl, Nat.le_of_ble_eq_true rfl⟩) hS (fun q _ h => hFc q h) hFc (fun u t H1 locs ht hvm hw hB hz1 hk1 hS => ?_)
  obtain ⟨q_rows, q_rows_lanes, q_rows_lengths, q_rows_items, q_tape, q_tape_bytes, q_land, q_land_heights, q_land_holders, q_land_kinds, q_land_purses, q_land_homes, q_spare, q_spare_heights, q_spare_holders, q_spare_kinds, q_spare_purses, q_spare_homes, q_firstImage, q_firstImage_heights, q_firstImage_holders, q_firstImage_kinds, q_firstImage_purses, q_firstImage_homes, q_secondImage, q_secondImage_heights, q_secondImage_holders, q_secondImage_kinds, q_secondImage_purses, q_secondImage_homes, q_acts, q_acts_saved, q_basket, q_basket_most, q_basket_which, q_asks, q_asks_bodies, z_lanes_rows, z_holders_land, z_holders_spare, z_holders_firstImage, z_holders_secondImage, p_z_lanes_rows, p_z_holders_land, p_z_holders_spare, p_z_holders_firstImage, p_z_holders_secondImage, hP1, hK1, hD1⟩ := hB
  rw [ht] at hP1
  obtain ⟨hP, hD⟩ := va_join (wr := []) (w1 := (W_X cI cZ q_s q_rows q_tape q_land q_spare q_firstImage q_secondImage q_acts q_basket q_asks 0) ++ ((W_Rows cI cZ q_rows q_rows_lanes q_rows_lengths q_rows_items z_lanes_rows (fun _ => 0) (fun _ => 0)) ++ ((W_Tape cI cZ q_tape q_tape_bytes (fun _ => 0) 0 0 0 0) ++ ((W_Isle cI cZ q_land q_land_heights q_land_holders q_land_kinds q_land_purses q_land_homes 0 0 0 0 0 0 (fun _ => 0) z_holders_land (fun _ => 0) (fun _ => 0) (fun _ => 0)) ++ ((W_Isle cI cZ q_spare q_spare_heights q_spare_holders q_spare_kinds q_spare_purses q_spare_homes 0 0 0 0 0 0 (fun _ => 0) z_holders_spare (fun _ => 0) (fun _ => 0) (fun _ => 0)) ++ ((W_Isle cI cZ q_firstImage q_firstImage_heights q_firstImage_holders q_firstImage_kinds q_firstImage_purses q_firstImage_homes 0 0 0 0 0 0 (fun _ => 0) z_holders_firstImage (fun _ => 0) (fun _ => 0) (fun _ => 0)) ++ ((W_Isle cI cZ q_secondImage q_secondImage_heights q_secondImage_holders q_secondImage_kinds q_secondImage_purses q_secondImage_homes 0 0 0 0 0 0 (fun _ => 0) z_holders_secondImage (fun _ => 0) (fun _ => 0) (fun _ => 0)) ++ ((W_Acts cI cZ q_acts q_acts_saved (fun _ => 0) 0 0) ++ ((W_Basket cI cZ q_basket q_basket_most q_basket_which (fun _ => 0) (fun _ => 0) 0) ++ ((W_Asks cI cZ q_asks q_asks_bodies (fun _ => 0) 0 0 0 0 0))))))))))) hP hD [0] [] rfl rfl (by decide +kernel) (by decide +kernel) hk1 hFc hP1 hD1
  generalize H1 = H at hP hS ⊢
  have hP : va_P (dC, dI) vwCl ((W_X cI cZ q_s q_rows q_tape q_land q_spare q_firstImage q_secondImage q_acts q_basket q_asks 0) ++ ((W_Rows cI cZ q_rows q_rows_lanes q_rows_lengths q_rows_items z_lanes_rows (fun _ => 0) (fun _ => 0)) ++ ((W_Tape cI cZ q_tape q_tape_bytes (fun _ => 0) 0 0 0 0) ++ ((W_Isle cI cZ q_land q_land_heights q_land_holders q_land_kinds q_land_purses q_land_homes 0 0 0 0 0 0 (fun _ => 0) z_holders_land (fun _ => 0) (fun _ => 0) (fun _ => 0)) ++ ((W_Isle cI cZ q_spare q_spare_heights q_spare_holders q_spare_kinds q_spare_purses q_spare_homes 0 0 0 0 0 0 (fun _ => 0) z_holders_spare (fun _ => 0) (fun _ => 0) (fun _ => 0)) ++ ((W_Isle cI cZ q_firstImage q_firstImage_heights q_firstImage_holders q_firstImage_kinds q_firstImage_purses q_firstImage_homes 0 0 0 0 0 0 (fun _ => 0) z_holders_firstImage (fun _ => 0) (fun _ => 0) (fun _ => 0)) ++ ((W_Isle cI cZ q_secondImage q_secondImage_heights q_secondImage_holders q_secondImage_kinds q_secondImage_purses q_secondImage_homes 0 0 0 0 0 0 (fun _ => 0) z_holders_secondImage (fun _ => 0) (fun _ => 0) (fun _ => 0)) ++ ((W_Acts cI cZ q_acts q_acts_saved (fun _ => 0) 0 0) ++ ((W_Basket cI cZ q_basket q_basket_most q_basket_which (fun _ => 0) (fun _ => 0) 0) ++ ((W_Asks cI cZ q_asks q_asks_bodies (fun _ => 0) 0 0 0 0 0))))))))))) H := hP
  have hD : va_D (fun q : Nat => s.heap.size ≤ q) ((W_X cI cZ q_s q_rows q_tape q_land q_spare q_firstImage q_secondImage q_acts q_basket q_asks 0) ++ ((W_Rows cI cZ q_rows q_rows_lanes q_rows_lengths q_rows_items z_lanes_rows (fun _ => 0) (fun _ => 0)) ++ ((W_Tape cI cZ q_tape q_tape_bytes (fun _ => 0) 0 0 0 0) ++ ((W_Isle cI cZ q_land q_land_heights q_land_holders q_land_kinds q_land_purses q_land_homes 0 0 0 0 0 0 (fun _ => 0) z_holders_land (fun _ => 0) (fun _ => 0) (fun _ => 0)) ++ ((W_Isle cI cZ q_spare q_spare_heights q_spare_holders q_spare_kinds q_spare_purses q_spare_homes 0 0 0 0 0 0 (fun _ => 0) z_holders_spare (fun _ => 0) (fun _ => 0) (fun _ => 0)) ++ ((W_Isle cI cZ q_firstImage q_firstImage_heights q_firstImage_holders q_firstImage_kinds q_firstImage_purses q_firstImage_homes 0 0 0 0 0 0 (fun _ => 0) z_holders_firstImage (fun _ => 0) (fun _ => 0) (fun _ => 0)) ++ ((W_Isle cI cZ q_secondImage q_secondImage_heights q_secondImage_holders q_secondImage_kinds q_secondImage_purses q_secondImage_homes 0 0 0 0 0 0 (fun _ => 0) z_holders_secondImage (fun _ => 0) (fun _ => 0) (fun _ => 0)) ++ ((W_Acts cI cZ q_acts q_acts_saved (fun _ => 0) 0 0) ++ ((W_Basket cI cZ q_basket q_basket_most q_basket_which (fun _ => 0) (fun _ => 0) 0) ++ ((W_Asks cI cZ q_asks q_asks_bodies (fun _ => 0) 0 0 0 0 0))))))))))) := hD
  refine W.widen (k := 38) (n := 1770) (by omega) (by omega) ?_
  refine lv_astore_n (lv' := [(1, .ref q_s), (0, .ref b)]) hx hb dL_law_7 rfl hl (by decide) rfl (fun ls hl => ?_)
  refine va_new (ci := 7) (fs := [.int 0, .int 0, .null, .null, .null, .null, .null, .null, .null, .int 0, .null, .int 0, .int 0, .int 0, .int 0, .int 0, .int 0, .int 0, .int 0, .null, .null, .null, .int 0]) (C := RX9) (T := TX9) (N := 23) hx hb (lw_hts hts) inlX9 tyX9 tyX9_ok hown (lw_hts hts (Cond.classLink RL 10 RX9) (List.mem_of_getElem? (i := 3) rfl)) (lw_hts hts (Cond.instantiable RX9 23) (List.mem_of_getElem? (i := 4) rfl)) (lw_hts hts (Cond.initialized RX9) (List.mem_of_getElem? (i := 5) rfl)) hK hP hD hS hA rfl (fun j hj => by rcases (show j = 0 ∨ j = 1 ∨ j = 2 ∨ j = 3 ∨ j = 4 ∨ j = 5 ∨ j = 6 ∨ j = 7 ∨ j = 8 ∨ j = 9 ∨ j = 10 ∨ j = 11 ∨ j = 12 ∨ j = 13 ∨ j = 14 ∨ j = 15 ∨ j = 16 ∨ j = 17 ∨ j = 18 ∨ j = 19 ∨ j = 20 ∨ j = 21 ∨ j = 22 by omega) with rfl | rfl | rfl | rfl | rfl | rfl | rfl | rfl | rfl | rfl | rfl | rfl | rfl | rfl | rfl | rfl | rfl | rfl | rfl | rfl | rfl | rfl | rfl <;> rfl) (Nat.le_of_ble_eq_true rfl) (Nat.le_of_ble_eq_true rfl) dL_law_8 (fun q_m H hP hD hS => ?_)
  refine W.widen (k := 39) (n := 1793) (by omega) (by omega) ?_
  refine lv_dup hx hb dL_law_11 rfl ?_
  have hPc := hP.sub (ws' := [(q_m, .inr (7, [.int 0, .int 0, .null, .null, .null, .null, .null, .null, .null, .int 0, .null, .int 0, .int 0, .int 0, .int 0, .int 0, .int 0, .int 0, .int 0, .null, .null, .null, .int 0]))]) [38] rfl
  have hDc := hD.sub (ws' := [(q_m, .inr (7, [.int 0, .int 0, .null, .null, .null, .null, .null, .null, .null, .int 0, .null, .int 0, .int 0, .int 0, .int 0, .int 0, .int 0, .int 0, .int 0, .null, .null, .null, .int 0]))]) [38] (by decide) rfl
  have hFc := va_free (wc := [(q_m, .inr (7, [.int 0, .int 0, .null, .null, .null, .null, .null, .null, .null, .int 0, .null, .int 0, .int 0, .int 0, .int 0, .int 0, .int 0, .int 0, .int 0, .null, .null, .null, .int 0]))]) hD hS hA [38] rfl
  refine va_callv (va_runI (As := []) (rest := [.ref q_m]) ⟨hx, hb, hml, hown, lw_hts hts⟩ (m_X9_init l dC dI cI cZ q_m H.size) (cwI 0 (lw_hts hts) gL_law_X9_init rfl rfl rfl (lw_hts hts (Cond.initialized RX9) (List.mem_of_getElem? (i := 5) rfl)) (lw_hts hts (Cond.methodLink RL 12 yX9_init) (List.mem_of_getElem? (i := 82) rfl)) (lw_hts hts (Cond.instanceMethod yX9_init) (List.mem_of_getElem? (i := 83) rfl)) rfl ddX9_init ⟨Nat.le_of_ble_eq_true rfl, Nat.le_of_ble_eq_true rfl⟩) ⟨mt_fb, fun U hU hW => ⟨rfl, by rw [hU], by rw [hU]; exact hPc, va_K.moved hW.alike hK, hDc.weaken (fun _ _ _ _ => trivial)⟩⟩ rfl rfl hl.1 rfl (lv_room (Nat.le_of_ble_eq_true rfl)) dL_law_12 ⟨Nat.le_of_ble_eq_true rfl, Nat.le_of_ble_eq_true rfl⟩) hS (fun q _ h => hFc q h) hFc (fun u t H1 locs ht hvm hw hB hz1 hk1 hS => ?_)
  obtain ⟨q_m_lane, q_m_many, q_m_item, q_m_isle, q_m_fresh, q_m_then, q_m_was, q_m_tape, q_m_isKept, q_m_kept, q_m_trace, z_lane, p_z_lane, hP1, hK1, hD1⟩ := hB
  rw [ht] at hP1
  obtain ⟨hP, hD⟩ := va_join (wr := (W_X cI cZ q_s q_rows q_tape q_land q_spare q_firstImage q_secondImage q_acts q_basket q_asks 0) ++ ((W_Rows cI cZ q_rows q_rows_lanes q_rows_lengths q_rows_items z_lanes_rows (fun _ => 0) (fun _ => 0)) ++ ((W_Tape cI cZ q_tape q_tape_bytes (fun _ => 0) 0 0 0 0) ++ ((W_Isle cI cZ q_land q_land_heights q_land_holders q_land_kinds q_land_purses q_land_homes 0 0 0 0 0 0 (fun _ => 0) z_holders_land (fun _ => 0) (fun _ => 0) (fun _ => 0)) ++ ((W_Isle cI cZ q_spare q_spare_heights q_spare_holders q_spare_kinds q_spare_purses q_spare_homes 0 0 0 0 0 0 (fun _ => 0) z_holders_spare (fun _ => 0) (fun _ => 0) (fun _ => 0)) ++ ((W_Isle cI cZ q_firstImage q_firstImage_heights q_firstImage_holders q_firstImage_kinds q_firstImage_purses q_firstImage_homes 0 0 0 0 0 0 (fun _ => 0) z_holders_firstImage (fun _ => 0) (fun _ => 0) (fun _ => 0)) ++ ((W_Isle cI cZ q_secondImage q_secondImage_heights q_secondImage_holders q_secondImage_kinds q_secondImage_purses q_secondImage_homes 0 0 0 0 0 0 (fun _ => 0) z_holders_secondImage (fun _ => 0) (fun _ => 0) (fun _ => 0)) ++ ((W_Acts cI cZ q_acts q_acts_saved (fun _ => 0) 0 0) ++ ((W_Basket cI cZ q_basket q_basket_most q_basket_which (fun _ => 0) (fun _ => 0) 0) ++ ((W_Asks cI cZ q_asks q_asks_bodies (fun _ => 0) 0 0 0 0 0))))))))))) (w1 := W_M cI cZ q_m q_m_lane q_m_many q_m_item q_m_isle q_m_fresh q_m_then q_m_was q_m_tape q_m_isKept q_m_kept q_m_trace 0 0 z_lane (fun _ => 0) (fun _ => 0) (fun _ => 0) (fun _ => 0) (fun _ => 0) (fun _ => 0) 0 (fun _ => 0) 0 0 0 0 0 0 0 0 (fun _ => 0) (fun _ => 0) (fun _ => 0) 0) hP hD [38] [0, 1, 2, 3, 4, 5, 6, 7, 8, 9, 10, 11, 12, 13, 14, 15, 16, 17, 18, 19, 20, 21, 22, 23, 24, 25, 26, 27, 28, 29, 30, 31, 32, 33, 34, 35, 36, 37] rfl rfl (by decide +kernel) (by decide +kernel) hk1 hFc hP1 hD1
  generalize H1 = H at hP hS ⊢
  have hP : va_P (dC, dI) vwCl (WL cI cZ q_s q_rows q_tape q_land q_spare q_firstImage q_secondImage q_acts q_basket q_asks q_rows_lanes q_rows_lengths q_rows_items q_tape_bytes q_land_heights q_land_holders q_land_kinds q_land_purses q_land_homes q_spare_heights q_spare_holders q_spare_kinds q_spare_purses q_spare_homes q_firstImage_heights q_firstImage_holders q_firstImage_kinds q_firstImage_purses q_firstImage_homes q_secondImage_heights q_secondImage_holders q_secondImage_kinds q_secondImage_purses q_secondImage_homes q_acts_saved q_basket_most q_basket_which q_asks_bodies q_m q_m_lane q_m_many q_m_item q_m_isle q_m_fresh q_m_then q_m_was q_m_tape q_m_isKept q_m_kept q_m_trace 0 z_lanes_rows (fun _ => 0) (fun _ => 0) (fun _ => 0) 0 0 0 0 0 0 0 0 0 0 (fun _ => 0) z_holders_land (fun _ => 0) (fun _ => 0) (fun _ => 0) 0 0 0 0 0 0 (fun _ => 0) z_holders_spare (fun _ => 0) (fun _ => 0) (fun _ => 0) 0 0 0 0 0 0 (fun _ => 0) z_holders_firstImage (fun _ => 0) (fun _ => 0) (fun _ => 0) 0 0 0 0 0 0 (fun _ => 0) z_holders_secondImage (fun _ => 0) (fun _ => 0) (fun _ => 0) (fun _ => 0) 0 0 (fun _ => 0) (fun _ => 0) 0 (fun _ => 0) 0 0 0 0 0 0 0 z_lane (fun _ => 0) (fun _ => 0) (fun _ => 0) (fun _ => 0) (fun _ => 0) (fun _ => 0) 0 (fun _ => 0) 0 0 0 0 0 0 0 0 (fun _ => 0) (fun _ => 0) (fun _ => 0) 0) H := by simpa only [WL, List.append_assoc] using hP
  have hD : va_D (fun q : Nat => s.heap.size ≤ q) (WL cI cZ q_s q_rows q_tape q_land q_spare q_firstImage q_secondImage q_acts q_basket q_asks q_rows_lanes q_rows_lengths q_rows_items q_tape_bytes q_land_heights q_land_holders q_land_kinds q_land_purses q_land_homes q_spare_heights q_spare_holders q_spare_kinds q_spare_purses q_spare_homes q_firstImage_heights q_firstImage_holders q_firstImage_kinds q_firstImage_purses q_firstImage_homes q_secondImage_heights q_secondImage_holders q_secondImage_kinds q_secondImage_purses q_secondImage_homes q_acts_saved q_basket_most q_basket_which q_asks_bodies q_m q_m_lane q_m_many q_m_item q_m_isle q_m_fresh q_m_then q_m_was q_m_tape q_m_isKept q_m_kept q_m_trace 0 z_lanes_rows (fun _ => 0) (fun _ => 0) (fun _ => 0) 0 0 0 0 0 0 0 0 0 0 (fun _ => 0) z_holders_land (fun _ => 0) (fun _ => 0) (fun _ => 0) 0 0 0 0 0 0 (fun _ => 0) z_holders_spare (fun _ => 0) (fun _ => 0) (fun _ => 0) 0 0 0 0 0 0 (fun _ => 0) z_holders_firstImage (fun _ => 0) (fun _ => 0) (fun _ => 0) 0 0 0 0 0 0 (fun _ => 0) z_holders_secondImage (fun _ => 0) (fun _ => 0) (fun _ => 0) (fun _ => 0) 0 0 (fun _ => 0) (fun _ => 0) 0 (fun _ => 0) 0 0 0 0 0 0 0 z_lane (fun _ => 0) (fun _ => 0) (fun _ => 0) (fun _ => 0) (fun _ => 0) (fun _ => 0) 0 (fun _ => 0) 0 0 0 0 0 0 0 0 (fun _ => 0) (fun _ => 0) (fun _ => 0) 0) := by simpa only [WL, List.append_assoc] using hD
  refine W.widen (k := 50) (n := 3726) (by omega) (by omega) ?_
  refine lv_astore_n (lv' := [(2, .ref q_m), (1, .ref q_s), (0, .ref b)]) hx hb dL_law_15 rfl hl (by decide) rfl (fun ls hl => ?_)
  refine lv_iconst (v := 0) hx hb dL_law_16 (by decide) ?_
  refine lv_istore_n (lv' := [(3, .int 0), (2, .ref q_m), (1, .ref q_s), (0, .ref b)]) hx hb dL_law_17 rfl hl (by decide) rfl (fun ls hl => ?_)
  exact lw_loop hL C0 hK (L + 1) 0 (by omega) (Nat.zero_le _) 0 z_lanes_rows (fun _ => 0) (fun _ => 0) (fun _ => 0) 0 0 0 0 0 0 0 0 0 0 (fun _ => 0) z_holders_land (fun _ => 0) (fun _ => 0) (fun _ => 0) 0 0 0 0 0 0 (fun _ => 0) z_holders_spare (fun _ => 0) (fun _ => 0) (fun _ => 0) 0 0 0 0 0 0 (fun _ => 0) z_holders_firstImage (fun _ => 0) (fun _ => 0) (fun _ => 0) 0 0 0 0 0 0 (fun _ => 0) z_holders_secondImage (fun _ => 0) (fun _ => 0) (fun _ => 0) (fun _ => 0) 0 0 (fun _ => 0) (fun _ => 0) 0 (fun _ => 0) 0 0 0 0 0 0 0 z_lane (fun _ => 0) (fun _ => 0) (fun _ => 0) (fun _ => 0) (fun _ => 0) (fun _ => 0) 0 (fun _ => 0) 0 0 0 0 0 0 0 0 (fun _ => 0) (fun _ => 0) (fun _ => 0) 0 H _ _ (linv_0 p_z_lanes_rows p_z_holders_land p_z_holders_spare p_z_holders_firstImage p_z_holders_secondImage p_z_lane) hP hD hS (lv_sub hl [3, 2, 1, 0] rfl)
-- ===== YOUR PART ENDS =====
set_option maxHeartbeats 4000000 in
theorem lw_walk (l : Launch) (hflags : l.flags = flags0) (b : Addr) (xs : List Int32) : MetFree l x (headSpec (Jvm.Cond.code x code maxLocals ret :: tables_1) room_1) (lw_P b xs) (fun _ _ _ _ _ => True) lw_Q := by
  refine MetFree.of_bodyS (code := code) (maxLocals := maxLocals) (ret := ret) (by decide) ?_ ?_
  · intro args s m h hn
    obtain ⟨meth, c, h1, h2, h3, h4, h5, h6, -, -⟩ := Cond.code_spec hn (atoms_spec (ws := Jvm.Cond.code x code maxLocals ret :: tables_1) h _ List.mem_cons_self)
    exact ⟨meth, c, h1, h2, h3, h4, h5, h6⟩
  · intro p e s m args below meth c s₁ B hml0 hP _
    obtain ⟨rfl, hx, hbd, hgv⟩ := hP
    obtain ⟨scr, harrAt, hlist, hof, hsmall⟩ := hx
    obtain ⟨hcb, hkn, -, -⟩ := State.arrayAt?_spec harrAt
    have hown : s.vm.findClass R_law = some m.cls := findClass_of_methodNamed B.named
    have hts0 : ∀ c ∈ (Jvm.Cond.code x code maxLocals ret :: tables_1), c.before #[Value.ref b] s = true := atoms_spec (ws := Jvm.Cond.code x code maxLocals ret :: tables_1) B.pre
    have hts : ∀ w ∈ lw_tbl, w.before #[Value.ref b] s = true := k2_hts_sels lw_privs (fun w hw => hts0 w (List.mem_cons_of_mem _ hw)) lw_privs_ok
    have hml : c.maxLocals = 4 := B.maxLocals_eq (hts0 _ List.mem_cons_self)
    have X₀ : Stand p l e room_1 s m #[Value.ref b] below meth c s₁ [] 0 0 := Stand.of_body B
    have hh0 : s₁.heap = s.heap := by rw [B.state]; rfl
    have hsz : scr.slots.size = xs.length := by rw [← Array.length_toList, hlist, List.length_map]
    have hval : ∀ j : Nat, j < xs.length → scr.slots[j]? = some (.int (xs.getD j 0)) := fun j hj => by
      rw [← Array.getElem?_toList, hlist]
      simp [hj]
    have hbl : b < s.heap.size := (Array.getElem?_eq_some_iff.mp hcb).1
    have hX : va_X b xs.length (fun j => xs.getD j 0) s s.heap := ⟨scr, hcb, hof, hkn, hsz, hval⟩
    have K : W p l e room_1 s m #[Value.ref b] below meth c s₁.heap [] 0 0 (lw_Z below #[Value.ref b] s) (entryFrame m ([Value.ref b] : List Value).toArray 4) := by
      rw [hh0]
      exact whole_start l hflags hbd ⟨B.exec, B.bytes, B.returns, hml, hown, hts, hX, hbl, B.notSynchronized, hgv⟩
    obtain ⟨t, a1, o, b1, b2, b3⟩ := K s₁ rfl X₀
    exact ⟨t, o, a1, b1, b2, b3⟩
theorem lw_pre_spec {args : Array Value} {s : State} (h : (Jvm.Cond.and given_1 narrow_1).before args s = true) (hr : rest_1_c.before args s = true) : ∃ (b : Addr) (xs : List Int32), lw_P b xs args s := by
  have hs := flat_of_before _ h
  have hq := flat_of_before _ hr
  have hc : (Cond.count 1).before args s = true := hs _ (by decide +kernel)
  have harr : (Cond.arrayOf (.arg 0) .int).before args s = true := hs _ (by decide +kernel)
  have hle : (Cond.le (.length (.arg 0)) (.int 384)).before args s = true := hs _ (by decide +kernel)
  have hlen : (Cond.isInt (.length (.arg 0))).before args s = true := hq _ (by decide +kernel)
  have hall : (Cond.all (.arg 0) (.isInt (.elem (.arg 0) (.index 0)))).before args s = true := hq _ (by decide +kernel)
  obtain ⟨b, xs, hb, hx⟩ := State.ints_of_pre rfl harr hlen hall
  have hsm : xs.length < 2 ^ 31 := hx.choose_spec.2.2.2
  have hev : (Term.length (.arg 0)).eval args s none [] s = some (.int xs.length.toInt32) := hx.length_eval hb
  have hv := Cond.le_ints hev (show (Term.int 384).eval args s none [] s = some (.int 384) from rfl)
  have hd : xs.length.toInt32 ≤ 384 := by
    simpa [Cond.before, Cond.holds, hv] using hle
  have hN : xs.length ≤ 384 := (Int32.ofNat_le_ofNat hsm (by decide)).mp (show Int32.ofNat xs.length ≤ Int32.ofNat 384 from hd)
  exact ⟨b, xs, Cond.one_arg hc (show args[0]? = some (.ref b) from hb), hx, hN, h⟩
theorem lw_comes (l : Launch) (hflags : l.flags = flags0) : Comes l x (Jvm.Cond.code x code maxLocals ret :: tables_1) room_1 (fun tb e args s => Calls_1 tb e args s ∧ rest_1 tb e args s ∧ Pre_1 tb e args s)
    (fun _ _ args s o t => lw_Q args s o t) := by
  intro p e ha hc hk s m args below hf hfit hheap happ hpre
  obtain ⟨b, xs, hP⟩ := lw_pre_spec hpre.2.2 hpre.2.1
  obtain ⟨k, o, h1, h2, h3, hQ⟩ := lw_walk l hflags b xs p e ha hc hk s m args below hf ((Spec.applies_iff_loose hf).mp happ).1 hP trivial
  exact ⟨k, o, h1, h2, h3, hQ⟩
theorem lw_frame {s t : State} {o : Outcome} {args : Array Value} (h : Framed s o t [] 50 3726) :
    Framed s o t (fieldLocs frame_1_writes args s ++ arrayLocs frame_1_arrays args s ++ staticLocs frame_1_statics s) 50 3726 := h
theorem lw_limb (L : Cond) (hL : ∀ (args : Array Value) (s t : State), L.after args s (.returned (some (.int 1))) t = true) :
    ArmFor flags0 classFile x code maxLocals ret World_1 tables_1 room_1 Calls_1 rest_1 Pre_1
      (fun tb e a s o t => postC L tb e a s o t ∧ Framed s o t (fieldLocs frame_1_writes a s ++ arrayLocs frame_1_arrays a s ++ staticLocs frame_1_statics s) 50 3726) := by
  intro l hflags _ _ p e ha hc hk s m args below hf hfit hheap happ hpre
  obtain ⟨k, o, h1, h2, h3, rfl, hF⟩ := lw_comes l hflags p e ha hc hk s m args below hf hfit hheap happ hpre
  exact ⟨k, _, h1, h2, h3, hL args s _, lw_frame hF⟩
theorem i_vc : Claimed_1_1 ∧ Claimed_1_2 := ⟨lw_limb limb_1_1 (fun args s t => by simp [limb_1_1, Cond.after, Cond.holds, Cond.value]), lw_limb limb_1_2 (fun args s t => Cond.after_iff.mpr (by
  first | (rw [show limb_1_2 = Cond.eq .result (.int 1) from rfl, Cond.eq_ints (x := 1) (y := 1) rfl rfl]; simp; done) | (simp [limb_1_2, Cond.value, Term.eval]; done)))⟩
