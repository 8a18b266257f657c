set_option maxHeartbeats 4000000 in
set_option maxRecDepth 100000 in
theorem kX0_heap (l : Launch) (D : va_G) (h0 r0 : Nat) (cA : ClassId) (σ : Sx) : gMi l yX0_heap wsX0_heap ({ frames := 1, cells := 0, slots := 0, locals := 21 }) D vwCl [(cA, .int)] [.ref h0] (xw h0 r0 cA) σ (fun r σ' => x_heap σ = (r, σ')) := by
  refine gMi_of (cc := cX0_heap) (maxL := 1) (ret := (some .int)) (by decide) rfl (Nat.le_of_ble_eq_true rfl) ?_
  intro p e s m below meth c A ls E G hl
  obtain ⟨hx, hb, hml, hr, hlocks, hown, hts, -, -⟩ := id E
  have hin : ∀ w ∈ wsX00, w ∈ wsX0_heap := fun w h => List.mem_cons_of_mem _ (List.mem_append_right _ h)
  have hl : lv_has ls 1 [(0, .ref h0)] := hl
  refine lv_aload_n hx hb dX0_heap_0 rfl (lv_at hl 0 rfl) ?_
  refine lv_ldc hx hb hown (hts (.constant RX0 29 (2147483647)) (by decide +kernel)) dX0_heap_1 ?_
  refine x_callv (As := [.int (2147483647)]) (rest := []) ⟨hx, hb, hml, hown, hts⟩ (kX0_begin l D h0 r0 cA σ (2147483647)) (cwV 1 hts gX0_heap_X0_begin rfl rfl rfl (by decide +kernel) ⟨Nat.le_of_ble_eq_true rfl, Nat.le_of_ble_eq_true rfl⟩) G rfl hl.1 rfl (Nat.le_of_ble_eq_true rfl) dX0_heap_3 ⟨Nat.zero_le _, Nat.zero_le _⟩ (fun σ_2 H locs e_3 G => ?_)
  refine lv_aload_n hx hb dX0_heap_6 rfl (lv_at hl 0 rfl) ?_
  refine g_get (C := RX0) (T := TX0) (N := 6) (ci := 0) (v := .int σ_2.2.1) hx hb hts hin hown G 0 rfl rfl 1 (by decide) (hts (.fieldLink RX0 33 "SkewMelds" "heaps" "I") (by decide +kernel)) rfl rfl dX0_heap_7 ?_
  refine lv_bipush (v := 8) hx hb dX0_heap_10 (by decide) ?_
  refine lv_icmp_lt (tgt := 17) hx hb dX0_heap_12 (by decide) (fun c_4 => ?_) (fun c_4 => ?_)
  · refine lv_aload_n hx hb dX0_heap_17 rfl (lv_at hl 0 rfl) ?_
    refine lv_dup hx hb dX0_heap_18 rfl ?_
    refine g_get (C := RX0) (T := TX0) (N := 6) (ci := 0) (v := .int σ_2.2.1) hx hb hts hin hown G 0 rfl rfl 1 (by decide) (hts (.fieldLink RX0 33 "SkewMelds" "heaps" "I") (by decide +kernel)) rfl rfl dX0_heap_19 ?_
    refine lv_iconst (v := 1) hx hb dX0_heap_22 (by decide) ?_
    refine lv_iadd hx hb dX0_heap_23 ?_
    refine g_put (C := RX0) (T := TX0) (N := 6) (ci := 0) (v := .int (σ_2.2.1 + 1)) (ty := .int) hx hb hts hin tyX0 tyX0_ok nmX0 hown G 0 rfl rfl 1 (by decide) (hts (.fieldLink RX0 33 "SkewMelds" "heaps" "I") (by decide +kernel)) rfl rfl (by decide +kernel) rfl rfl (Nat.le_of_ble_eq_true rfl) (xw h0 r0 cA (x_sH σ_2 (σ_2.2.1 + 1))) rfl dX0_heap_24 (fun H locs G => ?_)
    refine lv_aload_n hx hb dX0_heap_27 rfl (lv_at hl 0 rfl) ?_
    refine g_get (C := RX0) (T := TX0) (N := 6) (ci := 0) (v := .int (x_sH σ_2 (σ_2.2.1 + 1)).2.1) hx hb hts hin hown G 0 rfl rfl 1 (by decide) (hts (.fieldLink RX0 33 "SkewMelds" "heaps" "I") (by decide +kernel)) rfl rfl dX0_heap_28 ?_
    refine lv_iconst (v := 1) hx hb dX0_heap_31 (by decide) ?_
    refine lv_isub hx hb dX0_heap_32 ?_
    exact g_iret (u := (x_sH σ_2 (σ_2.2.1 + 1))) E G (by (simp only [x_heap, e_3, c_4, ↓reduceIte]) <;> rfl) dX0_heap_33
  · refine lv_iconst (v := (-1)) hx hb dX0_heap_15 (by decide) ?_
    exact g_iret (u := σ_2) E G (by (simp only [x_heap, e_3, c_4, ↓reduceIte]) <;> rfl) dX0_heap_16

set_option maxHeartbeats 4000000 in
set_option maxRecDepth 100000 in
theorem kX0_add (l : Launch) (D : va_G) (h0 r0 : Nat) (cA : ClassId) (σ : Sx) (a0 : Int32) (a1 : Int32) : gMi l yX0_add wsX0_add ({ frames := 4, cells := 0, slots := 0, locals := 93 }) D vwCl [(cA, .int)] [.ref h0, .int a0, .int a1] (xw h0 r0 cA) σ (fun r σ' => x_add σ a0 a1 = (r, σ')) := by
  refine gMi_of (cc := cX0_add) (maxL := 3) (ret := (some .int)) (by decide) rfl (Nat.le_of_ble_eq_true rfl) ?_
  intro p e s m below meth c A ls E G hl
  obtain ⟨hx, hb, hml, hr, hlocks, hown, hts, -, -⟩ := id E
  have hin : ∀ w ∈ wsX00, w ∈ wsX0_add := fun w h => List.mem_cons_of_mem _ (List.mem_append_right _ h)
  have hl : lv_has ls 3 [(0, .ref h0), (1, .int a0), (2, .int a1)] := hl
  refine lv_aload_n hx hb dX0_add_0 rfl (lv_at hl 0 rfl) ?_
  refine lv_bipush (v := 100) hx hb dX0_add_1 (by decide) ?_
  refine x_callv (As := [.int 100]) (rest := []) ⟨hx, hb, hml, hown, hts⟩ (kX0_begin l D h0 r0 cA σ 100) (cwV 1 hts gX0_add_X0_begin rfl rfl rfl (by decide +kernel) ⟨Nat.le_of_ble_eq_true rfl, Nat.le_of_ble_eq_true rfl⟩) G rfl hl.1 rfl (Nat.le_of_ble_eq_true rfl) dX0_add_3 ⟨Nat.zero_le _, Nat.zero_le _⟩ (fun σ_2 H locs e_3 G => ?_)
  refine lv_aload_n hx hb dX0_add_6 rfl (lv_at hl 0 rfl) ?_
  refine lv_iload_n hx hb dX0_add_7 rfl (lv_at hl 1 rfl) ?_
  refine x_calli (As := [.int a0]) (rest := []) ⟨hx, hb, hml, hown, hts⟩ (kX0_exists l D h0 r0 cA σ_2 a0) (cwV 1 hts gX0_add_X0_exists rfl rfl rfl (by decide +kernel) ⟨Nat.le_of_ble_eq_true rfl, Nat.le_of_ble_eq_true rfl⟩) G rfl hl.1 rfl (Nat.le_of_ble_eq_true rfl) dX0_add_8 ⟨Nat.zero_le _, Nat.zero_le _⟩ (fun r_4 σ_5 H locs e_6 G => ?_)
  obtain ⟨rfl, rfl⟩ := e_6
  refine lv_if_ne (tgt := 16) hx hb dX0_add_11 (by decide) (fun c_7 => ?_) (fun c_7 => ?_)
  · refine lv_aload_n hx hb dX0_add_16 rfl (lv_at hl 0 rfl) ?_
    refine g_get (C := RX0) (T := TX0) (N := 6) (ci := 0) (v := .int σ_2.2.2.2.1) hx hb hts hin hown G 0 rfl rfl 3 (by decide) (hts (.fieldLink RX0 21 "SkewMelds" "firstUnused" "I") (by decide +kernel)) rfl rfl dX0_add_17 ?_
    refine lv_iconst (v := (-1)) hx hb dX0_add_20 (by decide) ?_
    refine lv_icmp_ne (tgt := 27) hx hb dX0_add_21 (by decide) (fun c_8 => ?_) (fun c_8 => ?_)
    · refine lv_aload_n hx hb dX0_add_27 rfl (lv_at hl 0 rfl) ?_
      refine lv_iload_n hx hb dX0_add_28 rfl (lv_at hl 1 rfl) ?_
      refine lv_aload_n hx hb dX0_add_29 rfl (lv_at hl 0 rfl) ?_
      refine lv_iload_n hx hb dX0_add_30 rfl (lv_at hl 2 rfl) ?_
      refine x_calli (As := [.int a1]) (rest := [.int a0, .ref h0]) ⟨hx, hb, hml, hown, hts⟩ (kX0_newCell l D h0 r0 cA σ_2 a1) (cwV 1 hts gX0_add_X0_newCell rfl rfl rfl (by decide +kernel) ⟨Nat.le_of_ble_eq_true rfl, Nat.le_of_ble_eq_true rfl⟩) G rfl hl.1 rfl (Nat.le_of_ble_eq_true rfl) dX0_add_31 ⟨Nat.zero_le _, Nat.zero_le _⟩ (fun r_9 σ_10 H locs e_11 G => ?_)
      refine x_callv (As := [.int a0, .int r_9]) (rest := []) ⟨hx, hb, hml, hown, hts⟩ (kX0_insertCell l D h0 r0 cA σ_10 a0 r_9) (cwV 2 hts gX0_add_X0_insertCell rfl rfl rfl (by decide +kernel) ⟨Nat.le_of_ble_eq_true rfl, Nat.le_of_ble_eq_true rfl⟩) G rfl hl.1 rfl (Nat.le_of_ble_eq_true rfl) dX0_add_34 ⟨Nat.zero_le _, Nat.zero_le _⟩ (fun σ_13 H locs e_14 G => ?_)
      refine lv_aload_n hx hb dX0_add_37 rfl (lv_at hl 0 rfl) ?_
      refine lv_iload_n hx hb dX0_add_38 rfl (lv_at hl 1 rfl) ?_
      refine lv_aload_n hx hb dX0_add_39 rfl (lv_at hl 0 rfl) ?_
      refine lv_sipush (v := 1072) hx hb dX0_add_40 (by decide) ?_
      refine lv_iload_n hx hb dX0_add_43 rfl (lv_at hl 1 rfl) ?_
      refine lv_iadd hx hb dX0_add_44 ?_
      refine x_calli (As := [.int (1072 + a0)]) (rest := [.int a0, .ref h0]) ⟨hx, hb, hml, hown, hts⟩ (kX0_read l D h0 r0 cA σ_13 (1072 + a0)) (cwV 1 hts gX0_add_X0_read rfl rfl rfl (by decide +kernel) ⟨Nat.le_of_ble_eq_true rfl, Nat.le_of_ble_eq_true rfl⟩) G rfl hl.1 rfl (Nat.le_of_ble_eq_true rfl) dX0_add_45 ⟨Nat.zero_le _, Nat.zero_le _⟩ (fun r_15 σ_16 H locs e_17 G => ?_)
      refine lv_iconst (v := 1) hx hb dX0_add_48 (by decide) ?_
      refine lv_iadd hx hb dX0_add_49 ?_
      refine x_calli (As := [.int a0, .int (r_15 + 1)]) (rest := []) ⟨hx, hb, hml, hown, hts⟩ (kX0_resize l D h0 r0 cA σ_16 a0 (r_15 + 1)) (cwV 2 hts gX0_add_X0_resize rfl rfl rfl (by decide +kernel) ⟨Nat.le_of_ble_eq_true rfl, Nat.le_of_ble_eq_true rfl⟩) G rfl hl.1 rfl (Nat.le_of_ble_eq_true rfl) dX0_add_50 ⟨Nat.zero_le _, Nat.zero_le _⟩ (fun r_18 σ_19 H locs e_20 G => ?_)
      exact g_iret (u := σ_19) E G (by (simp only [x_add, e_3, c_7, c_8, e_11, e_14, e_17, e_20, ↓reduceIte]) <;> rfl) dX0_add_53
    · refine lv_bipush (v := (-2)) hx hb dX0_add_24 (by decide) ?_
      exact g_iret (u := σ_2) E G (by (simp only [x_add, e_3, c_7, c_8, ↓reduceIte]) <;> rfl) dX0_add_26
  · refine lv_iconst (v := (-1)) hx hb dX0_add_14 (by decide) ?_
    exact g_iret (u := σ_2) E G (by (simp only [x_add, e_3, c_7, ↓reduceIte]) <;> rfl) dX0_add_15

set_option maxHeartbeats 4000000 in
set_option maxRecDepth 100000 in
theorem kX0_least (l : Launch) (D : va_G) (h0 r0 : Nat) (cA : ClassId) (σ : Sx) (a0 : Int32) : gMl l yX0_least wsX0_least ({ frames := 3, cells := 0, slots := 0, locals := 66 }) D vwCl [(cA, .int)] [.ref h0, .int a0] (xw h0 r0 cA) σ (fun r σ' => x_least σ a0 = (r, σ')) := by
  refine gMl_of (cc := cX0_least) (maxL := 3) (ret := (some .long)) (by decide) rfl (Nat.le_of_ble_eq_true rfl) ?_
  intro p e s m below meth c A ls E G hl
  obtain ⟨hx, hb, hml, hr, hlocks, hown, hts, -, -⟩ := id E
  have hin : ∀ w ∈ wsX00, w ∈ wsX0_least := fun w h => List.mem_cons_of_mem _ (List.mem_append_right _ h)
  have hl : lv_has ls 3 [(0, .ref h0), (1, .int a0)] := hl
  refine lv_aload_n hx hb dX0_least_0 rfl (lv_at hl 0 rfl) ?_
  refine lv_iload_n hx hb dX0_least_1 rfl (lv_at hl 1 rfl) ?_
  refine x_callv (As := [.int a0]) (rest := []) ⟨hx, hb, hml, hown, hts⟩ (kX0_beginOn l D h0 r0 cA σ a0) (cwV 1 hts gX0_least_X0_beginOn rfl rfl rfl (by decide +kernel) ⟨Nat.le_of_ble_eq_true rfl, Nat.le_of_ble_eq_true rfl⟩) G rfl hl.1 rfl (Nat.le_of_ble_eq_true rfl) dX0_least_2 ⟨Nat.zero_le _, Nat.zero_le _⟩ (fun σ_2 H locs e_3 G => ?_)
  refine lv_aload_n hx hb dX0_least_5 rfl (lv_at hl 0 rfl) ?_
  refine lv_iload_n hx hb dX0_least_6 rfl (lv_at hl 1 rfl) ?_
  refine x_calli (As := [.int a0]) (rest := []) ⟨hx, hb, hml, hown, hts⟩ (kX0_leastRoot l D h0 r0 cA σ_2 a0) (cwV 1 hts gX0_least_X0_leastRoot rfl rfl rfl (by decide +kernel) ⟨Nat.le_of_ble_eq_true rfl, Nat.le_of_ble_eq_true rfl⟩) G rfl hl.1 rfl (Nat.le_of_ble_eq_true rfl) dX0_least_7 ⟨Nat.zero_le _, Nat.zero_le _⟩ (fun r_4 σ_5 H locs e_6 G => ?_)
  refine lv_istore_n (lv' := [(2, .int r_4), (0, .ref h0), (1, .int a0)]) hx hb dX0_least_10 rfl hl (by decide) rfl (fun ls hl => ?_)
  refine lv_iload_n hx hb dX0_least_11 rfl (lv_at hl 0 rfl) ?_
  refine lv_iconst (v := (-1)) hx hb dX0_least_12 (by decide) ?_
  refine lv_icmp_ne (tgt := 22) hx hb dX0_least_13 (by decide) (fun c_7 => ?_) (fun c_7 => ?_)
  · refine lv_aload_n hx hb dX0_least_22 rfl (lv_at hl 1 rfl) ?_
    refine lv_iconst (v := 0) hx hb dX0_least_23 (by decide) ?_
    refine lv_iload_n hx hb dX0_least_24 rfl (lv_at hl 0 rfl) ?_
    refine lv_iadd hx hb dX0_least_25 ?_
    refine x_calli (As := [.int (0 + r_4)]) (rest := []) ⟨hx, hb, hml, hown, hts⟩ (kX0_read l D h0 r0 cA σ_5 (0 + r_4)) (cwV 1 hts gX0_least_X0_read rfl rfl rfl (by decide +kernel) ⟨Nat.le_of_ble_eq_true rfl, Nat.le_of_ble_eq_true rfl⟩) G rfl hl.1 rfl (Nat.le_of_ble_eq_true rfl) dX0_least_26 ⟨Nat.zero_le _, Nat.zero_le _⟩ (fun r_8 σ_9 H locs e_10 G => ?_)
    refine lv_i2l (v := r_8.toInt64) hx hb dX0_least_29 rfl ?_
    exact g_lret (u := σ_9) E G (by (simp only [x_least, e_3, e_6, c_7, e_10, ↓reduceIte]) <;> rfl) dX0_least_30
  · refine lv_ldc2 hx hb hown (hts (.constantLong RX0 60 (-9223372036854775808)) (by decide +kernel)) dX0_least_16 ?_
    refine lv_goto (tgt := 30) hx hb dX0_least_19 (by decide) ?_
    exact g_lret (u := σ_5) E G (by (simp only [x_least, e_3, e_6, c_7, ↓reduceIte]) <;> rfl) dX0_least_30

set_option maxHeartbeats 4000000 in
set_option maxRecDepth 100000 in
theorem kX0_take (l : Launch) (D : va_G) (h0 r0 : Nat) (cA : ClassId) (σ : Sx) (a0 : Int32) : gMl l yX0_take wsX0_take ({ frames := 5, cells := 0, slots := 0, locals := 118 }) D vwCl [(cA, .int)] [.ref h0, .int a0] (xw h0 r0 cA) σ (fun r σ' => x_take σ a0 = (r, σ')) := by
  refine gMl_of (cc := cX0_take) (maxL := 5) (ret := (some .long)) (by decide) rfl (Nat.le_of_ble_eq_true rfl) ?_
  intro p e s m below meth c A ls E G hl
  obtain ⟨hx, hb, hml, hr, hlocks, hown, hts, -, -⟩ := id E
  have hin : ∀ w ∈ wsX00, w ∈ wsX0_take := fun w h => List.mem_cons_of_mem _ (List.mem_append_right _ h)
  have hl : lv_has ls 5 [(0, .ref h0), (1, .int a0)] := hl
  refine lv_aload_n hx hb dX0_take_0 rfl (lv_at hl 0 rfl) ?_
  refine lv_iload_n hx hb dX0_take_1 rfl (lv_at hl 1 rfl) ?_
  refine x_callv (As := [.int a0]) (rest := []) ⟨hx, hb, hml, hown, hts⟩ (kX0_beginOn l D h0 r0 cA σ a0) (cwV 1 hts gX0_take_X0_beginOn rfl rfl rfl (by decide +kernel) ⟨Nat.le_of_ble_eq_true rfl, Nat.le_of_ble_eq_true rfl⟩) G rfl hl.1 rfl (Nat.le_of_ble_eq_true rfl) dX0_take_2 ⟨Nat.zero_le _, Nat.zero_le _⟩ (fun σ_2 H locs e_3 G => ?_)
  refine lv_aload_n hx hb dX0_take_5 rfl (lv_at hl 0 rfl) ?_
  refine lv_iload_n hx hb dX0_take_6 rfl (lv_at hl 1 rfl) ?_
  refine x_calli (As := [.int a0]) (rest := []) ⟨hx, hb, hml, hown, hts⟩ (kX0_leastRoot l D h0 r0 cA σ_2 a0) (cwV 1 hts gX0_take_X0_leastRoot rfl rfl rfl (by decide +kernel) ⟨Nat.le_of_ble_eq_true rfl, Nat.le_of_ble_eq_true rfl⟩) G rfl hl.1 rfl (Nat.le_of_ble_eq_true rfl) dX0_take_7 ⟨Nat.zero_le _, Nat.zero_le _⟩ (fun r_4 σ_5 H locs e_6 G => ?_)
  refine lv_istore_n (lv' := [(2, .int r_4), (0, .ref h0), (1, .int a0)]) hx hb dX0_take_10 rfl hl (by decide) rfl (fun ls hl => ?_)
  refine lv_iload_n hx hb dX0_take_11 rfl (lv_at hl 0 rfl) ?_
  refine lv_iconst (v := (-1)) hx hb dX0_take_12 (by decide) ?_
  refine lv_icmp_ne (tgt := 20) hx hb dX0_take_13 (by decide) (fun c_7 => ?_) (fun c_7 => ?_)
  · refine lv_aload_n hx hb dX0_take_20 rfl (lv_at hl 1 rfl) ?_
    refine lv_iconst (v := 0) hx hb dX0_take_21 (by decide) ?_
    refine lv_iload_n hx hb dX0_take_22 rfl (lv_at hl 0 rfl) ?_
    refine lv_iadd hx hb dX0_take_23 ?_
    refine x_calli (As := [.int (0 + r_4)]) (rest := []) ⟨hx, hb, hml, hown, hts⟩ (kX0_read l D h0 r0 cA σ_5 (0 + r_4)) (cwV 1 hts gX0_take_X0_read rfl rfl rfl (by decide +kernel) ⟨Nat.le_of_ble_eq_true rfl, Nat.le_of_ble_eq_true rfl⟩) G rfl hl.1 rfl (Nat.le_of_ble_eq_true rfl) dX0_take_24 ⟨Nat.zero_le _, Nat.zero_le _⟩ (fun r_8 σ_9 H locs e_10 G => ?_)
    refine lv_i2l (v := r_8.toInt64) hx hb dX0_take_27 rfl ?_
    refine lv_topl (fun v_11 ev_11 => ?_)
    refine lv_lstore_n (lv' := [(3, .long v_11), (2, .int r_4), (0, .ref h0), (1, .int a0)]) hx hb dX0_take_28 rfl hl (by decide) rfl (fun ls hl => ?_)
    refine lv_aload_n hx hb dX0_take_29 rfl (lv_at hl 2 rfl) ?_
    refine lv_iload_n hx hb dX0_take_30 rfl (lv_at hl 3 rfl) ?_
    refine lv_iload_n hx hb dX0_take_31 rfl (lv_at hl 1 rfl) ?_
    refine x_callv (As := [.int a0, .int r_4]) (rest := []) ⟨hx, hb, hml, hown, hts⟩ (kX0_cutRoot l D h0 r0 cA σ_9 a0 r_4) (cwV 2 hts gX0_take_X0_cutRoot rfl rfl rfl (by decide +kernel) ⟨Nat.le_of_ble_eq_true rfl, Nat.le_of_ble_eq_true rfl⟩) G rfl hl.1 rfl (Nat.le_of_ble_eq_true rfl) dX0_take_32 ⟨Nat.zero_le _, Nat.zero_le _⟩ (fun σ_13 H locs e_14 G => ?_)
    refine lv_aload_n hx hb dX0_take_35 rfl (lv_at hl 2 rfl) ?_
    refine lv_iload_n hx hb dX0_take_36 rfl (lv_at hl 3 rfl) ?_
    refine lv_iload_n hx hb dX0_take_37 rfl (lv_at hl 1 rfl) ?_
    refine x_callv (As := [.int a0, .int r_4]) (rest := []) ⟨hx, hb, hml, hown, hts⟩ (kX0_placeChildren l D h0 r0 cA σ_13 a0 r_4) (cwV 2 hts gX0_take_X0_placeChildren rfl rfl rfl (by decide +kernel) ⟨Nat.le_of_ble_eq_true rfl, Nat.le_of_ble_eq_true rfl⟩) G rfl hl.1 rfl (Nat.le_of_ble_eq_true rfl) dX0_take_38 ⟨Nat.zero_le _, Nat.zero_le _⟩ (fun σ_16 H locs e_17 G => ?_)
    refine lv_aload_n hx hb dX0_take_41 rfl (lv_at hl 2 rfl) ?_
    refine lv_iload_n hx hb dX0_take_42 rfl (lv_at hl 1 rfl) ?_
    refine x_callv (As := [.int r_4]) (rest := []) ⟨hx, hb, hml, hown, hts⟩ (kX0_giveBack l D h0 r0 cA σ_16 r_4) (cwV 1 hts gX0_take_X0_giveBack rfl rfl rfl (by decide +kernel) ⟨Nat.le_of_ble_eq_true rfl, Nat.le_of_ble_eq_true rfl⟩) G rfl hl.1 rfl (Nat.le_of_ble_eq_true rfl) dX0_take_43 ⟨Nat.zero_le _, Nat.zero_le _⟩ (fun σ_19 H locs e_20 G => ?_)
    refine lv_aload_n hx hb dX0_take_46 rfl (lv_at hl 2 rfl) ?_
    refine lv_iload_n hx hb dX0_take_47 rfl (lv_at hl 3 rfl) ?_
    refine lv_aload_n hx hb dX0_take_48 rfl (lv_at hl 2 rfl) ?_
    refine lv_sipush (v := 1072) hx hb dX0_take_49 (by decide) ?_
    refine lv_iload_n hx hb dX0_take_52 rfl (lv_at hl 3 rfl) ?_
    refine lv_iadd hx hb dX0_take_53 ?_
    refine x_calli (As := [.int (1072 + a0)]) (rest := [.int a0, .ref h0]) ⟨hx, hb, hml, hown, hts⟩ (kX0_read l D h0 r0 cA σ_19 (1072 + a0)) (cwV 1 hts gX0_take_X0_read rfl rfl rfl (by decide +kernel) ⟨Nat.le_of_ble_eq_true rfl, Nat.le_of_ble_eq_true rfl⟩) G rfl hl.1 rfl (Nat.le_of_ble_eq_true rfl) dX0_take_54 ⟨Nat.zero_le _, Nat.zero_le _⟩ (fun r_21 σ_22 H locs e_23 G => ?_)
    refine lv_iconst (v := 1) hx hb dX0_take_57 (by decide) ?_
    refine lv_isub hx hb dX0_take_58 ?_
    refine x_calli (As := [.int a0, .int (r_21 - 1)]) (rest := []) ⟨hx, hb, hml, hown, hts⟩ (kX0_resize l D h0 r0 cA σ_22 a0 (r_21 - 1)) (cwV 2 hts gX0_take_X0_resize rfl rfl rfl (by decide +kernel) ⟨Nat.le_of_ble_eq_true rfl, Nat.le_of_ble_eq_true rfl⟩) G rfl hl.1 rfl (Nat.le_of_ble_eq_true rfl) dX0_take_59 ⟨Nat.zero_le _, Nat.zero_le _⟩ (fun r_24 σ_25 H locs e_26 G => ?_)
    refine lv_pop hx hb dX0_take_62 rfl ?_
    refine lv_lload_n hx hb dX0_take_63 rfl (lv_at hl 0 rfl) ?_
    exact g_lret (u := σ_25) E G (by subst ev_11; (simp only [x_take, e_3, e_6, c_7, e_10, e_14, e_17, e_20, e_23, e_26, ↓reduceIte]) <;> rfl) dX0_take_64
  · refine lv_ldc2 hx hb hown (hts (.constantLong RX0 60 (-9223372036854775808)) (by decide +kernel)) dX0_take_16 ?_
    exact g_lret (u := σ_5) E G (by (simp only [x_take, e_3, e_6, c_7, ↓reduceIte]) <;> rfl) dX0_take_19

set_option maxHeartbeats 4000000 in
set_option maxRecDepth 100000 in
theorem kX0_meld (l : Launch) (D : va_G) (h0 r0 : Nat) (cA : ClassId) (σ : Sx) (a0 : Int32) (a1 : Int32) : gMi l yX0_meld wsX0_meld ({ frames := 4, cells := 0, slots := 0, locals := 93 }) D vwCl [(cA, .int)] [.ref h0, .int a0, .int a1] (xw h0 r0 cA) σ (fun r σ' => x_meld σ a0 a1 = (r, σ')) := by
  refine gMi_of (cc := cX0_meld) (maxL := 4) (ret := (some .int)) (by decide) rfl (Nat.le_of_ble_eq_true rfl) ?_
  intro p e s m below meth c A ls E G hl
  obtain ⟨hx, hb, hml, hr, hlocks, hown, hts, -, -⟩ := id E
  have hin : ∀ w ∈ wsX00, w ∈ wsX0_meld := fun w h => List.mem_cons_of_mem _ (List.mem_append_right _ h)
  have hl : lv_has ls 4 [(0, .ref h0), (1, .int a0), (2, .int a1)] := hl
  have loop : ∀ (n : Nat) (σ1 : Sx) (k : Int32) (H : Heap) (locs : List Loc) (ls : Array Slot), ((8 : Int32).toInt - k.toInt).toNat < n → x_meldT a0 a1 (y_meL a0 a1 n σ1 k) = x_meld σ a0 a1 → gG D vwCl [(cA, .int)] A s (xw h0 r0 cA σ1) H locs → lv_has ls 4 [(0, .ref h0), (1, .int a0), (2, .int a1), (3, .int k)] → W p l e ({ frames := 4, cells := 0, slots := 0, locals := 93 }) s m [.ref h0, .int a0, .int a1].toArray below meth c H locs 0 0 (MQ below (va_Qi (fun r σ' => x_meld σ a0 a1 = (r, σ')) (gB D vwCl [(cA, .int)] A (xw h0 r0 cA)) A) [.ref h0, .int a0, .int a1].toArray s 0 0 A) (F0 m 51 ls []) := by
    intro n
    induction n with
    | zero => intro σ1 k H locs ls hm; exact absurd hm (Nat.not_lt_zero _)
    | succ n ih =>
      intro σ1 k H locs ls hm hinv G hl
      refine lv_iload_n hx hb dX0_meld_51 rfl (lv_at hl 3 rfl) ?_
      refine lv_bipush (v := 8) hx hb dX0_meld_52 (by decide) ?_
      refine lv_icmp_ge (tgt := 74) hx hb dX0_meld_54 (by decide) (fun c_1 => ?_) (fun c_1 => ?_)
      · refine lv_aload_n hx hb dX0_meld_74 rfl (lv_at hl 0 rfl) ?_
        refine lv_sipush (v := 1072) hx hb dX0_meld_75 (by decide) ?_
        refine lv_iload_n hx hb dX0_meld_78 rfl (lv_at hl 2 rfl) ?_
        refine lv_iadd hx hb dX0_meld_79 ?_
        refine x_calli (As := [.int (1072 + a1)]) (rest := []) ⟨hx, hb, hml, hown, hts⟩ (kX0_read l D h0 r0 cA σ1 (1072 + a1)) (cwV 1 hts gX0_meld_X0_read rfl rfl rfl (by decide +kernel) ⟨Nat.le_of_ble_eq_true rfl, Nat.le_of_ble_eq_true rfl⟩) G rfl hl.1 rfl (Nat.le_of_ble_eq_true rfl) dX0_meld_80 ⟨Nat.zero_le _, Nat.zero_le _⟩ (fun r_2 σ_3 H locs e_4 G => ?_)
        refine lv_istore_n (lv' := [(3, .int r_2), (0, .ref h0), (1, .int a0), (2, .int a1)]) hx hb dX0_meld_83 rfl hl (by decide) rfl (fun ls hl => ?_)
        refine lv_aload_n hx hb dX0_meld_84 rfl (lv_at hl 1 rfl) ?_
        refine lv_iload_n hx hb dX0_meld_85 rfl (lv_at hl 3 rfl) ?_
        refine lv_iconst (v := 0) hx hb dX0_meld_86 (by decide) ?_
        refine x_calli (As := [.int a1, .int 0]) (rest := []) ⟨hx, hb, hml, hown, hts⟩ (kX0_resize l D h0 r0 cA σ_3 a1 0) (cwV 2 hts gX0_meld_X0_resize rfl rfl rfl (by decide +kernel) ⟨Nat.le_of_ble_eq_true rfl, Nat.le_of_ble_eq_true rfl⟩) G rfl hl.1 rfl (Nat.le_of_ble_eq_true rfl) dX0_meld_87 ⟨Nat.zero_le _, Nat.zero_le _⟩ (fun r_5 σ_6 H locs e_7 G => ?_)
        refine lv_pop hx hb dX0_meld_90 rfl ?_
        refine lv_aload_n hx hb dX0_meld_91 rfl (lv_at hl 1 rfl) ?_
        refine lv_iload_n hx hb dX0_meld_92 rfl (lv_at hl 2 rfl) ?_
        refine lv_aload_n hx hb dX0_meld_93 rfl (lv_at hl 1 rfl) ?_
        refine lv_sipush (v := 1072) hx hb dX0_meld_94 (by decide) ?_
        refine lv_iload_n hx hb dX0_meld_97 rfl (lv_at hl 2 rfl) ?_
        refine lv_iadd hx hb dX0_meld_98 ?_
        refine x_calli (As := [.int (1072 + a0)]) (rest := [.int a0, .ref h0]) ⟨hx, hb, hml, hown, hts⟩ (kX0_read l D h0 r0 cA σ_6 (1072 + a0)) (cwV 1 hts gX0_meld_X0_read rfl rfl rfl (by decide +kernel) ⟨Nat.le_of_ble_eq_true rfl, Nat.le_of_ble_eq_true rfl⟩) G rfl hl.1 rfl (Nat.le_of_ble_eq_true rfl) dX0_meld_99 ⟨Nat.zero_le _, Nat.zero_le _⟩ (fun r_8 σ_9 H locs e_10 G => ?_)
        refine lv_iload_n hx hb dX0_meld_102 rfl (lv_at hl 0 rfl) ?_
        refine lv_iadd hx hb dX0_meld_103 ?_
        refine x_calli (As := [.int a0, .int (r_8 + r_2)]) (rest := []) ⟨hx, hb, hml, hown, hts⟩ (kX0_resize l D h0 r0 cA σ_9 a0 (r_8 + r_2)) (cwV 2 hts gX0_meld_X0_resize rfl rfl rfl (by decide +kernel) ⟨Nat.le_of_ble_eq_true rfl, Nat.le_of_ble_eq_true rfl⟩) G rfl hl.1 rfl (Nat.le_of_ble_eq_true rfl) dX0_meld_104 ⟨Nat.zero_le _, Nat.zero_le _⟩ (fun r_11 σ_12 H locs e_13 G => ?_)
        exact g_iret (u := σ_12) E G (by rw [← hinv]; (simp only [y_meL, x_meldT, c_1, e_4, e_7, e_10, e_13, ↓reduceIte]) <;> rfl) dX0_meld_107
      · refine lv_aload_n hx hb dX0_meld_57 rfl (lv_at hl 0 rfl) ?_
        refine lv_iload_n hx hb dX0_meld_58 rfl (lv_at hl 1 rfl) ?_
        refine lv_aload_n hx hb dX0_meld_59 rfl (lv_at hl 0 rfl) ?_
        refine lv_iload_n hx hb dX0_meld_60 rfl (lv_at hl 2 rfl) ?_
        refine lv_iload_n hx hb dX0_meld_61 rfl (lv_at hl 3 rfl) ?_
        refine x_calli (As := [.int a1, .int k]) (rest := [.int a0, .ref h0]) ⟨hx, hb, hml, hown, hts⟩ (kX0_cutTop l D h0 r0 cA σ1 a1 k) (cwV 2 hts gX0_meld_X0_cutTop rfl rfl rfl (by decide +kernel) ⟨Nat.le_of_ble_eq_true rfl, Nat.le_of_ble_eq_true rfl⟩) G rfl hl.1 rfl (Nat.le_of_ble_eq_true rfl) dX0_meld_62 ⟨Nat.zero_le _, Nat.zero_le _⟩ (fun r_14 σ_15 H locs e_16 G => ?_)
        refine x_callv (As := [.int a0, .int r_14]) (rest := []) ⟨hx, hb, hml, hown, hts⟩ (kX0_place l D h0 r0 cA σ_15 a0 r_14) (cwV 2 hts gX0_meld_X0_place rfl rfl rfl (by decide +kernel) ⟨Nat.le_of_ble_eq_true rfl, Nat.le_of_ble_eq_true rfl⟩) G rfl hl.1 rfl (Nat.le_of_ble_eq_true rfl) dX0_meld_65 ⟨Nat.zero_le _, Nat.zero_le _⟩ (fun σ_18 H locs e_19 G => ?_)
        obtain ⟨v_20, ev_20⟩ : ∃ y : Int32, y = k + 1 := ⟨_, rfl⟩
        refine lv_iinc (v := v_20) (lv' := [(3, .int v_20), (0, .ref h0), (1, .int a0), (2, .int a1)]) hx hb dX0_meld_68 hl (k := 3) rfl (by rw [ev_20]; rfl) (by decide) rfl (fun ls hl => ?_)
        refine lv_goto (tgt := 51) hx hb dX0_meld_71 (by decide) ?_
        exact ih σ_18 v_20 _ _ _ (by subst ev_20; exact Nat.lt_of_lt_of_le (x_meas c_1) (Nat.le_of_lt_succ hm)) (by subst ev_20; rw [← hinv]; (simp only [y_meL, x_meldT, c_1, e_16, e_19, ↓reduceIte]) <;> rfl) G (lv_sub hl [1, 2, 3, 0] rfl)
  refine lv_aload_n hx hb dX0_meld_0 rfl (lv_at hl 0 rfl) ?_
  refine lv_iload_n hx hb dX0_meld_1 rfl (lv_at hl 1 rfl) ?_
  refine lv_iload_n hx hb dX0_meld_2 rfl (lv_at hl 2 rfl) ?_
  refine x_callv (As := [.int a0, .int a1]) (rest := []) ⟨hx, hb, hml, hown, hts⟩ (kX0_beginOnBoth l D h0 r0 cA σ a0 a1) (cwV 2 hts gX0_meld_X0_beginOnBoth rfl rfl rfl (by decide +kernel) ⟨Nat.le_of_ble_eq_true rfl, Nat.le_of_ble_eq_true rfl⟩) G rfl hl.1 rfl (Nat.le_of_ble_eq_true rfl) dX0_meld_3 ⟨Nat.zero_le _, Nat.zero_le _⟩ (fun σ_22 H locs e_23 G => ?_)
  refine lv_aload_n hx hb dX0_meld_6 rfl (lv_at hl 0 rfl) ?_
  refine lv_iload_n hx hb dX0_meld_7 rfl (lv_at hl 1 rfl) ?_
  refine x_calli (As := [.int a0]) (rest := []) ⟨hx, hb, hml, hown, hts⟩ (kX0_exists l D h0 r0 cA σ_22 a0) (cwV 1 hts gX0_meld_X0_exists rfl rfl rfl (by decide +kernel) ⟨Nat.le_of_ble_eq_true rfl, Nat.le_of_ble_eq_true rfl⟩) G rfl hl.1 rfl (Nat.le_of_ble_eq_true rfl) dX0_meld_8 ⟨Nat.zero_le _, Nat.zero_le _⟩ (fun r_24 σ_25 H locs e_26 G => ?_)
  obtain ⟨rfl, rfl⟩ := e_26
  refine lv_if_eq (tgt := 27) hx hb dX0_meld_11 (by decide) (fun c_27 => ?_) (fun c_27 => ?_)
  · refine lv_iconst (v := (-1)) hx hb dX0_meld_27 (by decide) ?_
    exact g_iret (u := σ_22) E G (by (simp only [x_meld, e_23, c_27, ↓reduceIte]) <;> rfl) dX0_meld_28
  · refine lv_aload_n hx hb dX0_meld_14 rfl (lv_at hl 0 rfl) ?_
    refine lv_iload_n hx hb dX0_meld_15 rfl (lv_at hl 2 rfl) ?_
    refine x_calli (As := [.int a1]) (rest := []) ⟨hx, hb, hml, hown, hts⟩ (kX0_exists l D h0 r0 cA σ_22 a1) (cwV 1 hts gX0_meld_X0_exists rfl rfl rfl (by decide +kernel) ⟨Nat.le_of_ble_eq_true rfl, Nat.le_of_ble_eq_true rfl⟩) G rfl hl.1 rfl (Nat.le_of_ble_eq_true rfl) dX0_meld_16 ⟨Nat.zero_le _, Nat.zero_le _⟩ (fun r_28 σ_29 H locs e_30 G => ?_)
    obtain ⟨rfl, rfl⟩ := e_30
    refine lv_if_eq (tgt := 27) hx hb dX0_meld_19 (by decide) (fun c_31 => ?_) (fun c_31 => ?_)
    · refine lv_iconst (v := (-1)) hx hb dX0_meld_27 (by decide) ?_
      exact g_iret (u := σ_22) E G (by (simp only [x_meld, e_23, c_27, c_31, ↓reduceIte]) <;> rfl) dX0_meld_28
    · refine lv_iload_n hx hb dX0_meld_22 rfl (lv_at hl 1 rfl) ?_
      refine lv_iload_n hx hb dX0_meld_23 rfl (lv_at hl 2 rfl) ?_
      refine lv_icmp_ne (tgt := 29) hx hb dX0_meld_24 (by decide) (fun c_32 => ?_) (fun c_32 => ?_)
      · refine lv_aload_n hx hb dX0_meld_29 rfl (lv_at hl 0 rfl) ?_
        refine lv_iload_n hx hb dX0_meld_30 rfl (lv_at hl 1 rfl) ?_
        refine lv_aload_n hx hb dX0_meld_31 rfl (lv_at hl 0 rfl) ?_
        refine lv_iload_n hx hb dX0_meld_32 rfl (lv_at hl 1 rfl) ?_
        refine x_calli (As := [.int a0]) (rest := [.int a0, .ref h0]) ⟨hx, hb, hml, hown, hts⟩ (kX0_cutTwin l D h0 r0 cA σ_22 a0) (cwV 1 hts gX0_meld_X0_cutTwin rfl rfl rfl (by decide +kernel) ⟨Nat.le_of_ble_eq_true rfl, Nat.le_of_ble_eq_true rfl⟩) G rfl hl.1 rfl (Nat.le_of_ble_eq_true rfl) dX0_meld_33 ⟨Nat.zero_le _, Nat.zero_le _⟩ (fun r_33 σ_34 H locs e_35 G => ?_)
        refine x_callv (As := [.int a0, .int r_33]) (rest := []) ⟨hx, hb, hml, hown, hts⟩ (kX0_place l D h0 r0 cA σ_34 a0 r_33) (cwV 2 hts gX0_meld_X0_place rfl rfl rfl (by decide +kernel) ⟨Nat.le_of_ble_eq_true rfl, Nat.le_of_ble_eq_true rfl⟩) G rfl hl.1 rfl (Nat.le_of_ble_eq_true rfl) dX0_meld_36 ⟨Nat.zero_le _, Nat.zero_le _⟩ (fun σ_37 H locs e_38 G => ?_)
        refine lv_aload_n hx hb dX0_meld_39 rfl (lv_at hl 0 rfl) ?_
        refine lv_iload_n hx hb dX0_meld_40 rfl (lv_at hl 1 rfl) ?_
        refine lv_aload_n hx hb dX0_meld_41 rfl (lv_at hl 0 rfl) ?_
        refine lv_iload_n hx hb dX0_meld_42 rfl (lv_at hl 2 rfl) ?_
        refine x_calli (As := [.int a1]) (rest := [.int a0, .ref h0]) ⟨hx, hb, hml, hown, hts⟩ (kX0_cutTwin l D h0 r0 cA σ_37 a1) (cwV 1 hts gX0_meld_X0_cutTwin rfl rfl rfl (by decide +kernel) ⟨Nat.le_of_ble_eq_true rfl, Nat.le_of_ble_eq_true rfl⟩) G rfl hl.1 rfl (Nat.le_of_ble_eq_true rfl) dX0_meld_43 ⟨Nat.zero_le _, Nat.zero_le _⟩ (fun r_39 σ_40 H locs e_41 G => ?_)
        refine x_callv (As := [.int a0, .int r_39]) (rest := []) ⟨hx, hb, hml, hown, hts⟩ (kX0_place l D h0 r0 cA σ_40 a0 r_39) (cwV 2 hts gX0_meld_X0_place rfl rfl rfl (by decide +kernel) ⟨Nat.le_of_ble_eq_true rfl, Nat.le_of_ble_eq_true rfl⟩) G rfl hl.1 rfl (Nat.le_of_ble_eq_true rfl) dX0_meld_46 ⟨Nat.zero_le _, Nat.zero_le _⟩ (fun σ_43 H locs e_44 G => ?_)
        refine lv_iconst (v := 0) hx hb dX0_meld_49 (by decide) ?_
        refine lv_istore_n (lv' := [(3, .int 0), (0, .ref h0), (1, .int a0), (2, .int a1)]) hx hb dX0_meld_50 rfl hl (by decide) rfl (fun ls hl => ?_)
        exact loop (9) σ_43 0 _ _ _ (by decide) (by (simp only [x_meld, e_23, c_27, c_31, c_32, e_35, e_38, e_41, e_44, ↓reduceIte]) <;> rfl) G (lv_sub hl [1, 2, 3, 0] rfl)
      · refine lv_iconst (v := (-1)) hx hb dX0_meld_27 (by decide) ?_
        exact g_iret (u := σ_22) E G (by (simp only [x_meld, e_23, c_27, c_31, if_pos c_32, ↓reduceIte]) <;> rfl) dX0_meld_28

set_option maxHeartbeats 4000000 in
set_option maxRecDepth 100000 in
theorem kX0_size (l : Launch) (D : va_G) (h0 r0 : Nat) (cA : ClassId) (σ : Sx) (a0 : Int32) : gMi l yX0_size wsX0_size ({ frames := 1, cells := 0, slots := 0, locals := 21 }) D vwCl [(cA, .int)] [.ref h0, .int a0] (xw h0 r0 cA) σ (fun r σ' => x_size σ a0 = (r, σ')) := by
  refine gMi_of (cc := cX0_size) (maxL := 2) (ret := (some .int)) (by decide) rfl (Nat.le_of_ble_eq_true rfl) ?_
  intro p e s m below meth c A ls E G hl
  obtain ⟨hx, hb, hml, hr, hlocks, hown, hts, -, -⟩ := id E
  have hin : ∀ w ∈ wsX00, w ∈ wsX0_size := fun w h => List.mem_cons_of_mem _ (List.mem_append_right _ h)
  have hl : lv_has ls 2 [(0, .ref h0), (1, .int a0)] := hl
  refine lv_aload_n hx hb dX0_size_0 rfl (lv_at hl 0 rfl) ?_
  refine lv_ldc hx hb hown (hts (.constant RX0 29 (2147483647)) (by decide +kernel)) dX0_size_1 ?_
  refine x_callv (As := [.int (2147483647)]) (rest := []) ⟨hx, hb, hml, hown, hts⟩ (kX0_begin l D h0 r0 cA σ (2147483647)) (cwV 1 hts gX0_size_X0_begin rfl rfl rfl (by decide +kernel) ⟨Nat.le_of_ble_eq_true rfl, Nat.le_of_ble_eq_true rfl⟩) G rfl hl.1 rfl (Nat.le_of_ble_eq_true rfl) dX0_size_3 ⟨Nat.zero_le _, Nat.zero_le _⟩ (fun σ_2 H locs e_3 G => ?_)
  refine lv_aload_n hx hb dX0_size_6 rfl (lv_at hl 0 rfl) ?_
  refine lv_iload_n hx hb dX0_size_7 rfl (lv_at hl 1 rfl) ?_
  refine x_calli (As := [.int a0]) (rest := []) ⟨hx, hb, hml, hown, hts⟩ (kX0_exists l D h0 r0 cA σ_2 a0) (cwV 1 hts gX0_size_X0_exists rfl rfl rfl (by decide +kernel) ⟨Nat.le_of_ble_eq_true rfl, Nat.le_of_ble_eq_true rfl⟩) G rfl hl.1 rfl (Nat.le_of_ble_eq_true rfl) dX0_size_8 ⟨Nat.zero_le _, Nat.zero_le _⟩ (fun r_4 σ_5 H locs e_6 G => ?_)
  obtain ⟨rfl, rfl⟩ := e_6
  refine lv_if_eq (tgt := 26) hx hb dX0_size_11 (by decide) (fun c_7 => ?_) (fun c_7 => ?_)
  · refine lv_iconst (v := (-1)) hx hb dX0_size_26 (by decide) ?_
    exact g_iret (u := σ_2) E G (by (simp only [x_size, e_3, c_7, ↓reduceIte]) <;> rfl) dX0_size_27
  · refine lv_aload_n hx hb dX0_size_14 rfl (lv_at hl 0 rfl) ?_
    refine lv_sipush (v := 1072) hx hb dX0_size_15 (by decide) ?_
    refine lv_iload_n hx hb dX0_size_18 rfl (lv_at hl 1 rfl) ?_
    refine lv_iadd hx hb dX0_size_19 ?_
    refine x_calli (As := [.int (1072 + a0)]) (rest := []) ⟨hx, hb, hml, hown, hts⟩ (kX0_read l D h0 r0 cA σ_2 (1072 + a0)) (cwV 1 hts gX0_size_X0_read rfl rfl rfl (by decide +kernel) ⟨Nat.le_of_ble_eq_true rfl, Nat.le_of_ble_eq_true rfl⟩) G rfl hl.1 rfl (Nat.le_of_ble_eq_true rfl) dX0_size_20 ⟨Nat.zero_le _, Nat.zero_le _⟩ (fun r_8 σ_9 H locs e_10 G => ?_)
    refine lv_goto (tgt := 27) hx hb dX0_size_23 (by decide) ?_
    exact g_iret (u := σ_9) E G (by (simp only [x_size, e_3, c_7, e_10, ↓reduceIte]) <;> rfl) dX0_size_27

set_option maxHeartbeats 4000000 in
set_option maxRecDepth 100000 in
theorem kX0_key (l : Launch) (D : va_G) (h0 r0 : Nat) (cA : ClassId) (σ : Sx) (a0 : Int32) (a1 : Int32) : gMl l yX0_key wsX0_key ({ frames := 4, cells := 0, slots := 0, locals := 96 }) D vwCl [(cA, .int)] [.ref h0, .int a0, .int a1] (xw h0 r0 cA) σ (fun r σ' => x_key σ a0 a1 = (r, σ')) := by
  refine gMl_of (cc := cX0_key) (maxL := 3) (ret := (some .long)) (by decide) rfl (Nat.le_of_ble_eq_true rfl) ?_
  intro p e s m below meth c A ls E G hl
  obtain ⟨hx, hb, hml, hr, hlocks, hown, hts, -, -⟩ := id E
  have hin : ∀ w ∈ wsX00, w ∈ wsX0_key := fun w h => List.mem_cons_of_mem _ (List.mem_append_right _ h)
  have hl : lv_has ls 3 [(0, .ref h0), (1, .int a0), (2, .int a1)] := hl
  refine lv_aload_n hx hb dX0_key_0 rfl (lv_at hl 0 rfl) ?_
  refine lv_ldc hx hb hown (hts (.constant RX0 29 (2147483647)) (by decide +kernel)) dX0_key_1 ?_
  refine x_callv (As := [.int (2147483647)]) (rest := []) ⟨hx, hb, hml, hown, hts⟩ (kX0_begin l D h0 r0 cA σ (2147483647)) (cwV 1 hts gX0_key_X0_begin rfl rfl rfl (by decide +kernel) ⟨Nat.le_of_ble_eq_true rfl, Nat.le_of_ble_eq_true rfl⟩) G rfl hl.1 rfl (Nat.le_of_ble_eq_true rfl) dX0_key_3 ⟨Nat.zero_le _, Nat.zero_le _⟩ (fun σ_2 H locs e_3 G => ?_)
  refine lv_iload_n hx hb dX0_key_6 rfl (lv_at hl 2 rfl) ?_
  refine lv_if_lt (tgt := 19) hx hb dX0_key_7 (by decide) (fun c_4 => ?_) (fun c_4 => ?_)
  · refine lv_ldc2 hx hb hown (hts (.constantLong RX0 60 (-9223372036854775808)) (by decide +kernel)) dX0_key_19 ?_
    exact g_lret (u := σ_2) E G (by (simp only [x_key, e_3, c_4, ↓reduceIte]) <;> rfl) dX0_key_22
  · refine lv_iload_n hx hb dX0_key_10 rfl (lv_at hl 2 rfl) ?_
    refine lv_aload_n hx hb dX0_key_11 rfl (lv_at hl 0 rfl) ?_
    refine lv_iload_n hx hb dX0_key_12 rfl (lv_at hl 1 rfl) ?_
    refine x_calli (As := [.int a0]) (rest := [.int a1]) ⟨hx, hb, hml, hown, hts⟩ (kX0_keysIn l D h0 r0 cA σ_2 a0) (cwV 1 hts gX0_key_X0_keysIn rfl rfl rfl (by decide +kernel) ⟨Nat.le_of_ble_eq_true rfl, Nat.le_of_ble_eq_true rfl⟩) G rfl hl.1 rfl (Nat.le_of_ble_eq_true rfl) dX0_key_13 ⟨Nat.zero_le _, Nat.zero_le _⟩ (fun r_5 σ_6 H locs e_7 G => ?_)
    refine lv_icmp_lt (tgt := 23) hx hb dX0_key_16 (by decide) (fun c_8 => ?_) (fun c_8 => ?_)
    · refine lv_aload_n hx hb dX0_key_23 rfl (lv_at hl 0 rfl) ?_
      refine lv_aload_n hx hb dX0_key_24 rfl (lv_at hl 0 rfl) ?_
      refine lv_iload_n hx hb dX0_key_25 rfl (lv_at hl 1 rfl) ?_
      refine x_calli (As := [.int a0]) (rest := [.ref h0]) ⟨hx, hb, hml, hown, hts⟩ (kX0_listCells l D h0 r0 cA σ_6 a0) (cwV 1 hts gX0_key_X0_listCells rfl rfl rfl (by decide +kernel) ⟨Nat.le_of_ble_eq_true rfl, Nat.le_of_ble_eq_true rfl⟩) G rfl hl.1 rfl (Nat.le_of_ble_eq_true rfl) dX0_key_26 ⟨Nat.zero_le _, Nat.zero_le _⟩ (fun r_9 σ_10 H locs e_11 G => ?_)
      refine lv_iload_n hx hb dX0_key_29 rfl (lv_at hl 2 rfl) ?_
      refine x_calll (As := [.int r_9, .int a1]) (rest := []) ⟨hx, hb, hml, hown, hts⟩ (kX0_kthListed l D h0 r0 cA σ_10 r_9 a1) (cwV 2 hts gX0_key_X0_kthListed rfl rfl rfl (by decide +kernel) ⟨Nat.le_of_ble_eq_true rfl, Nat.le_of_ble_eq_true rfl⟩) G rfl hl.1 rfl (Nat.le_of_ble_eq_true rfl) dX0_key_30 ⟨Nat.zero_le _, Nat.zero_le _⟩ (fun r_12 σ_13 H locs e_14 G => ?_)
      exact g_lret (u := σ_13) E G (by (simp only [x_key, e_3, c_4, e_7, c_8, e_11, e_14, ↓reduceIte]) <;> rfl) dX0_key_33
    · refine lv_ldc2 hx hb hown (hts (.constantLong RX0 60 (-9223372036854775808)) (by decide +kernel)) dX0_key_19 ?_
      exact g_lret (u := σ_6) E G (by (simp only [x_key, e_3, c_4, e_7, c_8, ↓reduceIte]) <;> rfl) dX0_key_22

set_option maxHeartbeats 4000000 in
set_option maxRecDepth 100000 in
theorem kX0_sum (l : Launch) (D : va_G) (h0 r0 : Nat) (cA : ClassId) (σ : Sx) (a0 : Int32) : gMl l yX0_sum wsX0_sum ({ frames := 3, cells := 0, slots := 0, locals := 71 }) D vwCl [(cA, .int)] [.ref h0, .int a0] (xw h0 r0 cA) σ (fun r σ' => x_sum σ a0 = (r, σ')) := by
  refine gMl_of (cc := cX0_sum) (maxL := 6) (ret := (some .long)) (by decide) rfl (Nat.le_of_ble_eq_true rfl) ?_
  intro p e s m below meth c A ls E G hl
  obtain ⟨hx, hb, hml, hr, hlocks, hown, hts, -, -⟩ := id E
  have hin : ∀ w ∈ wsX00, w ∈ wsX0_sum := fun w h => List.mem_cons_of_mem _ (List.mem_append_right _ h)
  have hl : lv_has ls 6 [(0, .ref h0), (1, .int a0)] := hl
  have loop : ∀ (n : Nat) (σ1 : Sx) (cn : Int32) (t : Int64) (k : Int32) (H : Heap) (locs : List Loc) (ls : Array Slot), (cn.toInt - k.toInt).toNat < n → y_sumL cn n σ1 t k = x_sum σ a0 → gG D vwCl [(cA, .int)] A s (xw h0 r0 cA σ1) H locs → lv_has ls 6 [(0, .ref h0), (1, .int a0), (2, .int cn), (3, .long t), (5, .int k)] → W p l e ({ frames := 3, cells := 0, slots := 0, locals := 71 }) s m [.ref h0, .int a0].toArray below meth c H locs 0 0 (MQ below (va_Ql (fun r σ' => x_sum σ a0 = (r, σ')) (gB D vwCl [(cA, .int)] A (xw h0 r0 cA)) A) [.ref h0, .int a0].toArray s 0 0 A) (F0 m 27 ls []) := by
    intro n
    induction n with
    | zero => intro σ1 cn t k H locs ls hm; exact absurd hm (Nat.not_lt_zero _)
    | succ n ih =>
      intro σ1 cn t k H locs ls hm hinv G hl
      refine lv_iload hx hb dX0_sum_27 (lv_at hl 4 rfl) ?_
      refine lv_iload_n hx hb dX0_sum_29 rfl (lv_at hl 2 rfl) ?_
      refine lv_icmp_ge (tgt := 49) hx hb dX0_sum_30 (by decide) (fun c_1 => ?_) (fun c_1 => ?_)
      · refine lv_lload_n hx hb dX0_sum_49 rfl (lv_at hl 3 rfl) ?_
        exact g_lret (u := σ1) E G (by rw [← hinv]; (simp only [y_sumL, c_1, ↓reduceIte]) <;> rfl) dX0_sum_50
      · refine lv_lload_n hx hb dX0_sum_33 rfl (lv_at hl 3 rfl) ?_
        refine lv_aload_n hx hb dX0_sum_34 rfl (lv_at hl 0 rfl) ?_
        refine lv_iload hx hb dX0_sum_35 (lv_at hl 4 rfl) ?_
        refine x_calli (As := [.int k]) (rest := [.long t]) ⟨hx, hb, hml, hown, hts⟩ (kX0_listedKey l D h0 r0 cA σ1 k) (cwV 1 hts gX0_sum_X0_listedKey rfl rfl rfl (by decide +kernel) ⟨Nat.le_of_ble_eq_true rfl, Nat.le_of_ble_eq_true rfl⟩) G rfl hl.1 rfl (Nat.le_of_ble_eq_true rfl) dX0_sum_37 ⟨Nat.zero_le _, Nat.zero_le _⟩ (fun r_2 σ_3 H locs e_4 G => ?_)
        refine lv_i2l (v := r_2.toInt64) hx hb dX0_sum_40 rfl ?_
        refine lv_ladd hx hb dX0_sum_41 ?_
        refine lv_topl (fun v_5 ev_5 => ?_)
        refine lv_lstore_n (lv' := [(3, .long v_5), (0, .ref h0), (1, .int a0), (2, .int cn), (5, .int k)]) hx hb dX0_sum_42 rfl hl (by decide) rfl (fun ls hl => ?_)
        obtain ⟨v_6, ev_6⟩ : ∃ y : Int32, y = k + 1 := ⟨_, rfl⟩
        refine lv_iinc (v := v_6) (lv' := [(5, .int v_6), (3, .long v_5), (0, .ref h0), (1, .int a0), (2, .int cn)]) hx hb dX0_sum_43 hl (k := 4) rfl (by rw [ev_6]; rfl) (by decide) rfl (fun ls hl => ?_)
        refine lv_goto (tgt := 27) hx hb dX0_sum_46 (by decide) ?_
        exact ih σ_3 cn v_5 v_6 _ _ _ (by subst ev_6; subst ev_5; exact Nat.lt_of_lt_of_le (x_meas c_1) (Nat.le_of_lt_succ hm)) (by subst ev_6; subst ev_5; rw [← hinv]; (simp only [y_sumL, c_1, e_4, ↓reduceIte]) <;> rfl) G (lv_sub hl [2, 3, 4, 1, 0] rfl)
  refine lv_aload_n hx hb dX0_sum_0 rfl (lv_at hl 0 rfl) ?_
  refine lv_ldc hx hb hown (hts (.constant RX0 29 (2147483647)) (by decide +kernel)) dX0_sum_1 ?_
  refine x_callv (As := [.int (2147483647)]) (rest := []) ⟨hx, hb, hml, hown, hts⟩ (kX0_begin l D h0 r0 cA σ (2147483647)) (cwV 1 hts gX0_sum_X0_begin rfl rfl rfl (by decide +kernel) ⟨Nat.le_of_ble_eq_true rfl, Nat.le_of_ble_eq_true rfl⟩) G rfl hl.1 rfl (Nat.le_of_ble_eq_true rfl) dX0_sum_3 ⟨Nat.zero_le _, Nat.zero_le _⟩ (fun σ_8 H locs e_9 G => ?_)
  refine lv_aload_n hx hb dX0_sum_6 rfl (lv_at hl 0 rfl) ?_
  refine lv_iload_n hx hb dX0_sum_7 rfl (lv_at hl 1 rfl) ?_
  refine x_calli (As := [.int a0]) (rest := []) ⟨hx, hb, hml, hown, hts⟩ (kX0_exists l D h0 r0 cA σ_8 a0) (cwV 1 hts gX0_sum_X0_exists rfl rfl rfl (by decide +kernel) ⟨Nat.le_of_ble_eq_true rfl, Nat.le_of_ble_eq_true rfl⟩) G rfl hl.1 rfl (Nat.le_of_ble_eq_true rfl) dX0_sum_8 ⟨Nat.zero_le _, Nat.zero_le _⟩ (fun r_10 σ_11 H locs e_12 G => ?_)
  obtain ⟨rfl, rfl⟩ := e_12
  refine lv_if_ne (tgt := 16) hx hb dX0_sum_11 (by decide) (fun c_13 => ?_) (fun c_13 => ?_)
  · refine lv_aload_n hx hb dX0_sum_16 rfl (lv_at hl 0 rfl) ?_
    refine lv_iload_n hx hb dX0_sum_17 rfl (lv_at hl 1 rfl) ?_
    refine x_calli (As := [.int a0]) (rest := []) ⟨hx, hb, hml, hown, hts⟩ (kX0_listCells l D h0 r0 cA σ_8 a0) (cwV 1 hts gX0_sum_X0_listCells rfl rfl rfl (by decide +kernel) ⟨Nat.le_of_ble_eq_true rfl, Nat.le_of_ble_eq_true rfl⟩) G rfl hl.1 rfl (Nat.le_of_ble_eq_true rfl) dX0_sum_18 ⟨Nat.zero_le _, Nat.zero_le _⟩ (fun r_14 σ_15 H locs e_16 G => ?_)
    refine lv_istore_n (lv' := [(2, .int r_14), (0, .ref h0), (1, .int a0)]) hx hb dX0_sum_21 rfl hl (by decide) rfl (fun ls hl => ?_)
    refine lv_lconst (v := 0) hx hb dX0_sum_22 (by decide) ?_
    refine lv_lstore_n (lv' := [(3, .long 0), (2, .int r_14), (0, .ref h0), (1, .int a0)]) hx hb dX0_sum_23 rfl hl (by decide) rfl (fun ls hl => ?_)
    refine lv_iconst (v := 0) hx hb dX0_sum_24 (by decide) ?_
    refine lv_istore (lv' := [(5, .int 0), (3, .long 0), (2, .int r_14), (0, .ref h0), (1, .int a0)]) hx hb dX0_sum_25 hl (by decide) rfl (fun ls hl => ?_)
    exact loop (r_14.toInt.toNat + 1) σ_15 r_14 0 0 _ _ _ (x_meas0) (by (simp only [x_sum, e_9, c_13, e_16, ↓reduceIte]) <;> rfl) G (lv_sub hl [3, 4, 2, 1, 0] rfl)
  · refine lv_lconst (v := 0) hx hb dX0_sum_14 (by decide) ?_
    exact g_lret (u := σ_8) E G (by (simp only [x_sum, e_9, c_13, ↓reduceIte]) <;> rfl) dX0_sum_15

set_option maxHeartbeats 4000000 in
set_option maxRecDepth 100000 in
theorem kX0_free (l : Launch) (D : va_G) (h0 r0 : Nat) (cA : ClassId) (σ : Sx) : gMi l yX0_free wsX0_free ({ frames := 1, cells := 0, slots := 0, locals := 21 }) D vwCl [(cA, .int)] [.ref h0] (xw h0 r0 cA) σ (fun r σ' => x_free σ = (r, σ')) := by
  refine gMi_of (cc := cX0_free) (maxL := 1) (ret := (some .int)) (by decide) rfl (Nat.le_of_ble_eq_true rfl) ?_
  intro p e s m below meth c A ls E G hl
  obtain ⟨hx, hb, hml, hr, hlocks, hown, hts, -, -⟩ := id E
  have hin : ∀ w ∈ wsX00, w ∈ wsX0_free := fun w h => List.mem_cons_of_mem _ (List.mem_append_right _ h)
  have hl : lv_has ls 1 [(0, .ref h0)] := hl
  refine lv_aload_n hx hb dX0_free_0 rfl (lv_at hl 0 rfl) ?_
  refine lv_ldc hx hb hown (hts (.constant RX0 29 (2147483647)) (by decide +kernel)) dX0_free_1 ?_
  refine x_callv (As := [.int (2147483647)]) (rest := []) ⟨hx, hb, hml, hown, hts⟩ (kX0_begin l D h0 r0 cA σ (2147483647)) (cwV 1 hts gX0_free_X0_begin rfl rfl rfl (by decide +kernel) ⟨Nat.le_of_ble_eq_true rfl, Nat.le_of_ble_eq_true rfl⟩) G rfl hl.1 rfl (Nat.le_of_ble_eq_true rfl) dX0_free_3 ⟨Nat.zero_le _, Nat.zero_le _⟩ (fun σ_2 H locs e_3 G => ?_)
  refine lv_aload_n hx hb dX0_free_6 rfl (lv_at hl 0 rfl) ?_
  refine g_get (C := RX0) (T := TX0) (N := 6) (ci := 0) (v := .int σ_2.2.2.1) hx hb hts hin hown G 0 rfl rfl 2 (by decide) (hts (.fieldLink RX0 93 "SkewMelds" "unused" "I") (by decide +kernel)) rfl rfl dX0_free_7 ?_
  exact g_iret (u := σ_2) E G (by (simp only [x_free, e_3, ↓reduceIte]) <;> rfl) dX0_free_10

set_option maxHeartbeats 4000000 in
set_option maxRecDepth 100000 in
theorem kX0_few (l : Launch) (D : va_G) (h0 r0 : Nat) (cA : ClassId) (σ : Sx) : gMi l yX0_few wsX0_few ({ frames := 1, cells := 0, slots := 0, locals := 21 }) D vwCl [(cA, .int)] [.ref h0] (xw h0 r0 cA) σ (fun r σ' => x_few σ = (r, σ')) := by
  refine gMi_of (cc := cX0_few) (maxL := 2) (ret := (some .boolean)) (by decide) rfl (Nat.le_of_ble_eq_true rfl) ?_
  intro p e s m below meth c A ls E G hl
  obtain ⟨hx, hb, hml, hr, hlocks, hown, hts, -, -⟩ := id E
  have hin : ∀ w ∈ wsX00, w ∈ wsX0_few := fun w h => List.mem_cons_of_mem _ (List.mem_append_right _ h)
  have hl : lv_has ls 2 [(0, .ref h0)] := hl
  refine lv_aload_n hx hb dX0_few_0 rfl (lv_at hl 0 rfl) ?_
  refine g_get (C := RX0) (T := TX0) (N := 6) (ci := 0) (v := .int σ.2.2.2.2.1) hx hb hts hin hown G 0 rfl rfl 4 (by decide) (hts (.fieldLink RX0 96 "SkewMelds" "steps" "I") (by decide +kernel)) rfl rfl dX0_few_1 ?_
  refine lv_aload_n hx hb dX0_few_4 rfl (lv_at hl 0 rfl) ?_
  refine g_get (C := RX0) (T := TX0) (N := 6) (ci := 0) (v := .int σ.2.2.2.2.2) hx hb hts hin hown G 0 rfl rfl 5 (by decide) (hts (.fieldLink RX0 99 "SkewMelds" "limit" "I") (by decide +kernel)) rfl rfl dX0_few_5 ?_
  refine lv_icmp_gt (tgt := 15) hx hb dX0_few_8 (by decide) (fun c_1 => ?_) (fun c_1 => ?_)
  · refine lv_iconst (v := 0) hx hb dX0_few_15 (by decide) ?_
    refine lv_istore_n (lv' := [(1, .int 0), (0, .ref h0)]) hx hb dX0_few_16 rfl hl (by decide) rfl (fun ls hl => ?_)
    refine lv_aload_n hx hb dX0_few_17 rfl (lv_at hl 1 rfl) ?_
    refine lv_ldc hx hb hown (hts (.constant RX0 29 (2147483647)) (by decide +kernel)) dX0_few_18 ?_
    refine x_callv (As := [.int (2147483647)]) (rest := []) ⟨hx, hb, hml, hown, hts⟩ (kX0_begin l D h0 r0 cA σ (2147483647)) (cwV 1 hts gX0_few_X0_begin rfl rfl rfl (by decide +kernel) ⟨Nat.le_of_ble_eq_true rfl, Nat.le_of_ble_eq_true rfl⟩) G rfl hl.1 rfl (Nat.le_of_ble_eq_true rfl) dX0_few_20 ⟨Nat.zero_le _, Nat.zero_le _⟩ (fun σ_3 H locs e_4 G => ?_)
    refine lv_iload_n hx hb dX0_few_23 rfl (lv_at hl 0 rfl) ?_
    exact g_zret (u := σ_3) E G (by decide) (by (simp only [x_few, c_1, e_4, ↓reduceIte]) <;> rfl) dX0_few_24
  · refine lv_iconst (v := 1) hx hb dX0_few_11 (by decide) ?_
    refine lv_goto (tgt := 16) hx hb dX0_few_12 (by decide) ?_
    refine lv_istore_n (lv' := [(1, .int 1), (0, .ref h0)]) hx hb dX0_few_16 rfl hl (by decide) rfl (fun ls hl => ?_)
    refine lv_aload_n hx hb dX0_few_17 rfl (lv_at hl 1 rfl) ?_
    refine lv_ldc hx hb hown (hts (.constant RX0 29 (2147483647)) (by decide +kernel)) dX0_few_18 ?_
    refine x_callv (As := [.int (2147483647)]) (rest := []) ⟨hx, hb, hml, hown, hts⟩ (kX0_begin l D h0 r0 cA σ (2147483647)) (cwV 1 hts gX0_few_X0_begin rfl rfl rfl (by decide +kernel) ⟨Nat.le_of_ble_eq_true rfl, Nat.le_of_ble_eq_true rfl⟩) G rfl hl.1 rfl (Nat.le_of_ble_eq_true rfl) dX0_few_20 ⟨Nat.zero_le _, Nat.zero_le _⟩ (fun σ_6 H locs e_7 G => ?_)
    refine lv_iload_n hx hb dX0_few_23 rfl (lv_at hl 0 rfl) ?_
    exact g_zret (u := σ_6) E G (by decide) (by (simp only [x_few, c_1, e_7, ↓reduceIte]) <;> rfl) dX0_few_24
