set_option maxHeartbeats 4000000 in
set_option maxRecDepth 100000 in
theorem kX0_read (l : Launch) (D : va_G) (h0 r0 : Nat) (cA : ClassId) (σ : Sx) (a0 : Int32) : gMi l yX0_read wsX0_read ({ frames := 0, cells := 0, slots := 0, locals := 0 }) D vwCl [(cA, .int)] [.ref h0, .int a0] (xw h0 r0 cA) σ (fun r σ' => x_read σ a0 = (r, σ')) := by
  refine gMi_of (cc := cX0_read) (maxL := 2) (ret := (some .int)) (by decide) rfl (Nat.le_of_ble_eq_true rfl) ?_
  intro p e s m below meth c A ls E G hl
  obtain ⟨hx, hb, hml, hr, hlocks, hown, hts, -, -⟩ := id E
  have hin : ∀ w ∈ wsX00, w ∈ wsX0_read := fun w h => List.mem_cons_of_mem _ (List.mem_append_right _ h)
  have hl : lv_has ls 2 [(0, .ref h0), (1, .int a0)] := hl
  refine lv_iload_n hx hb dX0_read_0 rfl (lv_at hl 1 rfl) ?_
  refine lv_if_lt (tgt := 13) hx hb dX0_read_1 (by decide) (fun c_1 => ?_) (fun c_1 => ?_)
  · refine lv_iconst (v := (-1)) hx hb dX0_read_13 (by decide) ?_
    exact g_iret (u := σ) E G (by (simp only [x_read, c_1, ↓reduceIte]) <;> rfl) dX0_read_14
  · refine lv_iload_n hx hb dX0_read_4 rfl (lv_at hl 1 rfl) ?_
    refine lv_aload_n hx hb dX0_read_5 rfl (lv_at hl 0 rfl) ?_
    refine g_get (C := RX0) (T := TX0) (N := 6) (ci := 0) (v := .ref r0) hx hb hts hin hown G 0 rfl rfl 0 (by decide) (hts (.fieldLink RX0 13 "SkewMelds" "row" "[I") (by decide +kernel)) rfl rfl dX0_read_6 ?_
    refine g_alen (v := 1080) hx hb G 1 0 rfl rfl rfl dX0_read_9 ?_
    refine lv_icmp_lt (tgt := 15) hx hb dX0_read_10 (by decide) (fun c_2 => ?_) (fun c_2 => ?_)
    · refine lv_aload_n hx hb dX0_read_15 rfl (lv_at hl 0 rfl) ?_
      refine lv_dup hx hb dX0_read_16 rfl ?_
      refine g_get (C := RX0) (T := TX0) (N := 6) (ci := 0) (v := .int σ.2.2.2.2.1) hx hb hts hin hown G 0 rfl rfl 4 (by decide) (hts (.fieldLink RX0 96 "SkewMelds" "steps" "I") (by decide +kernel)) rfl rfl dX0_read_17 ?_
      refine lv_iconst (v := 1) hx hb dX0_read_20 (by decide) ?_
      refine lv_iadd hx hb dX0_read_21 ?_
      refine g_put (C := RX0) (T := TX0) (N := 6) (ci := 0) (v := .int (σ.2.2.2.2.1 + 1)) (ty := .int) hx hb hts hin tyX0 tyX0_ok nmX0 hown G 0 rfl rfl 4 (by decide) (hts (.fieldLink RX0 96 "SkewMelds" "steps" "I") (by decide +kernel)) rfl rfl (by decide +kernel) rfl rfl (Nat.le_of_ble_eq_true rfl) (xw h0 r0 cA (x_sS σ (σ.2.2.2.2.1 + 1))) rfl dX0_read_22 (fun H locs G => ?_)
      refine lv_aload_n hx hb dX0_read_25 rfl (lv_at hl 0 rfl) ?_
      refine g_get (C := RX0) (T := TX0) (N := 6) (ci := 0) (v := .ref r0) hx hb hts hin hown G 0 rfl rfl 0 (by decide) (hts (.fieldLink RX0 13 "SkewMelds" "row" "[I") (by decide +kernel)) rfl rfl dX0_read_26 ?_
      refine lv_iload_n hx hb dX0_read_29 rfl (lv_at hl 1 rfl) ?_
      refine g_ild hx hb G 1 0 rfl rfl (x_inb c_1 c_2) dX0_read_30 ?_
      exact g_iret (u := (x_sS σ (σ.2.2.2.2.1 + 1))) E G (by (simp only [x_read, c_1, c_2, ↓reduceIte]) <;> rfl) dX0_read_31
    · refine lv_iconst (v := (-1)) hx hb dX0_read_13 (by decide) ?_
      exact g_iret (u := σ) E G (by (simp only [x_read, c_1, c_2, ↓reduceIte]) <;> rfl) dX0_read_14

set_option maxHeartbeats 4000000 in
set_option maxRecDepth 100000 in
theorem kX0_write (l : Launch) (D : va_G) (h0 r0 : Nat) (cA : ClassId) (σ : Sx) (a0 : Int32) (a1 : Int32) : gMv l yX0_write wsX0_write ({ frames := 0, cells := 0, slots := 0, locals := 0 }) D vwCl [(cA, .int)] [.ref h0, .int a0, .int a1] (xw h0 r0 cA) σ (fun σ' => x_write σ a0 a1 = σ') := by
  refine gMv_of (cc := cX0_write) (maxL := 3) (ret := none) (by decide) rfl (Nat.le_of_ble_eq_true rfl) ?_
  intro p e s m below meth c A ls E G hl
  obtain ⟨hx, hb, hml, hr, hlocks, hown, hts, -, -⟩ := id E
  have hin : ∀ w ∈ wsX00, w ∈ wsX0_write := fun w h => List.mem_cons_of_mem _ (List.mem_append_right _ h)
  have hl : lv_has ls 3 [(0, .ref h0), (1, .int a0), (2, .int a1)] := hl
  refine lv_iload_n hx hb dX0_write_0 rfl (lv_at hl 1 rfl) ?_
  refine lv_if_lt (tgt := 13) hx hb dX0_write_1 (by decide) (fun c_1 => ?_) (fun c_1 => ?_)
  · exact g_vret (u := σ) E G (by (simp only [x_write, c_1, ↓reduceIte]) <;> rfl) dX0_write_13
  · refine lv_iload_n hx hb dX0_write_4 rfl (lv_at hl 1 rfl) ?_
    refine lv_aload_n hx hb dX0_write_5 rfl (lv_at hl 0 rfl) ?_
    refine g_get (C := RX0) (T := TX0) (N := 6) (ci := 0) (v := .ref r0) hx hb hts hin hown G 0 rfl rfl 0 (by decide) (hts (.fieldLink RX0 13 "SkewMelds" "row" "[I") (by decide +kernel)) rfl rfl dX0_write_6 ?_
    refine g_alen (v := 1080) hx hb G 1 0 rfl rfl rfl dX0_write_9 ?_
    refine lv_icmp_lt (tgt := 14) hx hb dX0_write_10 (by decide) (fun c_2 => ?_) (fun c_2 => ?_)
    · refine lv_aload_n hx hb dX0_write_14 rfl (lv_at hl 0 rfl) ?_
      refine lv_dup hx hb dX0_write_15 rfl ?_
      refine g_get (C := RX0) (T := TX0) (N := 6) (ci := 0) (v := .int σ.2.2.2.2.1) hx hb hts hin hown G 0 rfl rfl 4 (by decide) (hts (.fieldLink RX0 96 "SkewMelds" "steps" "I") (by decide +kernel)) rfl rfl dX0_write_16 ?_
      refine lv_iconst (v := 1) hx hb dX0_write_19 (by decide) ?_
      refine lv_iadd hx hb dX0_write_20 ?_
      refine g_put (C := RX0) (T := TX0) (N := 6) (ci := 0) (v := .int (σ.2.2.2.2.1 + 1)) (ty := .int) hx hb hts hin tyX0 tyX0_ok nmX0 hown G 0 rfl rfl 4 (by decide) (hts (.fieldLink RX0 96 "SkewMelds" "steps" "I") (by decide +kernel)) rfl rfl (by decide +kernel) rfl rfl (Nat.le_of_ble_eq_true rfl) (xw h0 r0 cA (x_sS σ (σ.2.2.2.2.1 + 1))) rfl dX0_write_21 (fun H locs G => ?_)
      refine lv_aload_n hx hb dX0_write_24 rfl (lv_at hl 0 rfl) ?_
      refine g_get (C := RX0) (T := TX0) (N := 6) (ci := 0) (v := .ref r0) hx hb hts hin hown G 0 rfl rfl 0 (by decide) (hts (.fieldLink RX0 13 "SkewMelds" "row" "[I") (by decide +kernel)) rfl rfl dX0_write_25 ?_
      refine lv_iload_n hx hb dX0_write_28 rfl (lv_at hl 1 rfl) ?_
      refine lv_iload_n hx hb dX0_write_29 rfl (lv_at hl 2 rfl) ?_
      refine g_ist hx hb G 1 0 rfl rfl (x_inb c_1 c_2) (xw h0 r0 cA (x_sR (x_sS σ (σ.2.2.2.2.1 + 1)) (upd (x_sS σ (σ.2.2.2.2.1 + 1)).1 a0.toNatClampNeg a1))) rfl dX0_write_30 (fun H locs G => ?_)
      exact g_vret (u := (x_sR (x_sS σ (σ.2.2.2.2.1 + 1)) (upd (x_sS σ (σ.2.2.2.2.1 + 1)).1 a0.toNatClampNeg a1))) E G (by (simp only [x_write, c_1, c_2, ↓reduceIte]) <;> rfl) dX0_write_31
    · exact g_vret (u := σ) E G (by (simp only [x_write, c_1, c_2, ↓reduceIte]) <;> rfl) dX0_write_13

set_option maxHeartbeats 4000000 in
set_option maxRecDepth 100000 in
theorem kX0_begin (l : Launch) (D : va_G) (h0 r0 : Nat) (cA : ClassId) (σ : Sx) (a0 : Int32) : gMv l yX0_begin wsX0_begin ({ frames := 0, cells := 0, slots := 0, locals := 0 }) D vwCl [(cA, .int)] [.ref h0, .int a0] (xw h0 r0 cA) σ (fun σ' => x_begin σ a0 = σ') := by
  refine gMv_of (cc := cX0_begin) (maxL := 2) (ret := none) (by decide) rfl (Nat.le_of_ble_eq_true rfl) ?_
  intro p e s m below meth c A ls E G hl
  obtain ⟨hx, hb, hml, hr, hlocks, hown, hts, -, -⟩ := id E
  have hin : ∀ w ∈ wsX00, w ∈ wsX0_begin := fun w h => List.mem_cons_of_mem _ (List.mem_append_right _ h)
  have hl : lv_has ls 2 [(0, .ref h0), (1, .int a0)] := hl
  refine lv_aload_n hx hb dX0_begin_0 rfl (lv_at hl 0 rfl) ?_
  refine lv_iconst (v := 0) hx hb dX0_begin_1 (by decide) ?_
  refine g_put (C := RX0) (T := TX0) (N := 6) (ci := 0) (v := .int 0) (ty := .int) hx hb hts hin tyX0 tyX0_ok nmX0 hown G 0 rfl rfl 4 (by decide) (hts (.fieldLink RX0 96 "SkewMelds" "steps" "I") (by decide +kernel)) rfl rfl (by decide +kernel) rfl rfl (Nat.le_of_ble_eq_true rfl) (xw h0 r0 cA (x_sS σ 0)) rfl dX0_begin_2 (fun H locs G => ?_)
  refine lv_aload_n hx hb dX0_begin_5 rfl (lv_at hl 0 rfl) ?_
  refine lv_iload_n hx hb dX0_begin_6 rfl (lv_at hl 1 rfl) ?_
  refine g_put (C := RX0) (T := TX0) (N := 6) (ci := 0) (v := .int a0) (ty := .int) hx hb hts hin tyX0 tyX0_ok nmX0 hown G 0 rfl rfl 5 (by decide) (hts (.fieldLink RX0 99 "SkewMelds" "limit" "I") (by decide +kernel)) rfl rfl (by decide +kernel) rfl rfl (Nat.le_of_ble_eq_true rfl) (xw h0 r0 cA (x_sL (x_sS σ 0) a0)) rfl dX0_begin_7 (fun H locs G => ?_)
  exact g_vret (u := (x_sL (x_sS σ 0) a0)) E G (by (simp only [x_begin, ↓reduceIte]) <;> rfl) dX0_begin_10

set_option maxHeartbeats 4000000 in
set_option maxRecDepth 100000 in
theorem kX0_exists (l : Launch) (D : va_G) (h0 r0 : Nat) (cA : ClassId) (σ : Sx) (a0 : Int32) : gMi l yX0_exists wsX0_exists ({ frames := 0, cells := 0, slots := 0, locals := 0 }) D vwCl [(cA, .int)] [.ref h0, .int a0] (xw h0 r0 cA) σ (fun r σ' => x_ex σ a0 = r ∧ σ = σ') := by
  refine gMi_of (cc := cX0_exists) (maxL := 2) (ret := (some .boolean)) (by decide) rfl (Nat.le_of_ble_eq_true rfl) ?_
  intro p e s m below meth c A ls E G hl
  obtain ⟨hx, hb, hml, hr, hlocks, hown, hts, -, -⟩ := id E
  have hin : ∀ w ∈ wsX00, w ∈ wsX0_exists := fun w h => List.mem_cons_of_mem _ (List.mem_append_right _ h)
  have hl : lv_has ls 2 [(0, .ref h0), (1, .int a0)] := hl
  refine lv_iload_n hx hb dX0_exists_0 rfl (lv_at hl 1 rfl) ?_
  refine lv_if_lt (tgt := 16) hx hb dX0_exists_1 (by decide) (fun c_1 => ?_) (fun c_1 => ?_)
  · refine lv_iconst (v := 0) hx hb dX0_exists_16 (by decide) ?_
    exact g_zret (u := σ) E G (by decide) (⟨by (simp only [x_ex, c_1, ↓reduceIte]) <;> rfl, rfl⟩) dX0_exists_17
  · refine lv_iload_n hx hb dX0_exists_4 rfl (lv_at hl 1 rfl) ?_
    refine lv_aload_n hx hb dX0_exists_5 rfl (lv_at hl 0 rfl) ?_
    refine g_get (C := RX0) (T := TX0) (N := 6) (ci := 0) (v := .int σ.2.1) hx hb hts hin hown G 0 rfl rfl 1 (by decide) (hts (.fieldLink RX0 33 "SkewMelds" "heaps" "I") (by decide +kernel)) rfl rfl dX0_exists_6 ?_
    refine lv_icmp_ge (tgt := 16) hx hb dX0_exists_9 (by decide) (fun c_2 => ?_) (fun c_2 => ?_)
    · refine lv_iconst (v := 0) hx hb dX0_exists_16 (by decide) ?_
      exact g_zret (u := σ) E G (by decide) (⟨by (simp only [x_ex, c_1, c_2, ↓reduceIte]) <;> rfl, rfl⟩) dX0_exists_17
    · refine lv_iconst (v := 1) hx hb dX0_exists_12 (by decide) ?_
      refine lv_goto (tgt := 17) hx hb dX0_exists_13 (by decide) ?_
      exact g_zret (u := σ) E G (by decide) (⟨by (simp only [x_ex, c_1, c_2, ↓reduceIte]) <;> rfl, rfl⟩) dX0_exists_17

set_option maxHeartbeats 4000000 in
set_option maxRecDepth 100000 in
theorem kX0_keysIn (l : Launch) (D : va_G) (h0 r0 : Nat) (cA : ClassId) (σ : Sx) (a0 : Int32) : gMi l yX0_keysIn wsX0_keysIn ({ frames := 1, cells := 0, slots := 0, locals := 21 }) D vwCl [(cA, .int)] [.ref h0, .int a0] (xw h0 r0 cA) σ (fun r σ' => x_keysIn σ a0 = (r, σ')) := by
  refine gMi_of (cc := cX0_keysIn) (maxL := 2) (ret := (some .int)) (by decide) rfl (Nat.le_of_ble_eq_true rfl) ?_
  intro p e s m below meth c A ls E G hl
  obtain ⟨hx, hb, hml, hr, hlocks, hown, hts, -, -⟩ := id E
  have hin : ∀ w ∈ wsX00, w ∈ wsX0_keysIn := fun w h => List.mem_cons_of_mem _ (List.mem_append_right _ h)
  have hl : lv_has ls 2 [(0, .ref h0), (1, .int a0)] := hl
  refine lv_aload_n hx hb dX0_keysIn_0 rfl (lv_at hl 0 rfl) ?_
  refine lv_iload_n hx hb dX0_keysIn_1 rfl (lv_at hl 1 rfl) ?_
  refine x_calli (As := [.int a0]) (rest := []) ⟨hx, hb, hml, hown, hts⟩ (kX0_exists l D h0 r0 cA σ a0) (cwV 1 hts gX0_keysIn_X0_exists rfl rfl rfl (by decide +kernel) ⟨Nat.le_of_ble_eq_true rfl, Nat.le_of_ble_eq_true rfl⟩) G rfl hl.1 rfl (Nat.le_of_ble_eq_true rfl) dX0_keysIn_2 ⟨Nat.zero_le _, Nat.zero_le _⟩ (fun r_1 σ_2 H locs e_3 G => ?_)
  obtain ⟨rfl, rfl⟩ := e_3
  refine lv_if_eq (tgt := 20) hx hb dX0_keysIn_5 (by decide) (fun c_4 => ?_) (fun c_4 => ?_)
  · refine lv_iconst (v := 0) hx hb dX0_keysIn_20 (by decide) ?_
    exact g_iret (u := σ) E G (by (simp only [x_keysIn, c_4, ↓reduceIte]) <;> rfl) dX0_keysIn_21
  · refine lv_aload_n hx hb dX0_keysIn_8 rfl (lv_at hl 0 rfl) ?_
    refine lv_sipush (v := 1072) hx hb dX0_keysIn_9 (by decide) ?_
    refine lv_iload_n hx hb dX0_keysIn_12 rfl (lv_at hl 1 rfl) ?_
    refine lv_iadd hx hb dX0_keysIn_13 ?_
    refine x_calli (As := [.int (1072 + a0)]) (rest := []) ⟨hx, hb, hml, hown, hts⟩ (kX0_read l D h0 r0 cA σ (1072 + a0)) (cwV 1 hts gX0_keysIn_X0_read rfl rfl rfl (by decide +kernel) ⟨Nat.le_of_ble_eq_true rfl, Nat.le_of_ble_eq_true rfl⟩) G rfl hl.1 rfl (Nat.le_of_ble_eq_true rfl) dX0_keysIn_14 ⟨Nat.zero_le _, Nat.zero_le _⟩ (fun r_5 σ_6 H locs e_7 G => ?_)
    refine lv_goto (tgt := 21) hx hb dX0_keysIn_17 (by decide) ?_
    exact g_iret (u := σ_6) E G (by (simp only [x_keysIn, c_4, e_7, ↓reduceIte]) <;> rfl) dX0_keysIn_21

set_option maxHeartbeats 4000000 in
set_option maxRecDepth 100000 in
theorem kX0_resize (l : Launch) (D : va_G) (h0 r0 : Nat) (cA : ClassId) (σ : Sx) (a0 : Int32) (a1 : Int32) : gMi l yX0_resize wsX0_resize ({ frames := 1, cells := 0, slots := 0, locals := 22 }) D vwCl [(cA, .int)] [.ref h0, .int a0, .int a1] (xw h0 r0 cA) σ (fun r σ' => x_resize σ a0 a1 = (r, σ')) := by
  refine gMi_of (cc := cX0_resize) (maxL := 3) (ret := (some .int)) (by decide) rfl (Nat.le_of_ble_eq_true rfl) ?_
  intro p e s m below meth c A ls E G hl
  obtain ⟨hx, hb, hml, hr, hlocks, hown, hts, -, -⟩ := id E
  have hin : ∀ w ∈ wsX00, w ∈ wsX0_resize := fun w h => List.mem_cons_of_mem _ (List.mem_append_right _ h)
  have hl : lv_has ls 3 [(0, .ref h0), (1, .int a0), (2, .int a1)] := hl
  refine lv_aload_n hx hb dX0_resize_0 rfl (lv_at hl 0 rfl) ?_
  refine lv_sipush (v := 1072) hx hb dX0_resize_1 (by decide) ?_
  refine lv_iload_n hx hb dX0_resize_4 rfl (lv_at hl 1 rfl) ?_
  refine lv_iadd hx hb dX0_resize_5 ?_
  refine lv_iload_n hx hb dX0_resize_6 rfl (lv_at hl 2 rfl) ?_
  refine x_callv (As := [.int (1072 + a0), .int a1]) (rest := []) ⟨hx, hb, hml, hown, hts⟩ (kX0_write l D h0 r0 cA σ (1072 + a0) a1) (cwV 2 hts gX0_resize_X0_write rfl rfl rfl (by decide +kernel) ⟨Nat.le_of_ble_eq_true rfl, Nat.le_of_ble_eq_true rfl⟩) G rfl hl.1 rfl (Nat.le_of_ble_eq_true rfl) dX0_resize_7 ⟨Nat.zero_le _, Nat.zero_le _⟩ (fun σ_2 H locs e_3 G => ?_)
  refine lv_iload_n hx hb dX0_resize_10 rfl (lv_at hl 2 rfl) ?_
  exact g_iret (u := σ_2) E G (by (simp only [x_resize, e_3, ↓reduceIte]) <;> rfl) dX0_resize_11

set_option maxHeartbeats 4000000 in
set_option maxRecDepth 100000 in
theorem kX0_newCell (l : Launch) (D : va_G) (h0 r0 : Nat) (cA : ClassId) (σ : Sx) (a0 : Int32) : gMi l yX0_newCell wsX0_newCell ({ frames := 1, cells := 0, slots := 0, locals := 22 }) D vwCl [(cA, .int)] [.ref h0, .int a0] (xw h0 r0 cA) σ (fun r σ' => x_newCell σ a0 = (r, σ')) := by
  refine gMi_of (cc := cX0_newCell) (maxL := 3) (ret := (some .int)) (by decide) rfl (Nat.le_of_ble_eq_true rfl) ?_
  intro p e s m below meth c A ls E G hl
  obtain ⟨hx, hb, hml, hr, hlocks, hown, hts, -, -⟩ := id E
  have hin : ∀ w ∈ wsX00, w ∈ wsX0_newCell := fun w h => List.mem_cons_of_mem _ (List.mem_append_right _ h)
  have hl : lv_has ls 3 [(0, .ref h0), (1, .int a0)] := hl
  refine lv_aload_n hx hb dX0_newCell_0 rfl (lv_at hl 0 rfl) ?_
  refine g_get (C := RX0) (T := TX0) (N := 6) (ci := 0) (v := .int σ.2.2.2.1) hx hb hts hin hown G 0 rfl rfl 3 (by decide) (hts (.fieldLink RX0 21 "SkewMelds" "firstUnused" "I") (by decide +kernel)) rfl rfl dX0_newCell_1 ?_
  refine lv_istore_n (lv' := [(2, .int σ.2.2.2.1), (0, .ref h0), (1, .int a0)]) hx hb dX0_newCell_4 rfl hl (by decide) rfl (fun ls hl => ?_)
  refine lv_aload_n hx hb dX0_newCell_5 rfl (lv_at hl 1 rfl) ?_
  refine lv_aload_n hx hb dX0_newCell_6 rfl (lv_at hl 1 rfl) ?_
  refine lv_sipush (v := 600) hx hb dX0_newCell_7 (by decide) ?_
  refine lv_iload_n hx hb dX0_newCell_10 rfl (lv_at hl 0 rfl) ?_
  refine lv_iadd hx hb dX0_newCell_11 ?_
  refine x_calli (As := [.int (600 + σ.2.2.2.1)]) (rest := [.ref h0]) ⟨hx, hb, hml, hown, hts⟩ (kX0_read l D h0 r0 cA σ (600 + σ.2.2.2.1)) (cwV 1 hts gX0_newCell_X0_read rfl rfl rfl (by decide +kernel) ⟨Nat.le_of_ble_eq_true rfl, Nat.le_of_ble_eq_true rfl⟩) G rfl hl.1 rfl (Nat.le_of_ble_eq_true rfl) dX0_newCell_12 ⟨Nat.zero_le _, Nat.zero_le _⟩ (fun r_1 σ_2 H locs e_3 G => ?_)
  refine g_put (C := RX0) (T := TX0) (N := 6) (ci := 0) (v := .int r_1) (ty := .int) hx hb hts hin tyX0 tyX0_ok nmX0 hown G 0 rfl rfl 3 (by decide) (hts (.fieldLink RX0 21 "SkewMelds" "firstUnused" "I") (by decide +kernel)) rfl rfl (by decide +kernel) rfl rfl (Nat.le_of_ble_eq_true rfl) (xw h0 r0 cA (x_sF σ_2 r_1)) rfl dX0_newCell_15 (fun H locs G => ?_)
  refine lv_aload_n hx hb dX0_newCell_18 rfl (lv_at hl 1 rfl) ?_
  refine lv_dup hx hb dX0_newCell_19 rfl ?_
  refine g_get (C := RX0) (T := TX0) (N := 6) (ci := 0) (v := .int (x_sF σ_2 r_1).2.2.1) hx hb hts hin hown G 0 rfl rfl 2 (by decide) (hts (.fieldLink RX0 93 "SkewMelds" "unused" "I") (by decide +kernel)) rfl rfl dX0_newCell_20 ?_
  refine lv_iconst (v := 1) hx hb dX0_newCell_23 (by decide) ?_
  refine lv_isub hx hb dX0_newCell_24 ?_
  refine g_put (C := RX0) (T := TX0) (N := 6) (ci := 0) (v := .int ((x_sF σ_2 r_1).2.2.1 - 1)) (ty := .int) hx hb hts hin tyX0 tyX0_ok nmX0 hown G 0 rfl rfl 2 (by decide) (hts (.fieldLink RX0 93 "SkewMelds" "unused" "I") (by decide +kernel)) rfl rfl (by decide +kernel) rfl rfl (Nat.le_of_ble_eq_true rfl) (xw h0 r0 cA (x_sU (x_sF σ_2 r_1) ((x_sF σ_2 r_1).2.2.1 - 1))) rfl dX0_newCell_25 (fun H locs G => ?_)
  refine lv_aload_n hx hb dX0_newCell_28 rfl (lv_at hl 1 rfl) ?_
  refine lv_iconst (v := 0) hx hb dX0_newCell_29 (by decide) ?_
  refine lv_iload_n hx hb dX0_newCell_30 rfl (lv_at hl 0 rfl) ?_
  refine lv_iadd hx hb dX0_newCell_31 ?_
  refine lv_iload_n hx hb dX0_newCell_32 rfl (lv_at hl 2 rfl) ?_
  refine x_callv (As := [.int (0 + σ.2.2.2.1), .int a0]) (rest := []) ⟨hx, hb, hml, hown, hts⟩ (kX0_write l D h0 r0 cA (x_sU (x_sF σ_2 r_1) ((x_sF σ_2 r_1).2.2.1 - 1)) (0 + σ.2.2.2.1) a0) (cwV 2 hts gX0_newCell_X0_write rfl rfl rfl (by decide +kernel) ⟨Nat.le_of_ble_eq_true rfl, Nat.le_of_ble_eq_true rfl⟩) G rfl hl.1 rfl (Nat.le_of_ble_eq_true rfl) dX0_newCell_33 ⟨Nat.zero_le _, Nat.zero_le _⟩ (fun σ_5 H locs e_6 G => ?_)
  refine lv_aload_n hx hb dX0_newCell_36 rfl (lv_at hl 1 rfl) ?_
  refine lv_sipush (v := 200) hx hb dX0_newCell_37 (by decide) ?_
  refine lv_iload_n hx hb dX0_newCell_40 rfl (lv_at hl 0 rfl) ?_
  refine lv_iadd hx hb dX0_newCell_41 ?_
  refine lv_iconst (v := 0) hx hb dX0_newCell_42 (by decide) ?_
  refine x_callv (As := [.int (200 + σ.2.2.2.1), .int 0]) (rest := []) ⟨hx, hb, hml, hown, hts⟩ (kX0_write l D h0 r0 cA σ_5 (200 + σ.2.2.2.1) 0) (cwV 2 hts gX0_newCell_X0_write rfl rfl rfl (by decide +kernel) ⟨Nat.le_of_ble_eq_true rfl, Nat.le_of_ble_eq_true rfl⟩) G rfl hl.1 rfl (Nat.le_of_ble_eq_true rfl) dX0_newCell_43 ⟨Nat.zero_le _, Nat.zero_le _⟩ (fun σ_8 H locs e_9 G => ?_)
  refine lv_aload_n hx hb dX0_newCell_46 rfl (lv_at hl 1 rfl) ?_
  refine lv_sipush (v := 400) hx hb dX0_newCell_47 (by decide) ?_
  refine lv_iload_n hx hb dX0_newCell_50 rfl (lv_at hl 0 rfl) ?_
  refine lv_iadd hx hb dX0_newCell_51 ?_
  refine lv_iconst (v := (-1)) hx hb dX0_newCell_52 (by decide) ?_
  refine x_callv (As := [.int (400 + σ.2.2.2.1), .int (-1)]) (rest := []) ⟨hx, hb, hml, hown, hts⟩ (kX0_write l D h0 r0 cA σ_8 (400 + σ.2.2.2.1) (-1)) (cwV 2 hts gX0_newCell_X0_write rfl rfl rfl (by decide +kernel) ⟨Nat.le_of_ble_eq_true rfl, Nat.le_of_ble_eq_true rfl⟩) G rfl hl.1 rfl (Nat.le_of_ble_eq_true rfl) dX0_newCell_53 ⟨Nat.zero_le _, Nat.zero_le _⟩ (fun σ_11 H locs e_12 G => ?_)
  refine lv_iload_n hx hb dX0_newCell_56 rfl (lv_at hl 0 rfl) ?_
  exact g_iret (u := σ_11) E G (by (simp only [x_newCell, e_3, e_6, e_9, e_12, ↓reduceIte]) <;> rfl) dX0_newCell_57

set_option maxHeartbeats 4000000 in
set_option maxRecDepth 100000 in
theorem kX0_giveBack (l : Launch) (D : va_G) (h0 r0 : Nat) (cA : ClassId) (σ : Sx) (a0 : Int32) : gMv l yX0_giveBack wsX0_giveBack ({ frames := 1, cells := 0, slots := 0, locals := 22 }) D vwCl [(cA, .int)] [.ref h0, .int a0] (xw h0 r0 cA) σ (fun σ' => x_giveBack σ a0 = σ') := by
  refine gMv_of (cc := cX0_giveBack) (maxL := 2) (ret := none) (by decide) rfl (Nat.le_of_ble_eq_true rfl) ?_
  intro p e s m below meth c A ls E G hl
  obtain ⟨hx, hb, hml, hr, hlocks, hown, hts, -, -⟩ := id E
  have hin : ∀ w ∈ wsX00, w ∈ wsX0_giveBack := fun w h => List.mem_cons_of_mem _ (List.mem_append_right _ h)
  have hl : lv_has ls 2 [(0, .ref h0), (1, .int a0)] := hl
  refine lv_aload_n hx hb dX0_giveBack_0 rfl (lv_at hl 0 rfl) ?_
  refine lv_sipush (v := 600) hx hb dX0_giveBack_1 (by decide) ?_
  refine lv_iload_n hx hb dX0_giveBack_4 rfl (lv_at hl 1 rfl) ?_
  refine lv_iadd hx hb dX0_giveBack_5 ?_
  refine lv_aload_n hx hb dX0_giveBack_6 rfl (lv_at hl 0 rfl) ?_
  refine g_get (C := RX0) (T := TX0) (N := 6) (ci := 0) (v := .int σ.2.2.2.1) hx hb hts hin hown G 0 rfl rfl 3 (by decide) (hts (.fieldLink RX0 21 "SkewMelds" "firstUnused" "I") (by decide +kernel)) rfl rfl dX0_giveBack_7 ?_
  refine x_callv (As := [.int (600 + a0), .int σ.2.2.2.1]) (rest := []) ⟨hx, hb, hml, hown, hts⟩ (kX0_write l D h0 r0 cA σ (600 + a0) σ.2.2.2.1) (cwV 2 hts gX0_giveBack_X0_write rfl rfl rfl (by decide +kernel) ⟨Nat.le_of_ble_eq_true rfl, Nat.le_of_ble_eq_true rfl⟩) G rfl hl.1 rfl (Nat.le_of_ble_eq_true rfl) dX0_giveBack_10 ⟨Nat.zero_le _, Nat.zero_le _⟩ (fun σ_2 H locs e_3 G => ?_)
  refine lv_aload_n hx hb dX0_giveBack_13 rfl (lv_at hl 0 rfl) ?_
  refine lv_iload_n hx hb dX0_giveBack_14 rfl (lv_at hl 1 rfl) ?_
  refine g_put (C := RX0) (T := TX0) (N := 6) (ci := 0) (v := .int a0) (ty := .int) hx hb hts hin tyX0 tyX0_ok nmX0 hown G 0 rfl rfl 3 (by decide) (hts (.fieldLink RX0 21 "SkewMelds" "firstUnused" "I") (by decide +kernel)) rfl rfl (by decide +kernel) rfl rfl (Nat.le_of_ble_eq_true rfl) (xw h0 r0 cA (x_sF σ_2 a0)) rfl dX0_giveBack_15 (fun H locs G => ?_)
  refine lv_aload_n hx hb dX0_giveBack_18 rfl (lv_at hl 0 rfl) ?_
  refine lv_dup hx hb dX0_giveBack_19 rfl ?_
  refine g_get (C := RX0) (T := TX0) (N := 6) (ci := 0) (v := .int (x_sF σ_2 a0).2.2.1) hx hb hts hin hown G 0 rfl rfl 2 (by decide) (hts (.fieldLink RX0 93 "SkewMelds" "unused" "I") (by decide +kernel)) rfl rfl dX0_giveBack_20 ?_
  refine lv_iconst (v := 1) hx hb dX0_giveBack_23 (by decide) ?_
  refine lv_iadd hx hb dX0_giveBack_24 ?_
  refine g_put (C := RX0) (T := TX0) (N := 6) (ci := 0) (v := .int ((x_sF σ_2 a0).2.2.1 + 1)) (ty := .int) hx hb hts hin tyX0 tyX0_ok nmX0 hown G 0 rfl rfl 2 (by decide) (hts (.fieldLink RX0 93 "SkewMelds" "unused" "I") (by decide +kernel)) rfl rfl (by decide +kernel) rfl rfl (Nat.le_of_ble_eq_true rfl) (xw h0 r0 cA (x_sU (x_sF σ_2 a0) ((x_sF σ_2 a0).2.2.1 + 1))) rfl dX0_giveBack_25 (fun H locs G => ?_)
  exact g_vret (u := (x_sU (x_sF σ_2 a0) ((x_sF σ_2 a0).2.2.1 + 1))) E G (by (simp only [x_giveBack, e_3, ↓reduceIte]) <;> rfl) dX0_giveBack_28

set_option maxHeartbeats 4000000 in
set_option maxRecDepth 100000 in
theorem kX0_topAt (l : Launch) (a0 : Int32) (a1 : Int32) : gMs l yX0_topAt wsX0_topAt ({ frames := 0, cells := 0, slots := 0, locals := 0 }) [.int a0, .int a1] (fun r => r = x_topAt a0 a1) := by
  intro D cl
  refine gMi_of (cc := cX0_topAt) (maxL := 2) (ret := (some .int)) (by decide) rfl (Nat.le_of_ble_eq_true rfl) ?_
  intro p e s m below meth c A ls E G hl
  obtain ⟨hx, hb, hml, hr, hlocks, hown, hts, -, -⟩ := id E
  have hl : lv_has ls 2 [(0, .int a0), (1, .int a1)] := hl
  refine lv_sipush (v := 1000) hx hb dX0_topAt_0 (by decide) ?_
  refine lv_iload_n hx hb dX0_topAt_3 rfl (lv_at hl 0 rfl) ?_
  refine lv_bipush (v := 8) hx hb dX0_topAt_4 (by decide) ?_
  refine lv_imul hx hb dX0_topAt_6 ?_
  refine lv_iadd hx hb dX0_topAt_7 ?_
  refine lv_iload_n hx hb dX0_topAt_8 rfl (lv_at hl 1 rfl) ?_
  refine lv_iadd hx hb dX0_topAt_9 ?_
  exact g_iret (u := ()) E G (by (simp only [x_topAt, ↓reduceIte]) <;> rfl) dX0_topAt_10

set_option maxHeartbeats 4000000 in
set_option maxRecDepth 100000 in
theorem kX0_limitFor (l : Launch) (a0 : Int32) : gMs l yX0_limitFor wsX0_limitFor ({ frames := 0, cells := 0, slots := 0, locals := 0 }) [.int a0] (fun r => r = x_limFor a0) := by
  intro D cl
  refine gMi_of (cc := cX0_limitFor) (maxL := 2) (ret := (some .int)) (by decide) rfl (Nat.le_of_ble_eq_true rfl) ?_
  intro p e s m below meth c A ls E G hl
  obtain ⟨hx, hb, hml, hr, hlocks, hown, hts, -, -⟩ := id E
  have hl : lv_has ls 2 [(0, .int a0)] := hl
  have loop : ∀ (n : Nat) (k : Int32) (ls : Array Slot), ((30 : Int32).toInt - k.toInt).toNat < n → x_pow a0 n k = x_pow a0 31 0 → lv_has ls 2 [(0, .int a0), (1, .int k)] → W p l e ({ frames := 0, cells := 0, slots := 0, locals := 0 }) s m [.int a0].toArray below meth c s.heap [] 0 0 (MQ below (va_Qi (fun r _ => r = x_limFor a0) (gB D cl [] A (fun _ : Unit => [])) A) [.int a0].toArray s 0 0 A) (F0 m 2 ls []) := by
    intro n
    induction n with
    | zero => intro k ls hm; exact absurd hm (Nat.not_lt_zero _)
    | succ n ih =>
      intro k ls hm hinv hl
      refine lv_iload_n hx hb dX0_limitFor_2 rfl (lv_at hl 1 rfl) ?_
      refine lv_bipush (v := 30) hx hb dX0_limitFor_3 (by decide) ?_
      refine lv_icmp_ge (tgt := 23) hx hb dX0_limitFor_5 (by decide) (fun c_1 => ?_) (fun c_1 => ?_)
      · refine lv_sipush (v := 200) hx hb dX0_limitFor_23 (by decide) ?_
        refine lv_iconst (v := 2) hx hb dX0_limitFor_26 (by decide) ?_
        refine lv_iload_n hx hb dX0_limitFor_27 rfl (lv_at hl 1 rfl) ?_
        refine lv_iadd hx hb dX0_limitFor_28 ?_
        refine lv_imul hx hb dX0_limitFor_29 ?_
        exact g_iret (u := ()) E G (by rw [x_limFor, ← hinv]; (simp only [x_pow, c_1, ↓reduceIte]) <;> rfl) dX0_limitFor_30
      · refine lv_iconst (v := 2) hx hb dX0_limitFor_8 (by decide) ?_
        refine lv_iload_n hx hb dX0_limitFor_9 rfl (lv_at hl 1 rfl) ?_
        refine lv_ishl hx hb dX0_limitFor_10 ?_
        refine lv_iload_n hx hb dX0_limitFor_11 rfl (lv_at hl 0 rfl) ?_
        refine lv_iconst (v := 1) hx hb dX0_limitFor_12 (by decide) ?_
        refine lv_iadd hx hb dX0_limitFor_13 ?_
        refine lv_icmp_gt (tgt := 23) hx hb dX0_limitFor_14 (by decide) (fun c_2 => ?_) (fun c_2 => ?_)
        · refine lv_sipush (v := 200) hx hb dX0_limitFor_23 (by decide) ?_
          refine lv_iconst (v := 2) hx hb dX0_limitFor_26 (by decide) ?_
          refine lv_iload_n hx hb dX0_limitFor_27 rfl (lv_at hl 1 rfl) ?_
          refine lv_iadd hx hb dX0_limitFor_28 ?_
          refine lv_imul hx hb dX0_limitFor_29 ?_
          exact g_iret (u := ()) E G (by rw [x_limFor, ← hinv]; (simp only [x_pow, c_1, c_2, ↓reduceIte]) <;> rfl) dX0_limitFor_30
        · obtain ⟨v_3, ev_3⟩ : ∃ y : Int32, y = k + 1 := ⟨_, rfl⟩
          refine lv_iinc (v := v_3) (lv' := [(1, .int v_3), (0, .int a0)]) hx hb dX0_limitFor_17 hl (k := 1) rfl (by rw [ev_3]; rfl) (by decide) rfl (fun ls hl => ?_)
          refine lv_goto (tgt := 2) hx hb dX0_limitFor_20 (by decide) ?_
          exact ih v_3 _ (by subst ev_3; exact Nat.lt_of_lt_of_le (x_meas c_1) (Nat.le_of_lt_succ hm)) (by subst ev_3; rw [← hinv]; (simp only [x_pow, c_1, c_2, ↓reduceIte]) <;> rfl) (lv_sub hl [1, 0] rfl)
  refine lv_iconst (v := 0) hx hb dX0_limitFor_0 (by decide) ?_
  refine lv_istore_n (lv' := [(1, .int 0), (0, .int a0)]) hx hb dX0_limitFor_1 rfl hl (by decide) rfl (fun ls hl => ?_)
  exact loop (31) 0 _ (by decide) (by (simp only [x_limFor, ↓reduceIte]) <;> rfl) (lv_sub hl [1, 0] rfl)
