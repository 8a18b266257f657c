set_option maxHeartbeats 4000000 in
set_option maxRecDepth 100000 in
theorem kX1_isHeap (l : Launch) (D : va_G) (m0 o0 k0 t0 : Nat) (cI cZ : ClassId) (μ : Sm) (a0 : Int32) : gMi l yX1_isHeap wsX1_isHeap ({ frames := 0, cells := 0, slots := 0, locals := 0 }) D vwCl [(cI, .int), (cZ, .boolean)] [.ref m0, .int a0] (mw m0 o0 k0 t0 cI cZ) μ (fun r μ' => z_is μ a0 = r ∧ μ = μ') := by
  refine gMi_of (cc := cX1_isHeap) (maxL := 2) (ret := (some .boolean)) (by decide) rfl (Nat.le_of_ble_eq_true rfl) ?_
  intro p e s m below meth c A ls E G hl
  obtain ⟨hx, hb, hml, hr, hlocks, hown, hts, -, -⟩ := id E
  have hin : ∀ w ∈ wsX10, w ∈ wsX1_isHeap := fun w h => List.mem_cons_of_mem _ (List.mem_append_right _ h)
  have hl : lv_has ls 2 [(0, .ref m0), (1, .int a0)] := hl
  refine lv_iload_n hx hb dX1_isHeap_0 rfl (lv_at hl 1 rfl) ?_
  refine lv_if_lt (tgt := 16) hx hb dX1_isHeap_1 (by decide) (fun c_1 => ?_) (fun c_1 => ?_)
  · refine lv_iconst (v := 0) hx hb dX1_isHeap_16 (by decide) ?_
    exact g_zret (u := μ) E G (by decide) (⟨by (simp only [z_is, c_1, ↓reduceIte]) <;> rfl, rfl⟩) dX1_isHeap_17
  · refine lv_iload_n hx hb dX1_isHeap_4 rfl (lv_at hl 1 rfl) ?_
    refine lv_aload_n hx hb dX1_isHeap_5 rfl (lv_at hl 0 rfl) ?_
    refine g_get (C := RX1) (T := TX1) (N := 5) (ci := 1) (v := .int μ.1) hx hb hts hin hown G 0 rfl rfl 0 (by decide) (hts (.fieldLink RX1 20 "SkewMeldsModel" "heaps" "I") (by decide +kernel)) rfl rfl dX1_isHeap_6 ?_
    refine lv_icmp_ge (tgt := 16) hx hb dX1_isHeap_9 (by decide) (fun c_2 => ?_) (fun c_2 => ?_)
    · refine lv_iconst (v := 0) hx hb dX1_isHeap_16 (by decide) ?_
      exact g_zret (u := μ) E G (by decide) (⟨by (simp only [z_is, c_1, c_2, ↓reduceIte]) <;> rfl, rfl⟩) dX1_isHeap_17
    · refine lv_iconst (v := 1) hx hb dX1_isHeap_12 (by decide) ?_
      refine lv_goto (tgt := 17) hx hb dX1_isHeap_13 (by decide) ?_
      exact g_zret (u := μ) E G (by decide) (⟨by (simp only [z_is, c_1, c_2, ↓reduceIte]) <;> rfl, rfl⟩) dX1_isHeap_17

set_option maxHeartbeats 4000000 in
set_option maxRecDepth 100000 in
theorem kX1_heap (l : Launch) (D : va_G) (m0 o0 k0 t0 : Nat) (cI cZ : ClassId) (μ : Sm) : gMi l yX1_heap wsX1_heap ({ frames := 0, cells := 0, slots := 0, locals := 0 }) D vwCl [(cI, .int), (cZ, .boolean)] [.ref m0] (mw m0 o0 k0 t0 cI cZ) μ (fun r μ' => z_heap μ = (r, μ')) := by
  refine gMi_of (cc := cX1_heap) (maxL := 1) (ret := (some .int)) (by decide) rfl (Nat.le_of_ble_eq_true rfl) ?_
  intro p e s m below meth c A ls E G hl
  obtain ⟨hx, hb, hml, hr, hlocks, hown, hts, -, -⟩ := id E
  have hin : ∀ w ∈ wsX10, w ∈ wsX1_heap := fun w h => List.mem_cons_of_mem _ (List.mem_append_right _ h)
  have hl : lv_has ls 1 [(0, .ref m0)] := hl
  refine lv_aload_n hx hb dX1_heap_0 rfl (lv_at hl 0 rfl) ?_
  refine g_get (C := RX1) (T := TX1) (N := 5) (ci := 1) (v := .int μ.1) hx hb hts hin hown G 0 rfl rfl 0 (by decide) (hts (.fieldLink RX1 20 "SkewMeldsModel" "heaps" "I") (by decide +kernel)) rfl rfl dX1_heap_1 ?_
  refine lv_bipush (v := 8) hx hb dX1_heap_4 (by decide) ?_
  refine lv_icmp_ne (tgt := 11) hx hb dX1_heap_6 (by decide) (fun c_1 => ?_) (fun c_1 => ?_)
  · refine lv_aload_n hx hb dX1_heap_11 rfl (lv_at hl 0 rfl) ?_
    refine lv_dup hx hb dX1_heap_12 rfl ?_
    refine g_get (C := RX1) (T := TX1) (N := 5) (ci := 1) (v := .int μ.1) hx hb hts hin hown G 0 rfl rfl 0 (by decide) (hts (.fieldLink RX1 20 "SkewMeldsModel" "heaps" "I") (by decide +kernel)) rfl rfl dX1_heap_13 ?_
    refine lv_iconst (v := 1) hx hb dX1_heap_16 (by decide) ?_
    refine lv_iadd hx hb dX1_heap_17 ?_
    refine g_put (C := RX1) (T := TX1) (N := 5) (ci := 1) (v := .int (μ.1 + 1)) (ty := .int) hx hb hts hin tyX1 tyX1_ok nmX1 hown G 0 rfl rfl 0 (by decide) (hts (.fieldLink RX1 20 "SkewMeldsModel" "heaps" "I") (by decide +kernel)) rfl rfl (by decide +kernel) rfl rfl (Nat.le_of_ble_eq_true rfl) (mw m0 o0 k0 t0 cI cZ (z_sH μ (μ.1 + 1))) rfl dX1_heap_18 (fun H locs G => ?_)
    refine lv_aload_n hx hb dX1_heap_21 rfl (lv_at hl 0 rfl) ?_
    refine g_get (C := RX1) (T := TX1) (N := 5) (ci := 1) (v := .int (z_sH μ (μ.1 + 1)).1) hx hb hts hin hown G 0 rfl rfl 0 (by decide) (hts (.fieldLink RX1 20 "SkewMeldsModel" "heaps" "I") (by decide +kernel)) rfl rfl dX1_heap_22 ?_
    refine lv_iconst (v := 1) hx hb dX1_heap_25 (by decide) ?_
    refine lv_isub hx hb dX1_heap_26 ?_
    exact g_iret (u := (z_sH μ (μ.1 + 1))) E G (by (simp only [z_heap, c_1, ↓reduceIte]) <;> rfl) dX1_heap_27
  · refine lv_iconst (v := (-1)) hx hb dX1_heap_9 (by decide) ?_
    exact g_iret (u := μ) E G (by (simp only [z_heap, c_1, ↓reduceIte]) <;> rfl) dX1_heap_10

set_option maxHeartbeats 4000000 in
set_option maxRecDepth 100000 in
theorem kX1_sizeOf (l : Launch) (D : va_G) (m0 o0 k0 t0 : Nat) (cI cZ : ClassId) (μ : Sm) (a0 : Int32) (hm : Mok μ) : gMi l yX1_sizeOf wsX1_sizeOf ({ frames := 0, cells := 0, slots := 0, locals := 0 }) D vwCl [(cI, .int), (cZ, .boolean)] [.ref m0, .int a0] (mw m0 o0 k0 t0 cI cZ) μ (fun r μ' => z_size μ a0 = r ∧ μ = μ') := by
  refine gMi_of (cc := cX1_sizeOf) (maxL := 4) (ret := (some .int)) (by decide) rfl (Nat.le_of_ble_eq_true rfl) ?_
  intro p e s m below meth c A ls E G hl
  obtain ⟨hx, hb, hml, hr, hlocks, hown, hts, -, -⟩ := id E
  have hin : ∀ w ∈ wsX10, w ∈ wsX1_sizeOf := fun w h => List.mem_cons_of_mem _ (List.mem_append_right _ h)
  have hl : lv_has ls 4 [(0, .ref m0), (1, .int a0)] := hl
  have loop : ∀ (n : Nat) (t : Int32) (k : Int32) (H : Heap) (locs : List Loc) (ls : Array Slot), (μ.2.1.toInt - k.toInt).toNat < n → z_szL μ a0 n t k = z_size μ a0 → 0 ≤ k.toInt → gG D vwCl [(cI, .int), (cZ, .boolean)] A s (mw m0 o0 k0 t0 cI cZ μ) H locs → lv_has ls 4 [(0, .ref m0), (1, .int a0), (2, .int t), (3, .int k)] → W p l e ({ frames := 0, cells := 0, slots := 0, locals := 0 }) s m [.ref m0, .int a0].toArray below meth c H locs 0 0 (MQ below (va_Qi (fun r μ' => z_size μ a0 = r ∧ μ = μ') (gB D vwCl [(cI, .int), (cZ, .boolean)] A (mw m0 o0 k0 t0 cI cZ)) A) [.ref m0, .int a0].toArray s 0 0 A) (F0 m 4 ls []) := by
    intro n
    induction n with
    | zero => intro t k H locs ls hm9; exact absurd hm9 (Nat.not_lt_zero _)
    | succ n ih =>
      intro t k H locs ls hm9 hinv hx0 G hl
      refine lv_iload_n hx hb dX1_sizeOf_4 rfl (lv_at hl 3 rfl) ?_
      refine lv_aload_n hx hb dX1_sizeOf_5 rfl (lv_at hl 0 rfl) ?_
      refine g_get (C := RX1) (T := TX1) (N := 5) (ci := 1) (v := .int μ.2.1) hx hb hts hin hown G 0 rfl rfl 1 (by decide) (hts (.fieldLink RX1 24 "SkewMeldsModel" "used" "I") (by decide +kernel)) rfl rfl dX1_sizeOf_6 ?_
      refine lv_icmp_ge (tgt := 36) hx hb dX1_sizeOf_9 (by decide) (fun c_1 => ?_) (fun c_1 => ?_)
      · refine lv_iload_n hx hb dX1_sizeOf_36 rfl (lv_at hl 2 rfl) ?_
        exact g_iret (u := μ) E G (⟨by rw [← hinv]; (simp only [z_szL, c_1, ↓reduceIte]) <;> rfl, rfl⟩) dX1_sizeOf_37
      · refine lv_iload_n hx hb dX1_sizeOf_12 rfl (lv_at hl 2 rfl) ?_
        refine lv_aload_n hx hb dX1_sizeOf_13 rfl (lv_at hl 0 rfl) ?_
        refine g_get (C := RX1) (T := TX1) (N := 5) (ci := 1) (v := .ref o0) hx hb hts hin hown G 0 rfl rfl 2 (by decide) (hts (.fieldLink RX1 7 "SkewMeldsModel" "owners" "[I") (by decide +kernel)) rfl rfl dX1_sizeOf_14 ?_
        refine lv_iload_n hx hb dX1_sizeOf_17 rfl (lv_at hl 3 rfl) ?_
        refine g_ild hx hb G 1 0 rfl rfl (m_inb hm hx0 c_1) dX1_sizeOf_18 ?_
        refine lv_iload_n hx hb dX1_sizeOf_19 rfl (lv_at hl 1 rfl) ?_
        refine lv_icmp_ne (tgt := 27) hx hb dX1_sizeOf_20 (by decide) (fun c_2 => ?_) (fun c_2 => ?_)
        · refine lv_iconst (v := 0) hx hb dX1_sizeOf_27 (by decide) ?_
          refine lv_iadd hx hb dX1_sizeOf_28 ?_
          refine lv_topi (fun v_3 ev_3 => ?_)
          refine lv_istore_n (lv' := [(2, .int v_3), (0, .ref m0), (1, .int a0), (3, .int k)]) hx hb dX1_sizeOf_29 rfl hl (by decide) rfl (fun ls hl => ?_)
          obtain ⟨v_4, ev_4⟩ : ∃ y : Int32, y = k + 1 := ⟨_, rfl⟩
          refine lv_iinc (v := v_4) (lv' := [(3, .int v_4), (2, .int v_3), (0, .ref m0), (1, .int a0)]) hx hb dX1_sizeOf_30 hl (k := 3) rfl (by rw [ev_4]; rfl) (by decide) rfl (fun ls hl => ?_)
          refine lv_goto (tgt := 4) hx hb dX1_sizeOf_33 (by decide) ?_
          exact ih  v_3 v_4 _ _ _ (by subst ev_4; subst ev_3; exact Nat.lt_of_lt_of_le (x_meas c_1) (Nat.le_of_lt_succ hm9)) (by subst ev_4; subst ev_3; rw [← hinv]; (simp only [z_szL, c_1, c_2, ↓reduceIte]) <;> rfl) (by subst ev_4; subst ev_3; exact m_nn hx0 c_1) G (lv_sub hl [2, 3, 1, 0] rfl)
        · refine lv_iconst (v := 1) hx hb dX1_sizeOf_23 (by decide) ?_
          refine lv_goto (tgt := 28) hx hb dX1_sizeOf_24 (by decide) ?_
          refine lv_iadd hx hb dX1_sizeOf_28 ?_
          refine lv_topi (fun v_5 ev_5 => ?_)
          refine lv_istore_n (lv' := [(2, .int v_5), (0, .ref m0), (1, .int a0), (3, .int k)]) hx hb dX1_sizeOf_29 rfl hl (by decide) rfl (fun ls hl => ?_)
          obtain ⟨v_6, ev_6⟩ : ∃ y : Int32, y = k + 1 := ⟨_, rfl⟩
          refine lv_iinc (v := v_6) (lv' := [(3, .int v_6), (2, .int v_5), (0, .ref m0), (1, .int a0)]) hx hb dX1_sizeOf_30 hl (k := 3) rfl (by rw [ev_6]; rfl) (by decide) rfl (fun ls hl => ?_)
          refine lv_goto (tgt := 4) hx hb dX1_sizeOf_33 (by decide) ?_
          exact ih  v_5 v_6 _ _ _ (by subst ev_6; subst ev_5; exact Nat.lt_of_lt_of_le (x_meas c_1) (Nat.le_of_lt_succ hm9)) (by subst ev_6; subst ev_5; rw [← hinv]; (simp only [z_szL, c_1, if_pos c_2, ↓reduceIte]) <;> rfl) (by subst ev_6; subst ev_5; exact m_nn hx0 c_1) G (lv_sub hl [2, 3, 1, 0] rfl)
  refine lv_iconst (v := 0) hx hb dX1_sizeOf_0 (by decide) ?_
  refine lv_istore_n (lv' := [(2, .int 0), (0, .ref m0), (1, .int a0)]) hx hb dX1_sizeOf_1 rfl hl (by decide) rfl (fun ls hl => ?_)
  refine lv_iconst (v := 0) hx hb dX1_sizeOf_2 (by decide) ?_
  refine lv_istore_n (lv' := [(3, .int 0), (2, .int 0), (0, .ref m0), (1, .int a0)]) hx hb dX1_sizeOf_3 rfl hl (by decide) rfl (fun ls hl => ?_)
  exact loop (μ.2.1.toInt.toNat + 1)  0 0 _ _ _ (x_meas0) (by (simp only [z_size, ↓reduceIte]) <;> rfl) (by decide) G (lv_sub hl [2, 3, 1, 0] rfl)

set_option maxHeartbeats 4000000 in
set_option maxRecDepth 100000 in
theorem kX1_add (l : Launch) (D : va_G) (m0 o0 k0 t0 : Nat) (cI cZ : ClassId) (μ : Sm) (a0 : Int32) (a1 : Int32) (hm : Mok μ) : gMi l yX1_add wsX1_add ({ frames := 1, cells := 0, slots := 0, locals := 23 }) D vwCl [(cI, .int), (cZ, .boolean)] [.ref m0, .int a0, .int a1] (mw m0 o0 k0 t0 cI cZ) μ (fun r μ' => z_add μ a0 a1 = (r, μ')) := by
  refine gMi_of (cc := cX1_add) (maxL := 3) (ret := (some .int)) (by decide) rfl (Nat.le_of_ble_eq_true rfl) ?_
  intro p e s m below meth c A ls E G hl
  obtain ⟨hx, hb, hml, hr, hlocks, hown, hts, -, -⟩ := id E
  have hin : ∀ w ∈ wsX10, w ∈ wsX1_add := fun w h => List.mem_cons_of_mem _ (List.mem_append_right _ h)
  have hl : lv_has ls 3 [(0, .ref m0), (1, .int a0), (2, .int a1)] := hl
  refine lv_aload_n hx hb dX1_add_0 rfl (lv_at hl 0 rfl) ?_
  refine lv_iload_n hx hb dX1_add_1 rfl (lv_at hl 1 rfl) ?_
  refine m_calli (As := [.int a0]) (rest := []) ⟨hx, hb, hml, hown, hts⟩ (kX1_isHeap l D m0 o0 k0 t0 cI cZ μ a0) (cwV 1 hts gX1_add_X1_isHeap rfl rfl rfl (by decide +kernel) ⟨Nat.le_of_ble_eq_true rfl, Nat.le_of_ble_eq_true rfl⟩) G rfl hl.1 rfl (Nat.le_of_ble_eq_true rfl) dX1_add_2 ⟨Nat.zero_le _, Nat.zero_le _⟩ (fun r_1 σ_2 H locs e_3 G => ?_)
  obtain ⟨rfl, rfl⟩ := e_3
  refine lv_if_ne (tgt := 10) hx hb dX1_add_5 (by decide) (fun c_4 => ?_) (fun c_4 => ?_)
  · refine lv_aload_n hx hb dX1_add_10 rfl (lv_at hl 0 rfl) ?_
    refine g_get (C := RX1) (T := TX1) (N := 5) (ci := 1) (v := .int μ.2.1) hx hb hts hin hown G 0 rfl rfl 1 (by decide) (hts (.fieldLink RX1 24 "SkewMeldsModel" "used" "I") (by decide +kernel)) rfl rfl dX1_add_11 ?_
    refine lv_sipush (v := 200) hx hb dX1_add_14 (by decide) ?_
    refine lv_icmp_ne (tgt := 23) hx hb dX1_add_17 (by decide) (fun c_5 => ?_) (fun c_5 => ?_)
    · refine lv_aload_n hx hb dX1_add_23 rfl (lv_at hl 0 rfl) ?_
      refine g_get (C := RX1) (T := TX1) (N := 5) (ci := 1) (v := .ref o0) hx hb hts hin hown G 0 rfl rfl 2 (by decide) (hts (.fieldLink RX1 7 "SkewMeldsModel" "owners" "[I") (by decide +kernel)) rfl rfl dX1_add_24 ?_
      refine lv_aload_n hx hb dX1_add_27 rfl (lv_at hl 0 rfl) ?_
      refine g_get (C := RX1) (T := TX1) (N := 5) (ci := 1) (v := .int μ.2.1) hx hb hts hin hown G 0 rfl rfl 1 (by decide) (hts (.fieldLink RX1 24 "SkewMeldsModel" "used" "I") (by decide +kernel)) rfl rfl dX1_add_28 ?_
      refine lv_iload_n hx hb dX1_add_31 rfl (lv_at hl 1 rfl) ?_
      refine g_ist hx hb G 1 0 rfl rfl ((m_add hm c_5).1) (mw m0 o0 k0 t0 cI cZ (z_sO μ μ.2.1 a0)) rfl dX1_add_32 (fun H locs G => ?_)
      refine lv_aload_n hx hb dX1_add_33 rfl (lv_at hl 0 rfl) ?_
      refine g_get (C := RX1) (T := TX1) (N := 5) (ci := 1) (v := .ref k0) hx hb hts hin hown G 0 rfl rfl 3 (by decide) (hts (.fieldLink RX1 13 "SkewMeldsModel" "keys" "[I") (by decide +kernel)) rfl rfl dX1_add_34 ?_
      refine lv_aload_n hx hb dX1_add_37 rfl (lv_at hl 0 rfl) ?_
      refine g_get (C := RX1) (T := TX1) (N := 5) (ci := 1) (v := .int (z_sO μ μ.2.1 a0).2.1) hx hb hts hin hown G 0 rfl rfl 1 (by decide) (hts (.fieldLink RX1 24 "SkewMeldsModel" "used" "I") (by decide +kernel)) rfl rfl dX1_add_38 ?_
      refine lv_iload_n hx hb dX1_add_41 rfl (lv_at hl 2 rfl) ?_
      refine g_ist hx hb G 2 0 rfl rfl ((m_add hm c_5).1) (mw m0 o0 k0 t0 cI cZ (z_sK (z_sO μ μ.2.1 a0) ((z_sO μ μ.2.1 a0).2.1) a1)) rfl dX1_add_42 (fun H locs G => ?_)
      refine lv_aload_n hx hb dX1_add_43 rfl (lv_at hl 0 rfl) ?_
      refine lv_dup hx hb dX1_add_44 rfl ?_
      refine g_get (C := RX1) (T := TX1) (N := 5) (ci := 1) (v := .int (z_sK (z_sO μ μ.2.1 a0) ((z_sO μ μ.2.1 a0).2.1) a1).2.1) hx hb hts hin hown G 0 rfl rfl 1 (by decide) (hts (.fieldLink RX1 24 "SkewMeldsModel" "used" "I") (by decide +kernel)) rfl rfl dX1_add_45 ?_
      refine lv_iconst (v := 1) hx hb dX1_add_48 (by decide) ?_
      refine lv_iadd hx hb dX1_add_49 ?_
      refine g_put (C := RX1) (T := TX1) (N := 5) (ci := 1) (v := .int ((z_sK (z_sO μ μ.2.1 a0) ((z_sO μ μ.2.1 a0).2.1) a1).2.1 + 1)) (ty := .int) hx hb hts hin tyX1 tyX1_ok nmX1 hown G 0 rfl rfl 1 (by decide) (hts (.fieldLink RX1 24 "SkewMeldsModel" "used" "I") (by decide +kernel)) rfl rfl (by decide +kernel) rfl rfl (Nat.le_of_ble_eq_true rfl) (mw m0 o0 k0 t0 cI cZ (z_sU (z_sK (z_sO μ μ.2.1 a0) ((z_sO μ μ.2.1 a0).2.1) a1) ((z_sK (z_sO μ μ.2.1 a0) ((z_sO μ μ.2.1 a0).2.1) a1).2.1 + 1))) rfl dX1_add_50 (fun H locs G => ?_)
      refine lv_aload_n hx hb dX1_add_53 rfl (lv_at hl 0 rfl) ?_
      refine lv_iload_n hx hb dX1_add_54 rfl (lv_at hl 1 rfl) ?_
      refine m_calli (As := [.int a0]) (rest := []) ⟨hx, hb, hml, hown, hts⟩ (kX1_sizeOf l D m0 o0 k0 t0 cI cZ (z_sU (z_sK (z_sO μ μ.2.1 a0) ((z_sO μ μ.2.1 a0).2.1) a1) ((z_sK (z_sO μ μ.2.1 a0) ((z_sO μ μ.2.1 a0).2.1) a1).2.1 + 1)) a0 (m_add1 hm c_5 rfl)) (cwV 1 hts gX1_add_X1_sizeOf rfl rfl rfl (by decide +kernel) ⟨Nat.le_of_ble_eq_true rfl, Nat.le_of_ble_eq_true rfl⟩) G rfl hl.1 rfl (Nat.le_of_ble_eq_true rfl) dX1_add_55 ⟨Nat.zero_le _, Nat.zero_le _⟩ (fun r_6 σ_7 H locs e_8 G => ?_)
      obtain ⟨rfl, rfl⟩ := e_8
      exact g_iret (u := (z_sU (z_sK (z_sO μ μ.2.1 a0) ((z_sO μ μ.2.1 a0).2.1) a1) ((z_sK (z_sO μ μ.2.1 a0) ((z_sO μ μ.2.1 a0).2.1) a1).2.1 + 1))) E G (by (simp only [z_add, c_4, c_5, ↓reduceIte]) <;> rfl) dX1_add_58
    · refine lv_bipush (v := (-2)) hx hb dX1_add_20 (by decide) ?_
      exact g_iret (u := μ) E G (by (simp only [z_add, c_4, c_5, ↓reduceIte]) <;> rfl) dX1_add_22
  · refine lv_iconst (v := (-1)) hx hb dX1_add_8 (by decide) ?_
    exact g_iret (u := μ) E G (by (simp only [z_add, c_4, ↓reduceIte]) <;> rfl) dX1_add_9

set_option maxHeartbeats 4000000 in
set_option maxRecDepth 100000 in
theorem kX1_placeOf (l : Launch) (D : va_G) (m0 o0 k0 t0 : Nat) (cI cZ : ClassId) (μ : Sm) (a0 : Int32) (hm : Mok μ) : gMi l yX1_placeOf wsX1_placeOf ({ frames := 0, cells := 0, slots := 0, locals := 0 }) D vwCl [(cI, .int), (cZ, .boolean)] [.ref m0, .int a0] (mw m0 o0 k0 t0 cI cZ) μ (fun r μ' => z_place μ a0 = r ∧ μ = μ') := by
  refine gMi_of (cc := cX1_placeOf) (maxL := 4) (ret := (some .int)) (by decide) rfl (Nat.le_of_ble_eq_true rfl) ?_
  intro p e s m below meth c A ls E G hl
  obtain ⟨hx, hb, hml, hr, hlocks, hown, hts, -, -⟩ := id E
  have hin : ∀ w ∈ wsX10, w ∈ wsX1_placeOf := fun w h => List.mem_cons_of_mem _ (List.mem_append_right _ h)
  have hl : lv_has ls 4 [(0, .ref m0), (1, .int a0)] := hl
  have loop : ∀ (n : Nat) (t : Int32) (k : Int32) (H : Heap) (locs : List Loc) (ls : Array Slot), (μ.2.1.toInt - k.toInt).toNat < n → z_plL μ a0 n t k = z_place μ a0 → 0 ≤ k.toInt → t.toInt < μ.2.1.toInt ∨ t.toInt < 0 → gG D vwCl [(cI, .int), (cZ, .boolean)] A s (mw m0 o0 k0 t0 cI cZ μ) H locs → lv_has ls 4 [(0, .ref m0), (1, .int a0), (2, .int t), (3, .int k)] → W p l e ({ frames := 0, cells := 0, slots := 0, locals := 0 }) s m [.ref m0, .int a0].toArray below meth c H locs 0 0 (MQ below (va_Qi (fun r μ' => z_place μ a0 = r ∧ μ = μ') (gB D vwCl [(cI, .int), (cZ, .boolean)] A (mw m0 o0 k0 t0 cI cZ)) A) [.ref m0, .int a0].toArray s 0 0 A) (F0 m 4 ls []) := by
    intro n
    induction n with
    | zero => intro t k H locs ls hm9; exact absurd hm9 (Nat.not_lt_zero _)
    | succ n ih =>
      intro t k H locs ls hm9 hinv hx0 hx1 G hl
      refine lv_iload_n hx hb dX1_placeOf_4 rfl (lv_at hl 3 rfl) ?_
      refine lv_aload_n hx hb dX1_placeOf_5 rfl (lv_at hl 0 rfl) ?_
      refine g_get (C := RX1) (T := TX1) (N := 5) (ci := 1) (v := .int μ.2.1) hx hb hts hin hown G 0 rfl rfl 1 (by decide) (hts (.fieldLink RX1 24 "SkewMeldsModel" "used" "I") (by decide +kernel)) rfl rfl dX1_placeOf_6 ?_
      refine lv_icmp_ge (tgt := 62) hx hb dX1_placeOf_9 (by decide) (fun c_1 => ?_) (fun c_1 => ?_)
      · refine lv_iload_n hx hb dX1_placeOf_62 rfl (lv_at hl 2 rfl) ?_
        exact g_iret (u := μ) E G (⟨by rw [← hinv]; (simp only [z_plL, c_1, ↓reduceIte]) <;> rfl, rfl⟩) dX1_placeOf_63
      · refine lv_aload_n hx hb dX1_placeOf_12 rfl (lv_at hl 0 rfl) ?_
        refine g_get (C := RX1) (T := TX1) (N := 5) (ci := 1) (v := .ref o0) hx hb hts hin hown G 0 rfl rfl 2 (by decide) (hts (.fieldLink RX1 7 "SkewMeldsModel" "owners" "[I") (by decide +kernel)) rfl rfl dX1_placeOf_13 ?_
        refine lv_iload_n hx hb dX1_placeOf_16 rfl (lv_at hl 3 rfl) ?_
        refine g_ild hx hb G 1 0 rfl rfl (m_inb hm hx0 c_1) dX1_placeOf_17 ?_
        refine lv_iload_n hx hb dX1_placeOf_18 rfl (lv_at hl 1 rfl) ?_
        refine lv_icmp_ne (tgt := 54) hx hb dX1_placeOf_19 (by decide) (fun c_2 => ?_) (fun c_2 => ?_)
        · refine lv_iload_n hx hb dX1_placeOf_54 rfl (lv_at hl 2 rfl) ?_
          refine lv_istore_n (lv' := [(2, .int t), (0, .ref m0), (1, .int a0), (3, .int k)]) hx hb dX1_placeOf_55 rfl hl (by decide) rfl (fun ls hl => ?_)
          obtain ⟨v_3, ev_3⟩ : ∃ y : Int32, y = k + 1 := ⟨_, rfl⟩
          refine lv_iinc (v := v_3) (lv' := [(3, .int v_3), (2, .int t), (0, .ref m0), (1, .int a0)]) hx hb dX1_placeOf_56 hl (k := 3) rfl (by rw [ev_3]; rfl) (by decide) rfl (fun ls hl => ?_)
          refine lv_goto (tgt := 4) hx hb dX1_placeOf_59 (by decide) ?_
          exact ih  t v_3 _ _ _ (by subst ev_3; exact Nat.lt_of_lt_of_le (x_meas c_1) (Nat.le_of_lt_succ hm9)) (by subst ev_3; rw [← hinv]; (simp only [z_plL, c_1, c_2, ↓reduceIte]) <;> rfl) (by subst ev_3; exact m_nn hx0 c_1) (by subst ev_3; first | exact hx1 | exact Or.inl (m_lt c_1)) G (lv_sub hl [2, 3, 1, 0] rfl)
        · refine lv_aload_n hx hb dX1_placeOf_22 rfl (lv_at hl 0 rfl) ?_
          refine g_get (C := RX1) (T := TX1) (N := 5) (ci := 1) (v := .ref t0) hx hb hts hin hown G 0 rfl rfl 4 (by decide) (hts (.fieldLink RX1 16 "SkewMeldsModel" "told" "[Z") (by decide +kernel)) rfl rfl dX1_placeOf_23 ?_
          refine lv_iload_n hx hb dX1_placeOf_26 rfl (lv_at hl 3 rfl) ?_
          refine g_zld hx hb G 3 1 rfl rfl (m_inb hm hx0 c_1) dX1_placeOf_27 ?_
          refine lv_if_ne (tgt := 54) hx hb dX1_placeOf_28 (by decide) (fun c_4 => ?_) (fun c_4 => ?_)
          · refine lv_iload_n hx hb dX1_placeOf_54 rfl (lv_at hl 2 rfl) ?_
            refine lv_istore_n (lv' := [(2, .int t), (0, .ref m0), (1, .int a0), (3, .int k)]) hx hb dX1_placeOf_55 rfl hl (by decide) rfl (fun ls hl => ?_)
            obtain ⟨v_5, ev_5⟩ : ∃ y : Int32, y = k + 1 := ⟨_, rfl⟩
            refine lv_iinc (v := v_5) (lv' := [(3, .int v_5), (2, .int t), (0, .ref m0), (1, .int a0)]) hx hb dX1_placeOf_56 hl (k := 3) rfl (by rw [ev_5]; rfl) (by decide) rfl (fun ls hl => ?_)
            refine lv_goto (tgt := 4) hx hb dX1_placeOf_59 (by decide) ?_
            exact ih  t v_5 _ _ _ (by subst ev_5; exact Nat.lt_of_lt_of_le (x_meas c_1) (Nat.le_of_lt_succ hm9)) (by subst ev_5; rw [← hinv]; (simp only [z_plL, c_1, if_pos c_2, c_4, ↓reduceIte]) <;> rfl) (by subst ev_5; exact m_nn hx0 c_1) (by subst ev_5; first | exact hx1 | exact Or.inl (m_lt c_1)) G (lv_sub hl [2, 3, 1, 0] rfl)
          · refine lv_iload_n hx hb dX1_placeOf_31 rfl (lv_at hl 2 rfl) ?_
            refine lv_if_lt (tgt := 50) hx hb dX1_placeOf_32 (by decide) (fun c_6 => ?_) (fun c_6 => ?_)
            · refine lv_iload_n hx hb dX1_placeOf_50 rfl (lv_at hl 3 rfl) ?_
              refine lv_goto (tgt := 55) hx hb dX1_placeOf_51 (by decide) ?_
              refine lv_istore_n (lv' := [(2, .int k), (0, .ref m0), (1, .int a0), (3, .int k)]) hx hb dX1_placeOf_55 rfl hl (by decide) rfl (fun ls hl => ?_)
              obtain ⟨v_7, ev_7⟩ : ∃ y : Int32, y = k + 1 := ⟨_, rfl⟩
              refine lv_iinc (v := v_7) (lv' := [(3, .int v_7), (2, .int k), (0, .ref m0), (1, .int a0)]) hx hb dX1_placeOf_56 hl (k := 3) rfl (by rw [ev_7]; rfl) (by decide) rfl (fun ls hl => ?_)
              refine lv_goto (tgt := 4) hx hb dX1_placeOf_59 (by decide) ?_
              exact ih  k v_7 _ _ _ (by subst ev_7; exact Nat.lt_of_lt_of_le (x_meas c_1) (Nat.le_of_lt_succ hm9)) (by subst ev_7; rw [← hinv]; (simp only [z_plL, c_1, if_pos c_2, c_4, c_6, ↓reduceIte]) <;> rfl) (by subst ev_7; exact m_nn hx0 c_1) (by subst ev_7; first | exact hx1 | exact Or.inl (m_lt c_1)) G (lv_sub hl [2, 3, 1, 0] rfl)
            · refine lv_aload_n hx hb dX1_placeOf_35 rfl (lv_at hl 0 rfl) ?_
              refine g_get (C := RX1) (T := TX1) (N := 5) (ci := 1) (v := .ref k0) hx hb hts hin hown G 0 rfl rfl 3 (by decide) (hts (.fieldLink RX1 13 "SkewMeldsModel" "keys" "[I") (by decide +kernel)) rfl rfl dX1_placeOf_36 ?_
              refine lv_iload_n hx hb dX1_placeOf_39 rfl (lv_at hl 3 rfl) ?_
              refine g_ild hx hb G 2 0 rfl rfl (m_inb hm hx0 c_1) dX1_placeOf_40 ?_
              refine lv_aload_n hx hb dX1_placeOf_41 rfl (lv_at hl 0 rfl) ?_
              refine g_get (C := RX1) (T := TX1) (N := 5) (ci := 1) (v := .ref k0) hx hb hts hin hown G 0 rfl rfl 3 (by decide) (hts (.fieldLink RX1 13 "SkewMeldsModel" "keys" "[I") (by decide +kernel)) rfl rfl dX1_placeOf_42 ?_
              refine lv_iload_n hx hb dX1_placeOf_45 rfl (lv_at hl 2 rfl) ?_
              refine g_ild hx hb G 2 0 rfl rfl (m_best hm hx1 c_6) dX1_placeOf_46 ?_
              refine lv_icmp_ge (tgt := 54) hx hb dX1_placeOf_47 (by decide) (fun c_8 => ?_) (fun c_8 => ?_)
              · refine lv_iload_n hx hb dX1_placeOf_54 rfl (lv_at hl 2 rfl) ?_
                refine lv_istore_n (lv' := [(2, .int t), (0, .ref m0), (1, .int a0), (3, .int k)]) hx hb dX1_placeOf_55 rfl hl (by decide) rfl (fun ls hl => ?_)
                obtain ⟨v_9, ev_9⟩ : ∃ y : Int32, y = k + 1 := ⟨_, rfl⟩
                refine lv_iinc (v := v_9) (lv' := [(3, .int v_9), (2, .int t), (0, .ref m0), (1, .int a0)]) hx hb dX1_placeOf_56 hl (k := 3) rfl (by rw [ev_9]; rfl) (by decide) rfl (fun ls hl => ?_)
                refine lv_goto (tgt := 4) hx hb dX1_placeOf_59 (by decide) ?_
                exact ih  t v_9 _ _ _ (by subst ev_9; exact Nat.lt_of_lt_of_le (x_meas c_1) (Nat.le_of_lt_succ hm9)) (by subst ev_9; rw [← hinv]; (simp only [z_plL, c_1, if_pos c_2, c_4, c_6, c_8, ↓reduceIte]) <;> rfl) (by subst ev_9; exact m_nn hx0 c_1) (by subst ev_9; first | exact hx1 | exact Or.inl (m_lt c_1)) G (lv_sub hl [2, 3, 1, 0] rfl)
              · refine lv_iload_n hx hb dX1_placeOf_50 rfl (lv_at hl 3 rfl) ?_
                refine lv_goto (tgt := 55) hx hb dX1_placeOf_51 (by decide) ?_
                refine lv_istore_n (lv' := [(2, .int k), (0, .ref m0), (1, .int a0), (3, .int k)]) hx hb dX1_placeOf_55 rfl hl (by decide) rfl (fun ls hl => ?_)
                obtain ⟨v_10, ev_10⟩ : ∃ y : Int32, y = k + 1 := ⟨_, rfl⟩
                refine lv_iinc (v := v_10) (lv' := [(3, .int v_10), (2, .int k), (0, .ref m0), (1, .int a0)]) hx hb dX1_placeOf_56 hl (k := 3) rfl (by rw [ev_10]; rfl) (by decide) rfl (fun ls hl => ?_)
                refine lv_goto (tgt := 4) hx hb dX1_placeOf_59 (by decide) ?_
                exact ih  k v_10 _ _ _ (by subst ev_10; exact Nat.lt_of_lt_of_le (x_meas c_1) (Nat.le_of_lt_succ hm9)) (by subst ev_10; rw [← hinv]; (simp only [z_plL, c_1, if_pos c_2, c_4, c_6, c_8, ↓reduceIte]) <;> rfl) (by subst ev_10; exact m_nn hx0 c_1) (by subst ev_10; first | exact hx1 | exact Or.inl (m_lt c_1)) G (lv_sub hl [2, 3, 1, 0] rfl)
  refine lv_iconst (v := (-1)) hx hb dX1_placeOf_0 (by decide) ?_
  refine lv_istore_n (lv' := [(2, .int (-1)), (0, .ref m0), (1, .int a0)]) hx hb dX1_placeOf_1 rfl hl (by decide) rfl (fun ls hl => ?_)
  refine lv_iconst (v := 0) hx hb dX1_placeOf_2 (by decide) ?_
  refine lv_istore_n (lv' := [(3, .int 0), (2, .int (-1)), (0, .ref m0), (1, .int a0)]) hx hb dX1_placeOf_3 rfl hl (by decide) rfl (fun ls hl => ?_)
  exact loop (μ.2.1.toInt.toNat + 1)  (-1) 0 _ _ _ (x_meas0) (by (simp only [z_place, ↓reduceIte]) <;> rfl) (by decide) (Or.inr (by decide)) G (lv_sub hl [2, 3, 1, 0] rfl)

set_option maxHeartbeats 4000000 in
set_option maxRecDepth 100000 in
theorem kX1_untell (l : Launch) (D : va_G) (m0 o0 k0 t0 : Nat) (cI cZ : ClassId) (μ : Sm) : gMv l yX1_untell wsX1_untell ({ frames := 0, cells := 0, slots := 0, locals := 0 }) D vwCl [(cI, .int), (cZ, .boolean)] [.ref m0] (mw m0 o0 k0 t0 cI cZ) μ (fun μ' => z_untell μ = μ') := by
  refine gMv_of (cc := cX1_untell) (maxL := 2) (ret := none) (by decide) rfl (Nat.le_of_ble_eq_true rfl) ?_
  intro p e s m below meth c A ls E G hl
  obtain ⟨hx, hb, hml, hr, hlocks, hown, hts, -, -⟩ := id E
  have hin : ∀ w ∈ wsX10, w ∈ wsX1_untell := fun w h => List.mem_cons_of_mem _ (List.mem_append_right _ h)
  have hl : lv_has ls 2 [(0, .ref m0)] := hl
  have loop : ∀ (n : Nat) (μ1 : Sm) (k : Int32) (H : Heap) (locs : List Loc) (ls : Array Slot), ((200 : Int32).toInt - k.toInt).toNat < n → z_unL n μ1 k = z_untell μ → 0 ≤ k.toInt → gG D vwCl [(cI, .int), (cZ, .boolean)] A s (mw m0 o0 k0 t0 cI cZ μ1) H locs → lv_has ls 2 [(0, .ref m0), (1, .int k)] → W p l e ({ frames := 0, cells := 0, slots := 0, locals := 0 }) s m [.ref m0].toArray below meth c H locs 0 0 (MQ below (va_Qv (fun μ' => z_untell μ = μ') (gB D vwCl [(cI, .int), (cZ, .boolean)] A (mw m0 o0 k0 t0 cI cZ)) A) [.ref m0].toArray s 0 0 A) (F0 m 2 ls []) := by
    intro n
    induction n with
    | zero => intro μ1 k H locs ls hm9; exact absurd hm9 (Nat.not_lt_zero _)
    | succ n ih =>
      intro μ1 k H locs ls hm9 hinv hx0 G hl
      refine lv_iload_n hx hb dX1_untell_2 rfl (lv_at hl 1 rfl) ?_
      refine lv_sipush (v := 200) hx hb dX1_untell_3 (by decide) ?_
      refine lv_icmp_ge (tgt := 22) hx hb dX1_untell_6 (by decide) (fun c_1 => ?_) (fun c_1 => ?_)
      · exact g_vret (u := μ1) E G (by rw [← hinv]; (simp only [z_unL, c_1, ↓reduceIte]) <;> rfl) dX1_untell_22
      · refine lv_aload_n hx hb dX1_untell_9 rfl (lv_at hl 0 rfl) ?_
        refine g_get (C := RX1) (T := TX1) (N := 5) (ci := 1) (v := .ref t0) hx hb hts hin hown G 0 rfl rfl 4 (by decide) (hts (.fieldLink RX1 16 "SkewMeldsModel" "told" "[Z") (by decide +kernel)) rfl rfl dX1_untell_10 ?_
        refine lv_iload_n hx hb dX1_untell_13 rfl (lv_at hl 1 rfl) ?_
        refine lv_iconst (v := 0) hx hb dX1_untell_14 (by decide) ?_
        refine g_zst hx hb G 3 1 rfl rfl (m_in200 hx0 c_1) (mw m0 o0 k0 t0 cI cZ (z_sT μ1 k 0)) rfl dX1_untell_15 (fun H locs G => ?_)
        obtain ⟨v_2, ev_2⟩ : ∃ y : Int32, y = k + 1 := ⟨_, rfl⟩
        refine lv_iinc (v := v_2) (lv' := [(1, .int v_2), (0, .ref m0)]) hx hb dX1_untell_16 hl (k := 1) rfl (by rw [ev_2]; rfl) (by decide) rfl (fun ls hl => ?_)
        refine lv_goto (tgt := 2) hx hb dX1_untell_19 (by decide) ?_
        exact ih (z_sT μ1 k 0) v_2 _ _ _ (by subst ev_2; exact Nat.lt_of_lt_of_le (x_meas c_1) (Nat.le_of_lt_succ hm9)) (by subst ev_2; rw [← hinv]; (simp only [z_unL, c_1, ↓reduceIte]) <;> rfl) (by subst ev_2; exact m_nn hx0 c_1) G (lv_sub hl [1, 0] rfl)
  refine lv_iconst (v := 0) hx hb dX1_untell_0 (by decide) ?_
  refine lv_istore_n (lv' := [(1, .int 0), (0, .ref m0)]) hx hb dX1_untell_1 rfl hl (by decide) rfl (fun ls hl => ?_)
  exact loop (201) μ 0 _ _ _ (by decide) (by (simp only [z_untell, ↓reduceIte]) <;> rfl) (by decide) G (lv_sub hl [1, 0] rfl)
