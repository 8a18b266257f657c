set_option maxHeartbeats 4000000 in
set_option maxRecDepth 100000 in
theorem kX1_least (l : Launch) (D : va_G) (m0 o0 k0 t0 : Nat) (cI cZ : ClassId) (μ : Sm) (a0 : Int32) (hm : Mok μ) : gMl l yX1_least wsX1_least ({ frames := 1, cells := 0, slots := 0, locals := 23 }) D vwCl [(cI, .int), (cZ, .boolean)] [.ref m0, .int a0] (mw m0 o0 k0 t0 cI cZ) μ (fun r μ' => z_least μ a0 = (r, μ')) := by
  refine gMl_of (cc := cX1_least) (maxL := 3) (ret := (some .long)) (by decide) rfl (Nat.le_of_ble_eq_true rfl) ?_
  intro p e s m below meth c A ls E G hl
  obtain ⟨hx, hb, hml, hr, hlocks, hown, hts, -, -⟩ := id E
  have hin : ∀ w ∈ wsX10, w ∈ wsX1_least := fun w h => List.mem_cons_of_mem _ (List.mem_append_right _ h)
  have hl : lv_has ls 3 [(0, .ref m0), (1, .int a0)] := hl
  refine lv_aload_n hx hb dX1_least_0 rfl (lv_at hl 0 rfl) ?_
  refine m_callv (As := []) (rest := []) ⟨hx, hb, hml, hown, hts⟩ (kX1_untell l D m0 o0 k0 t0 cI cZ μ) (cwV 0 hts gX1_least_X1_untell rfl rfl rfl (by decide +kernel) ⟨Nat.le_of_ble_eq_true rfl, Nat.le_of_ble_eq_true rfl⟩) G rfl hl.1 rfl (Nat.le_of_ble_eq_true rfl) dX1_least_1 ⟨Nat.zero_le _, Nat.zero_le _⟩ (fun σ_2 H locs e_3 G => ?_)
  refine lv_aload_n hx hb dX1_least_4 rfl (lv_at hl 0 rfl) ?_
  refine lv_iload_n hx hb dX1_least_5 rfl (lv_at hl 1 rfl) ?_
  refine m_calli (As := [.int a0]) (rest := []) ⟨hx, hb, hml, hown, hts⟩ (kX1_isHeap l D m0 o0 k0 t0 cI cZ σ_2 a0) (cwV 1 hts gX1_least_X1_isHeap rfl rfl rfl (by decide +kernel) ⟨Nat.le_of_ble_eq_true rfl, Nat.le_of_ble_eq_true rfl⟩) G rfl hl.1 rfl (Nat.le_of_ble_eq_true rfl) dX1_least_6 ⟨Nat.zero_le _, Nat.zero_le _⟩ (fun r_4 σ_5 H locs e_6 G => ?_)
  obtain ⟨rfl, rfl⟩ := e_6
  refine lv_if_eq (tgt := 20) hx hb dX1_least_9 (by decide) (fun c_7 => ?_) (fun c_7 => ?_)
  · refine lv_iconst (v := (-1)) hx hb dX1_least_20 (by decide) ?_
    refine lv_istore_n (lv' := [(2, .int (-1)), (0, .ref m0), (1, .int a0)]) hx hb dX1_least_21 rfl hl (by decide) rfl (fun ls hl => ?_)
    refine lv_iload_n hx hb dX1_least_22 rfl (lv_at hl 0 rfl) ?_
    refine lv_if_ge (tgt := 32) hx hb dX1_least_23 (by decide) (fun c_8 => ?_) (fun c_8 => ?_)
    · exact absurd c_8 (by decide)
    · refine lv_ldc2 hx hb hown (hts (.constantLong RX1 41 (-9223372036854775808)) (by decide +kernel)) dX1_least_26 ?_
      refine lv_goto (tgt := 39) hx hb dX1_least_29 (by decide) ?_
      exact g_lret (u := σ_2) E G (by (simp only [z_least, e_3, c_7, ↓reduceIte]) <;> rfl) dX1_least_39
  · refine lv_aload_n hx hb dX1_least_12 rfl (lv_at hl 0 rfl) ?_
    refine lv_iload_n hx hb dX1_least_13 rfl (lv_at hl 1 rfl) ?_
    refine m_calli (As := [.int a0]) (rest := []) ⟨hx, hb, hml, hown, hts⟩ (kX1_placeOf l D m0 o0 k0 t0 cI cZ σ_2 a0 (by rw [← e_3]; exact un_ok hm)) (cwV 1 hts gX1_least_X1_placeOf rfl rfl rfl (by decide +kernel) ⟨Nat.le_of_ble_eq_true rfl, Nat.le_of_ble_eq_true rfl⟩) G rfl hl.1 rfl (Nat.le_of_ble_eq_true rfl) dX1_least_14 ⟨Nat.zero_le _, Nat.zero_le _⟩ (fun r_9 σ_10 H locs e_11 G => ?_)
    obtain ⟨rfl, rfl⟩ := e_11
    refine lv_goto (tgt := 21) hx hb dX1_least_17 (by decide) ?_
    refine lv_topi (fun v_12 ev_12 => ?_)
    refine lv_istore_n (lv' := [(2, .int v_12), (0, .ref m0), (1, .int a0)]) hx hb dX1_least_21 rfl hl (by decide) rfl (fun ls hl => ?_)
    refine lv_iload_n hx hb dX1_least_22 rfl (lv_at hl 0 rfl) ?_
    refine lv_if_ge (tgt := 32) hx hb dX1_least_23 (by decide) (fun c_13 => ?_) (fun c_13 => ?_)
    · refine lv_aload_n hx hb dX1_least_32 rfl (lv_at hl 1 rfl) ?_
      refine g_get (C := RX1) (T := TX1) (N := 5) (ci := 1) (v := .ref k0) hx hb hts hin hown G 0 rfl rfl 3 (by decide) (hts (.fieldLink RX1 13 "SkewMeldsModel" "keys" "[I") (by decide +kernel)) rfl rfl dX1_least_33 ?_
      refine lv_iload_n hx hb dX1_least_36 rfl (lv_at hl 0 rfl) ?_
      refine g_ild hx hb G 2 0 rfl rfl (m_pl (by rw [← e_3]; exact un_ok hm) (ev_12) c_13) dX1_least_37 ?_
      refine lv_i2l (v := (σ_2.2.2.2.1 v_12.toNatClampNeg).toInt64) hx hb dX1_least_38 rfl ?_
      exact g_lret (u := σ_2) E G (by subst ev_12; (simp only [z_least, e_3, c_7, c_13, ↓reduceIte]) <;> rfl) dX1_least_39
    · refine lv_ldc2 hx hb hown (hts (.constantLong RX1 41 (-9223372036854775808)) (by decide +kernel)) dX1_least_26 ?_
      refine lv_goto (tgt := 39) hx hb dX1_least_29 (by decide) ?_
      exact g_lret (u := σ_2) E G (by subst ev_12; (simp only [z_least, e_3, c_7, c_13, ↓reduceIte]) <;> rfl) dX1_least_39

set_option maxHeartbeats 4000000 in
set_option maxRecDepth 100000 in
theorem kX1_take (l : Launch) (D : va_G) (m0 o0 k0 t0 : Nat) (cI cZ : ClassId) (μ : Sm) (a0 : Int32) (hm : Mok μ) : gMl l yX1_take wsX1_take ({ frames := 1, cells := 0, slots := 0, locals := 23 }) D vwCl [(cI, .int), (cZ, .boolean)] [.ref m0, .int a0] (mw m0 o0 k0 t0 cI cZ) μ (fun r μ' => z_take μ a0 = (r, μ')) := by
  refine gMl_of (cc := cX1_take) (maxL := 5) (ret := (some .long)) (by decide) rfl (Nat.le_of_ble_eq_true rfl) ?_
  intro p e s m below meth c A ls E G hl
  obtain ⟨hx, hb, hml, hr, hlocks, hown, hts, -, -⟩ := id E
  have hin : ∀ w ∈ wsX10, w ∈ wsX1_take := fun w h => List.mem_cons_of_mem _ (List.mem_append_right _ h)
  have hl : lv_has ls 5 [(0, .ref m0), (1, .int a0)] := hl
  refine lv_aload_n hx hb dX1_take_0 rfl (lv_at hl 0 rfl) ?_
  refine m_callv (As := []) (rest := []) ⟨hx, hb, hml, hown, hts⟩ (kX1_untell l D m0 o0 k0 t0 cI cZ μ) (cwV 0 hts gX1_take_X1_untell rfl rfl rfl (by decide +kernel) ⟨Nat.le_of_ble_eq_true rfl, Nat.le_of_ble_eq_true rfl⟩) G rfl hl.1 rfl (Nat.le_of_ble_eq_true rfl) dX1_take_1 ⟨Nat.zero_le _, Nat.zero_le _⟩ (fun σ_2 H locs e_3 G => ?_)
  refine lv_aload_n hx hb dX1_take_4 rfl (lv_at hl 0 rfl) ?_
  refine lv_iload_n hx hb dX1_take_5 rfl (lv_at hl 1 rfl) ?_
  refine m_calli (As := [.int a0]) (rest := []) ⟨hx, hb, hml, hown, hts⟩ (kX1_isHeap l D m0 o0 k0 t0 cI cZ σ_2 a0) (cwV 1 hts gX1_take_X1_isHeap rfl rfl rfl (by decide +kernel) ⟨Nat.le_of_ble_eq_true rfl, Nat.le_of_ble_eq_true rfl⟩) G rfl hl.1 rfl (Nat.le_of_ble_eq_true rfl) dX1_take_6 ⟨Nat.zero_le _, Nat.zero_le _⟩ (fun r_4 σ_5 H locs e_6 G => ?_)
  obtain ⟨rfl, rfl⟩ := e_6
  refine lv_if_eq (tgt := 20) hx hb dX1_take_9 (by decide) (fun c_7 => ?_) (fun c_7 => ?_)
  · refine lv_iconst (v := (-1)) hx hb dX1_take_20 (by decide) ?_
    refine lv_istore_n (lv' := [(2, .int (-1)), (0, .ref m0), (1, .int a0)]) hx hb dX1_take_21 rfl hl (by decide) rfl (fun ls hl => ?_)
    refine lv_iload_n hx hb dX1_take_22 rfl (lv_at hl 0 rfl) ?_
    refine lv_if_ge (tgt := 30) hx hb dX1_take_23 (by decide) (fun c_8 => ?_) (fun c_8 => ?_)
    · exact absurd c_8 (by decide)
    · refine lv_ldc2 hx hb hown (hts (.constantLong RX1 41 (-9223372036854775808)) (by decide +kernel)) dX1_take_26 ?_
      exact g_lret (u := σ_2) E G (by (simp only [z_take, e_3, c_7, ↓reduceIte]) <;> rfl) dX1_take_29
  · refine lv_aload_n hx hb dX1_take_12 rfl (lv_at hl 0 rfl) ?_
    refine lv_iload_n hx hb dX1_take_13 rfl (lv_at hl 1 rfl) ?_
    refine m_calli (As := [.int a0]) (rest := []) ⟨hx, hb, hml, hown, hts⟩ (kX1_placeOf l D m0 o0 k0 t0 cI cZ σ_2 a0 (by rw [← e_3]; exact un_ok hm)) (cwV 1 hts gX1_take_X1_placeOf rfl rfl rfl (by decide +kernel) ⟨Nat.le_of_ble_eq_true rfl, Nat.le_of_ble_eq_true rfl⟩) G rfl hl.1 rfl (Nat.le_of_ble_eq_true rfl) dX1_take_14 ⟨Nat.zero_le _, Nat.zero_le _⟩ (fun r_9 σ_10 H locs e_11 G => ?_)
    obtain ⟨rfl, rfl⟩ := e_11
    refine lv_goto (tgt := 21) hx hb dX1_take_17 (by decide) ?_
    refine lv_topi (fun v_12 ev_12 => ?_)
    refine lv_istore_n (lv' := [(2, .int v_12), (0, .ref m0), (1, .int a0)]) hx hb dX1_take_21 rfl hl (by decide) rfl (fun ls hl => ?_)
    refine lv_iload_n hx hb dX1_take_22 rfl (lv_at hl 0 rfl) ?_
    refine lv_if_ge (tgt := 30) hx hb dX1_take_23 (by decide) (fun c_13 => ?_) (fun c_13 => ?_)
    · refine lv_aload_n hx hb dX1_take_30 rfl (lv_at hl 1 rfl) ?_
      refine g_get (C := RX1) (T := TX1) (N := 5) (ci := 1) (v := .ref k0) hx hb hts hin hown G 0 rfl rfl 3 (by decide) (hts (.fieldLink RX1 13 "SkewMeldsModel" "keys" "[I") (by decide +kernel)) rfl rfl dX1_take_31 ?_
      refine lv_iload_n hx hb dX1_take_34 rfl (lv_at hl 0 rfl) ?_
      refine g_ild hx hb G 2 0 rfl rfl (m_pl (by rw [← e_3]; exact un_ok hm) (ev_12) c_13) dX1_take_35 ?_
      refine lv_i2l (v := (σ_2.2.2.2.1 v_12.toNatClampNeg).toInt64) hx hb dX1_take_36 rfl ?_
      refine lv_topl (fun v_14 ev_14 => ?_)
      refine lv_lstore_n (lv' := [(3, .long v_14), (2, .int v_12), (0, .ref m0), (1, .int a0)]) hx hb dX1_take_37 rfl hl (by decide) rfl (fun ls hl => ?_)
      refine lv_aload_n hx hb dX1_take_38 rfl (lv_at hl 2 rfl) ?_
      refine lv_dup hx hb dX1_take_39 rfl ?_
      refine g_get (C := RX1) (T := TX1) (N := 5) (ci := 1) (v := .int σ_2.2.1) hx hb hts hin hown G 0 rfl rfl 1 (by decide) (hts (.fieldLink RX1 24 "SkewMeldsModel" "used" "I") (by decide +kernel)) rfl rfl dX1_take_40 ?_
      refine lv_iconst (v := 1) hx hb dX1_take_43 (by decide) ?_
      refine lv_isub hx hb dX1_take_44 ?_
      refine g_put (C := RX1) (T := TX1) (N := 5) (ci := 1) (v := .int (σ_2.2.1 - 1)) (ty := .int) hx hb hts hin tyX1 tyX1_ok nmX1 hown G 0 rfl rfl 1 (by decide) (hts (.fieldLink RX1 24 "SkewMeldsModel" "used" "I") (by decide +kernel)) rfl rfl (by decide +kernel) rfl rfl (Nat.le_of_ble_eq_true rfl) (mw m0 o0 k0 t0 cI cZ (z_sU σ_2 (σ_2.2.1 - 1))) rfl dX1_take_45 (fun H locs G => ?_)
      refine lv_aload_n hx hb dX1_take_48 rfl (lv_at hl 2 rfl) ?_
      refine g_get (C := RX1) (T := TX1) (N := 5) (ci := 1) (v := .ref o0) hx hb hts hin hown G 0 rfl rfl 2 (by decide) (hts (.fieldLink RX1 7 "SkewMeldsModel" "owners" "[I") (by decide +kernel)) rfl rfl dX1_take_49 ?_
      refine lv_iload_n hx hb dX1_take_52 rfl (lv_at hl 1 rfl) ?_
      refine lv_aload_n hx hb dX1_take_53 rfl (lv_at hl 2 rfl) ?_
      refine g_get (C := RX1) (T := TX1) (N := 5) (ci := 1) (v := .ref o0) hx hb hts hin hown G 0 rfl rfl 2 (by decide) (hts (.fieldLink RX1 7 "SkewMeldsModel" "owners" "[I") (by decide +kernel)) rfl rfl dX1_take_54 ?_
      refine lv_aload_n hx hb dX1_take_57 rfl (lv_at hl 2 rfl) ?_
      refine g_get (C := RX1) (T := TX1) (N := 5) (ci := 1) (v := .int (z_sU σ_2 (σ_2.2.1 - 1)).2.1) hx hb hts hin hown G 0 rfl rfl 1 (by decide) (hts (.fieldLink RX1 24 "SkewMeldsModel" "used" "I") (by decide +kernel)) rfl rfl dX1_take_58 ?_
      refine g_ild hx hb G 1 0 rfl rfl (m_pl1 (by rw [← e_3]; exact un_ok hm) (ev_12) c_13) dX1_take_61 ?_
      refine g_ist hx hb G 1 0 rfl rfl (m_pl (by rw [← e_3]; exact un_ok hm) (ev_12) c_13) (mw m0 o0 k0 t0 cI cZ (z_sO (z_sU σ_2 (σ_2.2.1 - 1)) v_12 ((z_sU σ_2 (σ_2.2.1 - 1)).2.2.1 ((z_sU σ_2 (σ_2.2.1 - 1)).2.1).toNatClampNeg))) rfl dX1_take_62 (fun H locs G => ?_)
      refine lv_aload_n hx hb dX1_take_63 rfl (lv_at hl 2 rfl) ?_
      refine g_get (C := RX1) (T := TX1) (N := 5) (ci := 1) (v := .ref k0) hx hb hts hin hown G 0 rfl rfl 3 (by decide) (hts (.fieldLink RX1 13 "SkewMeldsModel" "keys" "[I") (by decide +kernel)) rfl rfl dX1_take_64 ?_
      refine lv_iload_n hx hb dX1_take_67 rfl (lv_at hl 1 rfl) ?_
      refine lv_aload_n hx hb dX1_take_68 rfl (lv_at hl 2 rfl) ?_
      refine g_get (C := RX1) (T := TX1) (N := 5) (ci := 1) (v := .ref k0) hx hb hts hin hown G 0 rfl rfl 3 (by decide) (hts (.fieldLink RX1 13 "SkewMeldsModel" "keys" "[I") (by decide +kernel)) rfl rfl dX1_take_69 ?_
      refine lv_aload_n hx hb dX1_take_72 rfl (lv_at hl 2 rfl) ?_
      refine g_get (C := RX1) (T := TX1) (N := 5) (ci := 1) (v := .int (z_sO (z_sU σ_2 (σ_2.2.1 - 1)) v_12 ((z_sU σ_2 (σ_2.2.1 - 1)).2.2.1 ((z_sU σ_2 (σ_2.2.1 - 1)).2.1).toNatClampNeg)).2.1) hx hb hts hin hown G 0 rfl rfl 1 (by decide) (hts (.fieldLink RX1 24 "SkewMeldsModel" "used" "I") (by decide +kernel)) rfl rfl dX1_take_73 ?_
      refine g_ild hx hb G 2 0 rfl rfl (m_pl1 (by rw [← e_3]; exact un_ok hm) (ev_12) c_13) dX1_take_76 ?_
      refine g_ist hx hb G 2 0 rfl rfl (m_pl (by rw [← e_3]; exact un_ok hm) (ev_12) c_13) (mw m0 o0 k0 t0 cI cZ (z_sK (z_sO (z_sU σ_2 (σ_2.2.1 - 1)) v_12 ((z_sU σ_2 (σ_2.2.1 - 1)).2.2.1 ((z_sU σ_2 (σ_2.2.1 - 1)).2.1).toNatClampNeg)) v_12 ((z_sO (z_sU σ_2 (σ_2.2.1 - 1)) v_12 ((z_sU σ_2 (σ_2.2.1 - 1)).2.2.1 ((z_sU σ_2 (σ_2.2.1 - 1)).2.1).toNatClampNeg)).2.2.2.1 ((z_sO (z_sU σ_2 (σ_2.2.1 - 1)) v_12 ((z_sU σ_2 (σ_2.2.1 - 1)).2.2.1 ((z_sU σ_2 (σ_2.2.1 - 1)).2.1).toNatClampNeg)).2.1).toNatClampNeg))) rfl dX1_take_77 (fun H locs G => ?_)
      refine lv_lload_n hx hb dX1_take_78 rfl (lv_at hl 0 rfl) ?_
      exact g_lret (u := (z_sK (z_sO (z_sU σ_2 (σ_2.2.1 - 1)) v_12 ((z_sU σ_2 (σ_2.2.1 - 1)).2.2.1 ((z_sU σ_2 (σ_2.2.1 - 1)).2.1).toNatClampNeg)) v_12 ((z_sO (z_sU σ_2 (σ_2.2.1 - 1)) v_12 ((z_sU σ_2 (σ_2.2.1 - 1)).2.2.1 ((z_sU σ_2 (σ_2.2.1 - 1)).2.1).toNatClampNeg)).2.2.2.1 ((z_sO (z_sU σ_2 (σ_2.2.1 - 1)) v_12 ((z_sU σ_2 (σ_2.2.1 - 1)).2.2.1 ((z_sU σ_2 (σ_2.2.1 - 1)).2.1).toNatClampNeg)).2.1).toNatClampNeg))) E G (by subst ev_14; subst ev_12; (simp only [z_take, e_3, c_7, c_13, ↓reduceIte]) <;> rfl) dX1_take_79
    · refine lv_ldc2 hx hb hown (hts (.constantLong RX1 41 (-9223372036854775808)) (by decide +kernel)) dX1_take_26 ?_
      exact g_lret (u := σ_2) E G (by subst ev_12; (simp only [z_take, e_3, c_7, c_13, ↓reduceIte]) <;> rfl) dX1_take_29

set_option maxHeartbeats 4000000 in
set_option maxRecDepth 100000 in
theorem kX1_meld (l : Launch) (D : va_G) (m0 o0 k0 t0 : Nat) (cI cZ : ClassId) (μ : Sm) (a0 : Int32) (a1 : Int32) (hm : Mok μ) : gMi l yX1_meld wsX1_meld ({ frames := 1, cells := 0, slots := 0, locals := 23 }) D vwCl [(cI, .int), (cZ, .boolean)] [.ref m0, .int a0, .int a1] (mw m0 o0 k0 t0 cI cZ) μ (fun r μ' => z_meld μ a0 a1 = (r, μ')) := by
  refine gMi_of (cc := cX1_meld) (maxL := 4) (ret := (some .int)) (by decide) rfl (Nat.le_of_ble_eq_true rfl) ?_
  intro p e s m below meth c A ls E G hl
  obtain ⟨hx, hb, hml, hr, hlocks, hown, hts, -, -⟩ := id E
  have hin : ∀ w ∈ wsX10, w ∈ wsX1_meld := fun w h => List.mem_cons_of_mem _ (List.mem_append_right _ h)
  have hl : lv_has ls 4 [(0, .ref m0), (1, .int a0), (2, .int a1)] := hl
  have loop : ∀ (n : Nat) (μ1 : Sm) (k : Int32) (H : Heap) (locs : List Loc) (ls : Array Slot), (μ1.2.1.toInt - k.toInt).toNat < n → (z_size (z_meL a0 a1 n μ1 k) a0, z_meL a0 a1 n μ1 k) = z_meld μ a0 a1 → 0 ≤ k.toInt → Mok μ1 → gG D vwCl [(cI, .int), (cZ, .boolean)] A s (mw m0 o0 k0 t0 cI cZ μ1) H locs → lv_has ls 4 [(0, .ref m0), (1, .int a0), (2, .int a1), (3, .int k)] → W p l e ({ frames := 1, cells := 0, slots := 0, locals := 23 }) s m [.ref m0, .int a0, .int a1].toArray below meth c H locs 0 0 (MQ below (va_Qi (fun r μ' => z_meld μ a0 a1 = (r, μ')) (gB D vwCl [(cI, .int), (cZ, .boolean)] A (mw m0 o0 k0 t0 cI cZ)) A) [.ref m0, .int a0, .int a1].toArray s 0 0 A) (F0 m 25 ls []) := by
    intro n
    induction n with
    | zero => intro μ1 k H locs ls hm9; exact absurd hm9 (Nat.not_lt_zero _)
    | succ n ih =>
      intro μ1 k H locs ls hm9 hinv hx0 hx1 G hl
      refine lv_iload_n hx hb dX1_meld_25 rfl (lv_at hl 3 rfl) ?_
      refine lv_aload_n hx hb dX1_meld_26 rfl (lv_at hl 0 rfl) ?_
      refine g_get (C := RX1) (T := TX1) (N := 5) (ci := 1) (v := .int μ1.2.1) hx hb hts hin hown G 0 rfl rfl 1 (by decide) (hts (.fieldLink RX1 24 "SkewMeldsModel" "used" "I") (by decide +kernel)) rfl rfl dX1_meld_27 ?_
      refine lv_icmp_ge (tgt := 65) hx hb dX1_meld_30 (by decide) (fun c_1 => ?_) (fun c_1 => ?_)
      · refine lv_aload_n hx hb dX1_meld_65 rfl (lv_at hl 0 rfl) ?_
        refine lv_iload_n hx hb dX1_meld_66 rfl (lv_at hl 1 rfl) ?_
        refine m_calli (As := [.int a0]) (rest := []) ⟨hx, hb, hml, hown, hts⟩ (kX1_sizeOf l D m0 o0 k0 t0 cI cZ μ1 a0 hx1) (cwV 1 hts gX1_meld_X1_sizeOf rfl rfl rfl (by decide +kernel) ⟨Nat.le_of_ble_eq_true rfl, Nat.le_of_ble_eq_true rfl⟩) G rfl hl.1 rfl (Nat.le_of_ble_eq_true rfl) dX1_meld_67 ⟨Nat.zero_le _, Nat.zero_le _⟩ (fun r_2 σ_3 H locs e_4 G => ?_)
        obtain ⟨rfl, rfl⟩ := e_4
        exact g_iret (u := μ1) E G (by rw [← hinv]; (simp only [z_meL, c_1, ↓reduceIte]) <;> rfl) dX1_meld_70
      · refine lv_aload_n hx hb dX1_meld_33 rfl (lv_at hl 0 rfl) ?_
        refine g_get (C := RX1) (T := TX1) (N := 5) (ci := 1) (v := .ref o0) hx hb hts hin hown G 0 rfl rfl 2 (by decide) (hts (.fieldLink RX1 7 "SkewMeldsModel" "owners" "[I") (by decide +kernel)) rfl rfl dX1_meld_34 ?_
        refine lv_iload_n hx hb dX1_meld_37 rfl (lv_at hl 3 rfl) ?_
        refine lv_aload_n hx hb dX1_meld_38 rfl (lv_at hl 0 rfl) ?_
        refine g_get (C := RX1) (T := TX1) (N := 5) (ci := 1) (v := .ref o0) hx hb hts hin hown G 0 rfl rfl 2 (by decide) (hts (.fieldLink RX1 7 "SkewMeldsModel" "owners" "[I") (by decide +kernel)) rfl rfl dX1_meld_39 ?_
        refine lv_iload_n hx hb dX1_meld_42 rfl (lv_at hl 3 rfl) ?_
        refine g_ild hx hb G 1 0 rfl rfl (m_inb hx1 hx0 c_1) dX1_meld_43 ?_
        refine lv_iload_n hx hb dX1_meld_44 rfl (lv_at hl 2 rfl) ?_
        refine lv_icmp_ne (tgt := 52) hx hb dX1_meld_45 (by decide) (fun c_5 => ?_) (fun c_5 => ?_)
        · refine lv_aload_n hx hb dX1_meld_52 rfl (lv_at hl 0 rfl) ?_
          refine g_get (C := RX1) (T := TX1) (N := 5) (ci := 1) (v := .ref o0) hx hb hts hin hown G 0 rfl rfl 2 (by decide) (hts (.fieldLink RX1 7 "SkewMeldsModel" "owners" "[I") (by decide +kernel)) rfl rfl dX1_meld_53 ?_
          refine lv_iload_n hx hb dX1_meld_56 rfl (lv_at hl 3 rfl) ?_
          refine g_ild hx hb G 1 0 rfl rfl (m_inb hx1 hx0 c_1) dX1_meld_57 ?_
          refine g_ist hx hb G 1 0 rfl rfl (m_inb hx1 hx0 c_1) (mw m0 o0 k0 t0 cI cZ (z_sO μ1 k (μ1.2.2.1 k.toNatClampNeg))) rfl dX1_meld_58 (fun H locs G => ?_)
          obtain ⟨v_6, ev_6⟩ : ∃ y : Int32, y = k + 1 := ⟨_, rfl⟩
          refine lv_iinc (v := v_6) (lv' := [(3, .int v_6), (0, .ref m0), (1, .int a0), (2, .int a1)]) hx hb dX1_meld_59 hl (k := 3) rfl (by rw [ev_6]; rfl) (by decide) rfl (fun ls hl => ?_)
          refine lv_goto (tgt := 25) hx hb dX1_meld_62 (by decide) ?_
          exact ih (z_sO μ1 k (μ1.2.2.1 k.toNatClampNeg)) v_6 _ _ _ (by subst ev_6; exact Nat.lt_of_lt_of_le (x_meas c_1) (Nat.le_of_lt_succ hm9)) (by subst ev_6; rw [← hinv]; (simp only [z_meL, c_1, c_5, ↓reduceIte]) <;> rfl) (by subst ev_6; exact m_nn hx0 c_1) (by subst ev_6; exact hx1) G (lv_sub hl [1, 2, 3, 0] rfl)
        · refine lv_iload_n hx hb dX1_meld_48 rfl (lv_at hl 1 rfl) ?_
          refine lv_goto (tgt := 58) hx hb dX1_meld_49 (by decide) ?_
          refine g_ist hx hb G 1 0 rfl rfl (m_inb hx1 hx0 c_1) (mw m0 o0 k0 t0 cI cZ (z_sO μ1 k a0)) rfl dX1_meld_58 (fun H locs G => ?_)
          obtain ⟨v_7, ev_7⟩ : ∃ y : Int32, y = k + 1 := ⟨_, rfl⟩
          refine lv_iinc (v := v_7) (lv' := [(3, .int v_7), (0, .ref m0), (1, .int a0), (2, .int a1)]) hx hb dX1_meld_59 hl (k := 3) rfl (by rw [ev_7]; rfl) (by decide) rfl (fun ls hl => ?_)
          refine lv_goto (tgt := 25) hx hb dX1_meld_62 (by decide) ?_
          exact ih (z_sO μ1 k a0) v_7 _ _ _ (by subst ev_7; exact Nat.lt_of_lt_of_le (x_meas c_1) (Nat.le_of_lt_succ hm9)) (by subst ev_7; rw [← hinv]; (simp only [z_meL, c_1, if_pos c_5, ↓reduceIte]) <;> rfl) (by subst ev_7; exact m_nn hx0 c_1) (by subst ev_7; exact hx1) G (lv_sub hl [1, 2, 3, 0] rfl)
  refine lv_aload_n hx hb dX1_meld_0 rfl (lv_at hl 0 rfl) ?_
  refine lv_iload_n hx hb dX1_meld_1 rfl (lv_at hl 1 rfl) ?_
  refine m_calli (As := [.int a0]) (rest := []) ⟨hx, hb, hml, hown, hts⟩ (kX1_isHeap l D m0 o0 k0 t0 cI cZ μ a0) (cwV 1 hts gX1_meld_X1_isHeap rfl rfl rfl (by decide +kernel) ⟨Nat.le_of_ble_eq_true rfl, Nat.le_of_ble_eq_true rfl⟩) G rfl hl.1 rfl (Nat.le_of_ble_eq_true rfl) dX1_meld_2 ⟨Nat.zero_le _, Nat.zero_le _⟩ (fun r_8 σ_9 H locs e_10 G => ?_)
  obtain ⟨rfl, rfl⟩ := e_10
  refine lv_if_eq (tgt := 21) hx hb dX1_meld_5 (by decide) (fun c_11 => ?_) (fun c_11 => ?_)
  · refine lv_iconst (v := (-1)) hx hb dX1_meld_21 (by decide) ?_
    exact g_iret (u := μ) E G (by (simp only [z_meld, c_11, ↓reduceIte]) <;> rfl) dX1_meld_22
  · refine lv_aload_n hx hb dX1_meld_8 rfl (lv_at hl 0 rfl) ?_
    refine lv_iload_n hx hb dX1_meld_9 rfl (lv_at hl 2 rfl) ?_
    refine m_calli (As := [.int a1]) (rest := []) ⟨hx, hb, hml, hown, hts⟩ (kX1_isHeap l D m0 o0 k0 t0 cI cZ μ a1) (cwV 1 hts gX1_meld_X1_isHeap rfl rfl rfl (by decide +kernel) ⟨Nat.le_of_ble_eq_true rfl, Nat.le_of_ble_eq_true rfl⟩) G rfl hl.1 rfl (Nat.le_of_ble_eq_true rfl) dX1_meld_10 ⟨Nat.zero_le _, Nat.zero_le _⟩ (fun r_12 σ_13 H locs e_14 G => ?_)
    obtain ⟨rfl, rfl⟩ := e_14
    refine lv_if_eq (tgt := 21) hx hb dX1_meld_13 (by decide) (fun c_15 => ?_) (fun c_15 => ?_)
    · refine lv_iconst (v := (-1)) hx hb dX1_meld_21 (by decide) ?_
      exact g_iret (u := μ) E G (by (simp only [z_meld, c_11, c_15, ↓reduceIte]) <;> rfl) dX1_meld_22
    · refine lv_iload_n hx hb dX1_meld_16 rfl (lv_at hl 1 rfl) ?_
      refine lv_iload_n hx hb dX1_meld_17 rfl (lv_at hl 2 rfl) ?_
      refine lv_icmp_ne (tgt := 23) hx hb dX1_meld_18 (by decide) (fun c_16 => ?_) (fun c_16 => ?_)
      · refine lv_iconst (v := 0) hx hb dX1_meld_23 (by decide) ?_
        refine lv_istore_n (lv' := [(3, .int 0), (0, .ref m0), (1, .int a0), (2, .int a1)]) hx hb dX1_meld_24 rfl hl (by decide) rfl (fun ls hl => ?_)
        exact loop (μ.2.1.toInt.toNat + 1) μ 0 _ _ _ (x_meas0) (by (simp only [z_meld, c_11, c_15, c_16, ↓reduceIte]) <;> rfl) (by decide) (hm) G (lv_sub hl [1, 2, 3, 0] rfl)
      · refine lv_iconst (v := (-1)) hx hb dX1_meld_21 (by decide) ?_
        exact g_iret (u := μ) E G (by (simp only [z_meld, c_11, c_15, if_pos c_16, ↓reduceIte]) <;> rfl) dX1_meld_22

set_option maxHeartbeats 4000000 in
set_option maxRecDepth 100000 in
theorem kX1_size (l : Launch) (D : va_G) (m0 o0 k0 t0 : Nat) (cI cZ : ClassId) (μ : Sm) (a0 : Int32) (hm : Mok μ) : gMi l yX1_size wsX1_size ({ frames := 1, cells := 0, slots := 0, locals := 23 }) D vwCl [(cI, .int), (cZ, .boolean)] [.ref m0, .int a0] (mw m0 o0 k0 t0 cI cZ) μ (fun r μ' => z_sizeM μ a0 = (r, μ')) := by
  refine gMi_of (cc := cX1_size) (maxL := 2) (ret := (some .int)) (by decide) rfl (Nat.le_of_ble_eq_true rfl) ?_
  intro p e s m below meth c A ls E G hl
  obtain ⟨hx, hb, hml, hr, hlocks, hown, hts, -, -⟩ := id E
  have hin : ∀ w ∈ wsX10, w ∈ wsX1_size := fun w h => List.mem_cons_of_mem _ (List.mem_append_right _ h)
  have hl : lv_has ls 2 [(0, .ref m0), (1, .int a0)] := hl
  refine lv_aload_n hx hb dX1_size_0 rfl (lv_at hl 0 rfl) ?_
  refine lv_iload_n hx hb dX1_size_1 rfl (lv_at hl 1 rfl) ?_
  refine m_calli (As := [.int a0]) (rest := []) ⟨hx, hb, hml, hown, hts⟩ (kX1_isHeap l D m0 o0 k0 t0 cI cZ μ a0) (cwV 1 hts gX1_size_X1_isHeap rfl rfl rfl (by decide +kernel) ⟨Nat.le_of_ble_eq_true rfl, Nat.le_of_ble_eq_true rfl⟩) G rfl hl.1 rfl (Nat.le_of_ble_eq_true rfl) dX1_size_2 ⟨Nat.zero_le _, Nat.zero_le _⟩ (fun r_1 σ_2 H locs e_3 G => ?_)
  obtain ⟨rfl, rfl⟩ := e_3
  refine lv_if_eq (tgt := 16) hx hb dX1_size_5 (by decide) (fun c_4 => ?_) (fun c_4 => ?_)
  · refine lv_iconst (v := (-1)) hx hb dX1_size_16 (by decide) ?_
    exact g_iret (u := μ) E G (by (simp only [z_sizeM, c_4, ↓reduceIte]) <;> rfl) dX1_size_17
  · refine lv_aload_n hx hb dX1_size_8 rfl (lv_at hl 0 rfl) ?_
    refine lv_iload_n hx hb dX1_size_9 rfl (lv_at hl 1 rfl) ?_
    refine m_calli (As := [.int a0]) (rest := []) ⟨hx, hb, hml, hown, hts⟩ (kX1_sizeOf l D m0 o0 k0 t0 cI cZ μ a0 hm) (cwV 1 hts gX1_size_X1_sizeOf rfl rfl rfl (by decide +kernel) ⟨Nat.le_of_ble_eq_true rfl, Nat.le_of_ble_eq_true rfl⟩) G rfl hl.1 rfl (Nat.le_of_ble_eq_true rfl) dX1_size_10 ⟨Nat.zero_le _, Nat.zero_le _⟩ (fun r_5 σ_6 H locs e_7 G => ?_)
    obtain ⟨rfl, rfl⟩ := e_7
    refine lv_goto (tgt := 17) hx hb dX1_size_13 (by decide) ?_
    exact g_iret (u := μ) E G (by (simp only [z_sizeM, c_4, ↓reduceIte]) <;> rfl) dX1_size_17

set_option maxHeartbeats 4000000 in
set_option maxRecDepth 100000 in
theorem kX1_sum (l : Launch) (D : va_G) (m0 o0 k0 t0 : Nat) (cI cZ : ClassId) (μ : Sm) (a0 : Int32) (hm : Mok μ) : gMl l yX1_sum wsX1_sum ({ frames := 1, cells := 0, slots := 0, locals := 21 }) D vwCl [(cI, .int), (cZ, .boolean)] [.ref m0, .int a0] (mw m0 o0 k0 t0 cI cZ) μ (fun r μ' => z_sum μ a0 = (r, μ')) := by
  refine gMl_of (cc := cX1_sum) (maxL := 5) (ret := (some .long)) (by decide) rfl (Nat.le_of_ble_eq_true rfl) ?_
  intro p e s m below meth c A ls E G hl
  obtain ⟨hx, hb, hml, hr, hlocks, hown, hts, -, -⟩ := id E
  have hin : ∀ w ∈ wsX10, w ∈ wsX1_sum := fun w h => List.mem_cons_of_mem _ (List.mem_append_right _ h)
  have hl : lv_has ls 5 [(0, .ref m0), (1, .int a0)] := hl
  have loop : ∀ (n : Nat) (t : Int64) (k : Int32) (H : Heap) (locs : List Loc) (ls : Array Slot), (μ.2.1.toInt - k.toInt).toNat < n → (z_suL μ a0 n t k, μ) = z_sum μ a0 → 0 ≤ k.toInt → gG D vwCl [(cI, .int), (cZ, .boolean)] A s (mw m0 o0 k0 t0 cI cZ μ) H locs → lv_has ls 5 [(0, .ref m0), (1, .int a0), (2, .long t), (4, .int k)] → W p l e ({ frames := 1, cells := 0, slots := 0, locals := 21 }) s m [.ref m0, .int a0].toArray below meth c H locs 0 0 (MQ below (va_Ql (fun r μ' => z_sum μ a0 = (r, μ')) (gB D vwCl [(cI, .int), (cZ, .boolean)] A (mw m0 o0 k0 t0 cI cZ)) A) [.ref m0, .int a0].toArray s 0 0 A) (F0 m 5 ls []) := by
    intro n
    induction n with
    | zero => intro t k H locs ls hm9; exact absurd hm9 (Nat.not_lt_zero _)
    | succ n ih =>
      intro t k H locs ls hm9 hinv hx0 G hl
      refine lv_iload hx hb dX1_sum_5 (lv_at hl 3 rfl) ?_
      refine lv_aload_n hx hb dX1_sum_7 rfl (lv_at hl 0 rfl) ?_
      refine g_get (C := RX1) (T := TX1) (N := 5) (ci := 1) (v := .int μ.2.1) hx hb hts hin hown G 0 rfl rfl 1 (by decide) (hts (.fieldLink RX1 24 "SkewMeldsModel" "used" "I") (by decide +kernel)) rfl rfl dX1_sum_8 ?_
      refine lv_icmp_ge (tgt := 54) hx hb dX1_sum_11 (by decide) (fun c_1 => ?_) (fun c_1 => ?_)
      · refine lv_lload_n hx hb dX1_sum_54 rfl (lv_at hl 2 rfl) ?_
        exact g_lret (u := μ) E G (by rw [← hinv]; (simp only [z_suL, c_1, ↓reduceIte]) <;> rfl) dX1_sum_55
      · refine lv_lload_n hx hb dX1_sum_14 rfl (lv_at hl 2 rfl) ?_
        refine lv_aload_n hx hb dX1_sum_15 rfl (lv_at hl 0 rfl) ?_
        refine lv_iload_n hx hb dX1_sum_16 rfl (lv_at hl 1 rfl) ?_
        refine m_calli (As := [.int a0]) (rest := [.long t]) ⟨hx, hb, hml, hown, hts⟩ (kX1_isHeap l D m0 o0 k0 t0 cI cZ μ a0) (cwV 1 hts gX1_sum_X1_isHeap rfl rfl rfl (by decide +kernel) ⟨Nat.le_of_ble_eq_true rfl, Nat.le_of_ble_eq_true rfl⟩) G rfl hl.1 rfl (Nat.le_of_ble_eq_true rfl) dX1_sum_17 ⟨Nat.zero_le _, Nat.zero_le _⟩ (fun r_2 σ_3 H locs e_4 G => ?_)
        obtain ⟨rfl, rfl⟩ := e_4
        refine lv_if_eq (tgt := 45) hx hb dX1_sum_20 (by decide) (fun c_5 => ?_) (fun c_5 => ?_)
        · refine lv_lconst (v := 0) hx hb dX1_sum_45 (by decide) ?_
          refine lv_ladd hx hb dX1_sum_46 ?_
          refine lv_topl (fun v_6 ev_6 => ?_)
          refine lv_lstore_n (lv' := [(2, .long v_6), (0, .ref m0), (1, .int a0), (4, .int k)]) hx hb dX1_sum_47 rfl hl (by decide) rfl (fun ls hl => ?_)
          obtain ⟨v_7, ev_7⟩ : ∃ y : Int32, y = k + 1 := ⟨_, rfl⟩
          refine lv_iinc (v := v_7) (lv' := [(4, .int v_7), (2, .long v_6), (0, .ref m0), (1, .int a0)]) hx hb dX1_sum_48 hl (k := 3) rfl (by rw [ev_7]; rfl) (by decide) rfl (fun ls hl => ?_)
          refine lv_goto (tgt := 5) hx hb dX1_sum_51 (by decide) ?_
          exact ih  v_6 v_7 _ _ _ (by subst ev_7; subst ev_6; exact Nat.lt_of_lt_of_le (x_meas c_1) (Nat.le_of_lt_succ hm9)) (by subst ev_7; subst ev_6; rw [← hinv]; (simp only [z_suL, c_1, c_5, ↓reduceIte]) <;> rfl) (by subst ev_7; subst ev_6; exact m_nn hx0 c_1) G (lv_sub hl [2, 3, 1, 0] rfl)
        · refine lv_aload_n hx hb dX1_sum_23 rfl (lv_at hl 0 rfl) ?_
          refine g_get (C := RX1) (T := TX1) (N := 5) (ci := 1) (v := .ref o0) hx hb hts hin hown G 0 rfl rfl 2 (by decide) (hts (.fieldLink RX1 7 "SkewMeldsModel" "owners" "[I") (by decide +kernel)) rfl rfl dX1_sum_24 ?_
          refine lv_iload hx hb dX1_sum_27 (lv_at hl 3 rfl) ?_
          refine g_ild hx hb G 1 0 rfl rfl (m_inb hm hx0 c_1) dX1_sum_29 ?_
          refine lv_iload_n hx hb dX1_sum_30 rfl (lv_at hl 1 rfl) ?_
          refine lv_icmp_ne (tgt := 45) hx hb dX1_sum_31 (by decide) (fun c_8 => ?_) (fun c_8 => ?_)
          · refine lv_lconst (v := 0) hx hb dX1_sum_45 (by decide) ?_
            refine lv_ladd hx hb dX1_sum_46 ?_
            refine lv_topl (fun v_9 ev_9 => ?_)
            refine lv_lstore_n (lv' := [(2, .long v_9), (0, .ref m0), (1, .int a0), (4, .int k)]) hx hb dX1_sum_47 rfl hl (by decide) rfl (fun ls hl => ?_)
            obtain ⟨v_10, ev_10⟩ : ∃ y : Int32, y = k + 1 := ⟨_, rfl⟩
            refine lv_iinc (v := v_10) (lv' := [(4, .int v_10), (2, .long v_9), (0, .ref m0), (1, .int a0)]) hx hb dX1_sum_48 hl (k := 3) rfl (by rw [ev_10]; rfl) (by decide) rfl (fun ls hl => ?_)
            refine lv_goto (tgt := 5) hx hb dX1_sum_51 (by decide) ?_
            exact ih  v_9 v_10 _ _ _ (by subst ev_10; subst ev_9; exact Nat.lt_of_lt_of_le (x_meas c_1) (Nat.le_of_lt_succ hm9)) (by subst ev_10; subst ev_9; rw [← hinv]; (simp only [z_suL, c_1, c_5, c_8, ↓reduceIte]) <;> rfl) (by subst ev_10; subst ev_9; exact m_nn hx0 c_1) G (lv_sub hl [2, 3, 1, 0] rfl)
          · refine lv_aload_n hx hb dX1_sum_34 rfl (lv_at hl 0 rfl) ?_
            refine g_get (C := RX1) (T := TX1) (N := 5) (ci := 1) (v := .ref k0) hx hb hts hin hown G 0 rfl rfl 3 (by decide) (hts (.fieldLink RX1 13 "SkewMeldsModel" "keys" "[I") (by decide +kernel)) rfl rfl dX1_sum_35 ?_
            refine lv_iload hx hb dX1_sum_38 (lv_at hl 3 rfl) ?_
            refine g_ild hx hb G 2 0 rfl rfl (m_inb hm hx0 c_1) dX1_sum_40 ?_
            refine lv_i2l (v := (μ.2.2.2.1 k.toNatClampNeg).toInt64) hx hb dX1_sum_41 rfl ?_
            refine lv_goto (tgt := 46) hx hb dX1_sum_42 (by decide) ?_
            refine lv_ladd hx hb dX1_sum_46 ?_
            refine lv_topl (fun v_11 ev_11 => ?_)
            refine lv_lstore_n (lv' := [(2, .long v_11), (0, .ref m0), (1, .int a0), (4, .int k)]) hx hb dX1_sum_47 rfl hl (by decide) rfl (fun ls hl => ?_)
            obtain ⟨v_12, ev_12⟩ : ∃ y : Int32, y = k + 1 := ⟨_, rfl⟩
            refine lv_iinc (v := v_12) (lv' := [(4, .int v_12), (2, .long v_11), (0, .ref m0), (1, .int a0)]) hx hb dX1_sum_48 hl (k := 3) rfl (by rw [ev_12]; rfl) (by decide) rfl (fun ls hl => ?_)
            refine lv_goto (tgt := 5) hx hb dX1_sum_51 (by decide) ?_
            exact ih  v_11 v_12 _ _ _ (by subst ev_12; subst ev_11; exact Nat.lt_of_lt_of_le (x_meas c_1) (Nat.le_of_lt_succ hm9)) (by subst ev_12; subst ev_11; rw [← hinv]; (simp only [z_suL, c_1, c_5, if_pos c_8, ↓reduceIte]) <;> rfl) (by subst ev_12; subst ev_11; exact m_nn hx0 c_1) G (lv_sub hl [2, 3, 1, 0] rfl)
  refine lv_lconst (v := 0) hx hb dX1_sum_0 (by decide) ?_
  refine lv_lstore_n (lv' := [(2, .long 0), (0, .ref m0), (1, .int a0)]) hx hb dX1_sum_1 rfl hl (by decide) rfl (fun ls hl => ?_)
  refine lv_iconst (v := 0) hx hb dX1_sum_2 (by decide) ?_
  refine lv_istore (lv' := [(4, .int 0), (2, .long 0), (0, .ref m0), (1, .int a0)]) hx hb dX1_sum_3 hl (by decide) rfl (fun ls hl => ?_)
  exact loop (μ.2.1.toInt.toNat + 1)  0 0 _ _ _ (x_meas0) (by (simp only [z_sum, ↓reduceIte]) <;> rfl) (by decide) G (lv_sub hl [2, 3, 1, 0] rfl)

set_option maxHeartbeats 4000000 in
set_option maxRecDepth 100000 in
theorem kX1_free (l : Launch) (D : va_G) (m0 o0 k0 t0 : Nat) (cI cZ : ClassId) (μ : Sm) : gMi l yX1_free wsX1_free ({ frames := 0, cells := 0, slots := 0, locals := 0 }) D vwCl [(cI, .int), (cZ, .boolean)] [.ref m0] (mw m0 o0 k0 t0 cI cZ) μ (fun r μ' => z_free μ = (r, μ')) := by
  refine gMi_of (cc := cX1_free) (maxL := 1) (ret := (some .int)) (by decide) rfl (Nat.le_of_ble_eq_true rfl) ?_
  intro p e s m below meth c A ls E G hl
  obtain ⟨hx, hb, hml, hr, hlocks, hown, hts, -, -⟩ := id E
  have hin : ∀ w ∈ wsX10, w ∈ wsX1_free := fun w h => List.mem_cons_of_mem _ (List.mem_append_right _ h)
  have hl : lv_has ls 1 [(0, .ref m0)] := hl
  refine lv_sipush (v := 200) hx hb dX1_free_0 (by decide) ?_
  refine lv_aload_n hx hb dX1_free_3 rfl (lv_at hl 0 rfl) ?_
  refine g_get (C := RX1) (T := TX1) (N := 5) (ci := 1) (v := .int μ.2.1) hx hb hts hin hown G 0 rfl rfl 1 (by decide) (hts (.fieldLink RX1 24 "SkewMeldsModel" "used" "I") (by decide +kernel)) rfl rfl dX1_free_4 ?_
  refine lv_isub hx hb dX1_free_7 ?_
  exact g_iret (u := μ) E G (by (simp only [z_free, ↓reduceIte]) <;> rfl) dX1_free_8

set_option maxHeartbeats 4000000 in
set_option maxRecDepth 100000 in
theorem kX1_few (l : Launch) (D : va_G) (m0 o0 k0 t0 : Nat) (cI cZ : ClassId) (μ : Sm) : gMi l yX1_few wsX1_few ({ frames := 0, cells := 0, slots := 0, locals := 0 }) D vwCl [(cI, .int), (cZ, .boolean)] [.ref m0] (mw m0 o0 k0 t0 cI cZ) μ (fun r μ' => r = 1 ∧ μ = μ') := by
  refine gMi_of (cc := cX1_few) (maxL := 1) (ret := (some .boolean)) (by decide) rfl (Nat.le_of_ble_eq_true rfl) ?_
  intro p e s m below meth c A ls E G hl
  obtain ⟨hx, hb, hml, hr, hlocks, hown, hts, -, -⟩ := id E
  have hl : lv_has ls 1 [(0, .ref m0)] := hl
  refine lv_iconst (v := 1) hx hb dX1_few_0 (by decide) ?_
  exact g_zret (u := μ) E G (by decide) (⟨rfl, rfl⟩) dX1_few_1

set_option maxHeartbeats 4000000 in
set_option maxRecDepth 100000 in
theorem kX1_key (l : Launch) (D : va_G) (m0 o0 k0 t0 : Nat) (cI cZ : ClassId) (μ : Sm) (a0 : Int32) (a1 : Int32) (hm : Mok μ) (hk : ¬ z_is μ a0 = 0 → ¬ a1 < 0 → a1 < z_size μ a0 → z_keOk a0 a1 (a1.toInt.toNat + 1) (z_untell μ) 0) : gMl l yX1_key wsX1_key ({ frames := 1, cells := 0, slots := 0, locals := 23 }) D vwCl [(cI, .int), (cZ, .boolean)] [.ref m0, .int a0, .int a1] (mw m0 o0 k0 t0 cI cZ) μ (fun r μ' => z_key μ a0 a1 = (r, μ')) := by
  refine gMl_of (cc := cX1_key) (maxL := 4) (ret := (some .long)) (by decide) rfl (Nat.le_of_ble_eq_true rfl) ?_
  intro p e s m below meth c A ls E G hl
  obtain ⟨hx, hb, hml, hr, hlocks, hown, hts, -, -⟩ := id E
  have hin : ∀ w ∈ wsX10, w ∈ wsX1_key := fun w h => List.mem_cons_of_mem _ (List.mem_append_right _ h)
  have hl : lv_has ls 4 [(0, .ref m0), (1, .int a0), (2, .int a1)] := hl
  have loop : ∀ (n : Nat) (μ1 : Sm) (k : Int32) (H : Heap) (locs : List Loc) (ls : Array Slot), (a1.toInt - k.toInt).toNat < n → (((z_keL a0 a1 n μ1 k).2.2.2.1 (z_place (z_keL a0 a1 n μ1 k) a0).toNatClampNeg).toInt64, z_keL a0 a1 n μ1 k) = z_key μ a0 a1 → Mok μ1 → z_keOk a0 a1 n μ1 k → gG D vwCl [(cI, .int), (cZ, .boolean)] A s (mw m0 o0 k0 t0 cI cZ μ1) H locs → lv_has ls 4 [(0, .ref m0), (1, .int a0), (2, .int a1), (3, .int k)] → W p l e ({ frames := 1, cells := 0, slots := 0, locals := 23 }) s m [.ref m0, .int a0, .int a1].toArray below meth c H locs 0 0 (MQ below (va_Ql (fun r μ' => z_key μ a0 a1 = (r, μ')) (gB D vwCl [(cI, .int), (cZ, .boolean)] A (mw m0 o0 k0 t0 cI cZ)) A) [.ref m0, .int a0, .int a1].toArray s 0 0 A) (F0 m 31 ls []) := by
    intro n
    induction n with
    | zero => intro μ1 k H locs ls hm9; exact absurd hm9 (Nat.not_lt_zero _)
    | succ n ih =>
      intro μ1 k H locs ls hm9 hinv hx0 hx1 G hl
      refine lv_iload_n hx hb dX1_key_31 rfl (lv_at hl 3 rfl) ?_
      refine lv_iload_n hx hb dX1_key_32 rfl (lv_at hl 2 rfl) ?_
      refine lv_icmp_ge (tgt := 53) hx hb dX1_key_33 (by decide) (fun c_1 => ?_) (fun c_1 => ?_)
      · refine lv_aload_n hx hb dX1_key_53 rfl (lv_at hl 0 rfl) ?_
        refine g_get (C := RX1) (T := TX1) (N := 5) (ci := 1) (v := .ref k0) hx hb hts hin hown G 0 rfl rfl 3 (by decide) (hts (.fieldLink RX1 13 "SkewMeldsModel" "keys" "[I") (by decide +kernel)) rfl rfl dX1_key_54 ?_
        refine lv_aload_n hx hb dX1_key_57 rfl (lv_at hl 0 rfl) ?_
        refine lv_iload_n hx hb dX1_key_58 rfl (lv_at hl 1 rfl) ?_
        refine m_calli (As := [.int a0]) (rest := [.ref k0]) ⟨hx, hb, hml, hown, hts⟩ (kX1_placeOf l D m0 o0 k0 t0 cI cZ μ1 a0 hx0) (cwV 1 hts gX1_key_X1_placeOf rfl rfl rfl (by decide +kernel) ⟨Nat.le_of_ble_eq_true rfl, Nat.le_of_ble_eq_true rfl⟩) G rfl hl.1 rfl (Nat.le_of_ble_eq_true rfl) dX1_key_59 ⟨Nat.zero_le _, Nat.zero_le _⟩ (fun r_2 σ_3 H locs e_4 G => ?_)
        obtain ⟨rfl, rfl⟩ := e_4
        refine g_ild hx hb G 2 0 rfl rfl (hx1.1) dX1_key_62 ?_
        refine lv_i2l (v := (μ1.2.2.2.1 (z_place μ1 a0).toNatClampNeg).toInt64) hx hb dX1_key_63 rfl ?_
        exact g_lret (u := μ1) E G (by rw [← hinv]; (simp only [z_keL, c_1, ↓reduceIte]) <;> rfl) dX1_key_64
      · refine lv_aload_n hx hb dX1_key_36 rfl (lv_at hl 0 rfl) ?_
        refine g_get (C := RX1) (T := TX1) (N := 5) (ci := 1) (v := .ref t0) hx hb hts hin hown G 0 rfl rfl 4 (by decide) (hts (.fieldLink RX1 16 "SkewMeldsModel" "told" "[Z") (by decide +kernel)) rfl rfl dX1_key_37 ?_
        refine lv_aload_n hx hb dX1_key_40 rfl (lv_at hl 0 rfl) ?_
        refine lv_iload_n hx hb dX1_key_41 rfl (lv_at hl 1 rfl) ?_
        refine m_calli (As := [.int a0]) (rest := [.ref t0]) ⟨hx, hb, hml, hown, hts⟩ (kX1_placeOf l D m0 o0 k0 t0 cI cZ μ1 a0 hx0) (cwV 1 hts gX1_key_X1_placeOf rfl rfl rfl (by decide +kernel) ⟨Nat.le_of_ble_eq_true rfl, Nat.le_of_ble_eq_true rfl⟩) G rfl hl.1 rfl (Nat.le_of_ble_eq_true rfl) dX1_key_42 ⟨Nat.zero_le _, Nat.zero_le _⟩ (fun r_5 σ_6 H locs e_7 G => ?_)
        obtain ⟨rfl, rfl⟩ := e_7
        refine lv_iconst (v := 1) hx hb dX1_key_45 (by decide) ?_
        refine g_zst hx hb G 3 1 rfl rfl (hx1.1) (mw m0 o0 k0 t0 cI cZ (z_sT μ1 (z_place μ1 a0) 1)) rfl dX1_key_46 (fun H locs G => ?_)
        obtain ⟨v_8, ev_8⟩ : ∃ y : Int32, y = k + 1 := ⟨_, rfl⟩
        refine lv_iinc (v := v_8) (lv' := [(3, .int v_8), (0, .ref m0), (1, .int a0), (2, .int a1)]) hx hb dX1_key_47 hl (k := 3) rfl (by rw [ev_8]; rfl) (by decide) rfl (fun ls hl => ?_)
        refine lv_goto (tgt := 31) hx hb dX1_key_50 (by decide) ?_
        exact ih (z_sT μ1 (z_place μ1 a0) 1) v_8 _ _ _ (by subst ev_8; exact Nat.lt_of_lt_of_le (x_meas c_1) (Nat.le_of_lt_succ hm9)) (by subst ev_8; rw [← hinv]; (simp only [z_keL, c_1, ↓reduceIte]) <;> rfl) (by subst ev_8; exact hx0) (by subst ev_8; exact hx1.2.resolve_left c_1) G (lv_sub hl [1, 2, 3, 0] rfl)
  refine lv_aload_n hx hb dX1_key_0 rfl (lv_at hl 0 rfl) ?_
  refine lv_iload_n hx hb dX1_key_1 rfl (lv_at hl 1 rfl) ?_
  refine m_calli (As := [.int a0]) (rest := []) ⟨hx, hb, hml, hown, hts⟩ (kX1_isHeap l D m0 o0 k0 t0 cI cZ μ a0) (cwV 1 hts gX1_key_X1_isHeap rfl rfl rfl (by decide +kernel) ⟨Nat.le_of_ble_eq_true rfl, Nat.le_of_ble_eq_true rfl⟩) G rfl hl.1 rfl (Nat.le_of_ble_eq_true rfl) dX1_key_2 ⟨Nat.zero_le _, Nat.zero_le _⟩ (fun r_9 σ_10 H locs e_11 G => ?_)
  obtain ⟨rfl, rfl⟩ := e_11
  refine lv_if_eq (tgt := 21) hx hb dX1_key_5 (by decide) (fun c_12 => ?_) (fun c_12 => ?_)
  · refine lv_ldc2 hx hb hown (hts (.constantLong RX1 41 (-9223372036854775808)) (by decide +kernel)) dX1_key_21 ?_
    exact g_lret (u := μ) E G (by (simp only [z_key, c_12, ↓reduceIte]) <;> rfl) dX1_key_24
  · refine lv_iload_n hx hb dX1_key_8 rfl (lv_at hl 2 rfl) ?_
    refine lv_if_lt (tgt := 21) hx hb dX1_key_9 (by decide) (fun c_13 => ?_) (fun c_13 => ?_)
    · refine lv_ldc2 hx hb hown (hts (.constantLong RX1 41 (-9223372036854775808)) (by decide +kernel)) dX1_key_21 ?_
      exact g_lret (u := μ) E G (by (simp only [z_key, c_12, c_13, ↓reduceIte]) <;> rfl) dX1_key_24
    · refine lv_iload_n hx hb dX1_key_12 rfl (lv_at hl 2 rfl) ?_
      refine lv_aload_n hx hb dX1_key_13 rfl (lv_at hl 0 rfl) ?_
      refine lv_iload_n hx hb dX1_key_14 rfl (lv_at hl 1 rfl) ?_
      refine m_calli (As := [.int a0]) (rest := [.int a1]) ⟨hx, hb, hml, hown, hts⟩ (kX1_sizeOf l D m0 o0 k0 t0 cI cZ μ a0 hm) (cwV 1 hts gX1_key_X1_sizeOf rfl rfl rfl (by decide +kernel) ⟨Nat.le_of_ble_eq_true rfl, Nat.le_of_ble_eq_true rfl⟩) G rfl hl.1 rfl (Nat.le_of_ble_eq_true rfl) dX1_key_15 ⟨Nat.zero_le _, Nat.zero_le _⟩ (fun r_14 σ_15 H locs e_16 G => ?_)
      obtain ⟨rfl, rfl⟩ := e_16
      refine lv_icmp_lt (tgt := 25) hx hb dX1_key_18 (by decide) (fun c_17 => ?_) (fun c_17 => ?_)
      · refine lv_aload_n hx hb dX1_key_25 rfl (lv_at hl 0 rfl) ?_
        refine m_callv (As := []) (rest := []) ⟨hx, hb, hml, hown, hts⟩ (kX1_untell l D m0 o0 k0 t0 cI cZ μ) (cwV 0 hts gX1_key_X1_untell rfl rfl rfl (by decide +kernel) ⟨Nat.le_of_ble_eq_true rfl, Nat.le_of_ble_eq_true rfl⟩) G rfl hl.1 rfl (Nat.le_of_ble_eq_true rfl) dX1_key_26 ⟨Nat.zero_le _, Nat.zero_le _⟩ (fun σ_19 H locs e_20 G => ?_)
        refine lv_iconst (v := 0) hx hb dX1_key_29 (by decide) ?_
        refine lv_istore_n (lv' := [(3, .int 0), (0, .ref m0), (1, .int a0), (2, .int a1)]) hx hb dX1_key_30 rfl hl (by decide) rfl (fun ls hl => ?_)
        exact loop (a1.toInt.toNat + 1) σ_19 0 _ _ _ (x_meas0) (by (simp only [z_key, c_12, c_13, c_17, e_20, ↓reduceIte]) <;> rfl) (by rw [← e_20]; exact un_ok hm) (by rw [← e_20]; exact hk c_12 c_13 c_17) G (lv_sub hl [1, 2, 3, 0] rfl)
      · refine lv_ldc2 hx hb hown (hts (.constantLong RX1 41 (-9223372036854775808)) (by decide +kernel)) dX1_key_21 ?_
        exact g_lret (u := μ) E G (by (simp only [z_key, c_12, c_13, c_17, ↓reduceIte]) <;> rfl) dX1_key_24
