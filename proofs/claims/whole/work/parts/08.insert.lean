set_option maxHeartbeats 4000000 in
set_option maxRecDepth 100000 in
theorem kX0_insertCell (l : Launch) (D : va_G) (h0 r0 : Nat) (cA : ClassId) (σ : Sx) (a0 : Int32) (a1 : Int32) : gMv l yX0_insertCell wsX0_insertCell ({ frames := 3, cells := 0, slots := 0, locals := 68 }) D vwCl [(cA, .int)] [.ref h0, .int a0, .int a1] (xw h0 r0 cA) σ (fun σ' => x_insertCell σ a0 a1 = σ') := by
  refine gMv_of (cc := cX0_insertCell) (maxL := 6) (ret := none) (by decide) rfl (Nat.le_of_ble_eq_true rfl) ?_
  intro p e s m below meth c A ls E G hl
  obtain ⟨hx, hb, hml, hr, hlocks, hown, hts, -, -⟩ := id E
  have hin : ∀ w ∈ wsX00, w ∈ wsX0_insertCell := fun w h => List.mem_cons_of_mem _ (List.mem_append_right _ h)
  have hl : lv_has ls 6 [(0, .ref h0), (1, .int a0), (2, .int a1)] := hl
  refine lv_iload_n hx hb dX0_insertCell_0 rfl (lv_at hl 2 rfl) ?_
  refine lv_istore_n (lv' := [(3, .int a1), (0, .ref h0), (1, .int a0), (2, .int a1)]) hx hb dX0_insertCell_1 rfl hl (by decide) rfl (fun ls hl => ?_)
  refine lv_aload_n hx hb dX0_insertCell_2 rfl (lv_at hl 1 rfl) ?_
  refine lv_iload_n hx hb dX0_insertCell_3 rfl (lv_at hl 2 rfl) ?_
  refine x_calli (As := [.int a0]) (rest := []) ⟨hx, hb, hml, hown, hts⟩ (kX0_cutTwin l D h0 r0 cA σ a0) (cwV 1 hts gX0_insertCell_X0_cutTwin rfl rfl rfl (by decide +kernel) ⟨Nat.le_of_ble_eq_true rfl, Nat.le_of_ble_eq_true rfl⟩) G rfl hl.1 rfl (Nat.le_of_ble_eq_true rfl) dX0_insertCell_4 ⟨Nat.zero_le _, Nat.zero_le _⟩ (fun r_1 σ_2 H locs e_3 G => ?_)
  refine lv_istore (lv' := [(4, .int r_1), (3, .int a1), (0, .ref h0), (1, .int a0), (2, .int a1)]) hx hb dX0_insertCell_7 hl (by decide) rfl (fun ls hl => ?_)
  refine lv_iload hx hb dX0_insertCell_9 (lv_at hl 0 rfl) ?_
  refine lv_iconst (v := (-1)) hx hb dX0_insertCell_11 (by decide) ?_
  refine lv_icmp_eq (tgt := 43) hx hb dX0_insertCell_12 (by decide) (fun c_4 => ?_) (fun c_4 => ?_)
  · refine lv_iload_n hx hb dX0_insertCell_43 rfl (lv_at hl 3 rfl) ?_
    refine lv_aload_n hx hb dX0_insertCell_44 rfl (lv_at hl 2 rfl) ?_
    refine lv_sipush (v := 200) hx hb dX0_insertCell_45 (by decide) ?_
    refine lv_iload_n hx hb dX0_insertCell_48 rfl (lv_at hl 1 rfl) ?_
    refine lv_iadd hx hb dX0_insertCell_49 ?_
    refine x_calli (As := [.int (200 + a1)]) (rest := [.int a0]) ⟨hx, hb, hml, hown, hts⟩ (kX0_read l D h0 r0 cA σ_2 (200 + a1)) (cwV 1 hts gX0_insertCell_X0_read rfl rfl rfl (by decide +kernel) ⟨Nat.le_of_ble_eq_true rfl, Nat.le_of_ble_eq_true rfl⟩) G rfl hl.1 rfl (Nat.le_of_ble_eq_true rfl) dX0_insertCell_50 ⟨Nat.zero_le _, Nat.zero_le _⟩ (fun r_5 σ_6 H locs e_7 G => ?_)
    refine g_calls (As := [.int a0, .int r_5]) (rest := []) ⟨hx, hb, hml, hown, hts⟩ (kX0_topAt l a0 r_5) (va_cwS 2 hts gX0_insertCell_X0_topAt rfl rfl rfl (by decide +kernel) ⟨Nat.le_of_ble_eq_true rfl, Nat.le_of_ble_eq_true rfl⟩) G rfl hl.1 rfl (Nat.le_of_ble_eq_true rfl) dX0_insertCell_53 ⟨Nat.zero_le _, Nat.zero_le _⟩ (fun r_8 H locs e_9 G => ?_)
    subst e_9
    refine lv_topi (fun v_10 ev_10 => ?_)
    refine lv_istore (lv' := [(5, .int v_10), (4, .int r_1), (3, .int a1), (0, .ref h0), (1, .int a0), (2, .int a1)]) hx hb dX0_insertCell_56 hl (by decide) rfl (fun ls hl => ?_)
    refine lv_aload_n hx hb dX0_insertCell_58 rfl (lv_at hl 3 rfl) ?_
    refine lv_aload_n hx hb dX0_insertCell_59 rfl (lv_at hl 3 rfl) ?_
    refine lv_iload hx hb dX0_insertCell_60 (lv_at hl 0 rfl) ?_
    refine x_calli (As := [.int v_10]) (rest := [.ref h0]) ⟨hx, hb, hml, hown, hts⟩ (kX0_read l D h0 r0 cA σ_6 v_10) (cwV 1 hts gX0_insertCell_X0_read rfl rfl rfl (by decide +kernel) ⟨Nat.le_of_ble_eq_true rfl, Nat.le_of_ble_eq_true rfl⟩) G rfl hl.1 rfl (Nat.le_of_ble_eq_true rfl) dX0_insertCell_62 ⟨Nat.zero_le _, Nat.zero_le _⟩ (fun r_11 σ_12 H locs e_13 G => ?_)
    refine lv_iconst (v := (-1)) hx hb dX0_insertCell_65 (by decide) ?_
    refine lv_icmp_ne (tgt := 74) hx hb dX0_insertCell_66 (by decide) (fun c_14 => ?_) (fun c_14 => ?_)
    · refine lv_sipush (v := 1064) hx hb dX0_insertCell_74 (by decide) ?_
      refine lv_iload_n hx hb dX0_insertCell_77 rfl (lv_at hl 4 rfl) ?_
      refine lv_iadd hx hb dX0_insertCell_78 ?_
      refine lv_iload_n hx hb dX0_insertCell_79 rfl (lv_at hl 2 rfl) ?_
      refine x_callv (As := [.int (1064 + a0), .int a1]) (rest := []) ⟨hx, hb, hml, hown, hts⟩ (kX0_write l D h0 r0 cA σ_12 (1064 + a0) a1) (cwV 2 hts gX0_insertCell_X0_write rfl rfl rfl (by decide +kernel) ⟨Nat.le_of_ble_eq_true rfl, Nat.le_of_ble_eq_true rfl⟩) G rfl hl.1 rfl (Nat.le_of_ble_eq_true rfl) dX0_insertCell_80 ⟨Nat.zero_le _, Nat.zero_le _⟩ (fun σ_16 H locs e_17 G => ?_)
      exact g_vret (u := σ_16) E G (by subst ev_10; (simp only [x_insertCell, x_insTail, e_3, c_4, e_7, e_13, c_14, e_17, ↓reduceIte]) <;> rfl) dX0_insertCell_83
    · refine lv_iload hx hb dX0_insertCell_69 (lv_at hl 0 rfl) ?_
      refine lv_goto (tgt := 79) hx hb dX0_insertCell_71 (by decide) ?_
      refine lv_iload_n hx hb dX0_insertCell_79 rfl (lv_at hl 2 rfl) ?_
      refine x_callv (As := [.int v_10, .int a1]) (rest := []) ⟨hx, hb, hml, hown, hts⟩ (kX0_write l D h0 r0 cA σ_12 v_10 a1) (cwV 2 hts gX0_insertCell_X0_write rfl rfl rfl (by decide +kernel) ⟨Nat.le_of_ble_eq_true rfl, Nat.le_of_ble_eq_true rfl⟩) G rfl hl.1 rfl (Nat.le_of_ble_eq_true rfl) dX0_insertCell_80 ⟨Nat.zero_le _, Nat.zero_le _⟩ (fun σ_19 H locs e_20 G => ?_)
      exact g_vret (u := σ_19) E G (by subst ev_10; (simp only [x_insertCell, x_insTail, e_3, c_4, e_7, e_13, c_14, e_20, ↓reduceIte]) <;> rfl) dX0_insertCell_83
  · refine lv_aload_n hx hb dX0_insertCell_15 rfl (lv_at hl 2 rfl) ?_
    refine lv_iload hx hb dX0_insertCell_16 (lv_at hl 0 rfl) ?_
    refine lv_aload_n hx hb dX0_insertCell_18 rfl (lv_at hl 2 rfl) ?_
    refine lv_iload_n hx hb dX0_insertCell_19 rfl (lv_at hl 3 rfl) ?_
    refine lv_aload_n hx hb dX0_insertCell_20 rfl (lv_at hl 2 rfl) ?_
    refine lv_sipush (v := 200) hx hb dX0_insertCell_21 (by decide) ?_
    refine lv_iload hx hb dX0_insertCell_24 (lv_at hl 0 rfl) ?_
    refine lv_iadd hx hb dX0_insertCell_26 ?_
    refine x_calli (As := [.int (200 + r_1)]) (rest := [.int a0, .ref h0, .int r_1, .ref h0]) ⟨hx, hb, hml, hown, hts⟩ (kX0_read l D h0 r0 cA σ_2 (200 + r_1)) (cwV 1 hts gX0_insertCell_X0_read rfl rfl rfl (by decide +kernel) ⟨Nat.le_of_ble_eq_true rfl, Nat.le_of_ble_eq_true rfl⟩) G rfl hl.1 rfl (Nat.le_of_ble_eq_true rfl) dX0_insertCell_27 ⟨Nat.zero_le _, Nat.zero_le _⟩ (fun r_21 σ_22 H locs e_23 G => ?_)
    refine x_calli (As := [.int a0, .int r_21]) (rest := [.int r_1, .ref h0]) ⟨hx, hb, hml, hown, hts⟩ (kX0_cutTop l D h0 r0 cA σ_22 a0 r_21) (cwV 2 hts gX0_insertCell_X0_cutTop rfl rfl rfl (by decide +kernel) ⟨Nat.le_of_ble_eq_true rfl, Nat.le_of_ble_eq_true rfl⟩) G rfl hl.1 rfl (Nat.le_of_ble_eq_true rfl) dX0_insertCell_30 ⟨Nat.zero_le _, Nat.zero_le _⟩ (fun r_24 σ_25 H locs e_26 G => ?_)
    refine x_calli (As := [.int r_1, .int r_24]) (rest := []) ⟨hx, hb, hml, hown, hts⟩ (kX0_link l D h0 r0 cA σ_25 r_1 r_24) (cwV 2 hts gX0_insertCell_X0_link rfl rfl rfl (by decide +kernel) ⟨Nat.le_of_ble_eq_true rfl, Nat.le_of_ble_eq_true rfl⟩) G rfl hl.1 rfl (Nat.le_of_ble_eq_true rfl) dX0_insertCell_33 ⟨Nat.zero_le _, Nat.zero_le _⟩ (fun r_27 σ_28 H locs e_29 G => ?_)
    refine lv_istore_n (lv' := [(3, .int r_27), (4, .int r_1), (0, .ref h0), (1, .int a0), (2, .int a1)]) hx hb dX0_insertCell_36 rfl hl (by decide) rfl (fun ls hl => ?_)
    refine lv_aload_n hx hb dX0_insertCell_37 rfl (lv_at hl 2 rfl) ?_
    refine lv_iload_n hx hb dX0_insertCell_38 rfl (lv_at hl 0 rfl) ?_
    refine lv_iload_n hx hb dX0_insertCell_39 rfl (lv_at hl 4 rfl) ?_
    refine x_callv (As := [.int r_27, .int a1]) (rest := []) ⟨hx, hb, hml, hown, hts⟩ (kX0_hangKey l D h0 r0 cA σ_28 r_27 a1) (cwV 2 hts gX0_insertCell_X0_hangKey rfl rfl rfl (by decide +kernel) ⟨Nat.le_of_ble_eq_true rfl, Nat.le_of_ble_eq_true rfl⟩) G rfl hl.1 rfl (Nat.le_of_ble_eq_true rfl) dX0_insertCell_40 ⟨Nat.zero_le _, Nat.zero_le _⟩ (fun σ_31 H locs e_32 G => ?_)
    refine lv_iload_n hx hb dX0_insertCell_43 rfl (lv_at hl 3 rfl) ?_
    refine lv_aload_n hx hb dX0_insertCell_44 rfl (lv_at hl 2 rfl) ?_
    refine lv_sipush (v := 200) hx hb dX0_insertCell_45 (by decide) ?_
    refine lv_iload_n hx hb dX0_insertCell_48 rfl (lv_at hl 0 rfl) ?_
    refine lv_iadd hx hb dX0_insertCell_49 ?_
    refine x_calli (As := [.int (200 + r_27)]) (rest := [.int a0]) ⟨hx, hb, hml, hown, hts⟩ (kX0_read l D h0 r0 cA σ_31 (200 + r_27)) (cwV 1 hts gX0_insertCell_X0_read rfl rfl rfl (by decide +kernel) ⟨Nat.le_of_ble_eq_true rfl, Nat.le_of_ble_eq_true rfl⟩) G rfl hl.1 rfl (Nat.le_of_ble_eq_true rfl) dX0_insertCell_50 ⟨Nat.zero_le _, Nat.zero_le _⟩ (fun r_33 σ_34 H locs e_35 G => ?_)
    refine g_calls (As := [.int a0, .int r_33]) (rest := []) ⟨hx, hb, hml, hown, hts⟩ (kX0_topAt l a0 r_33) (va_cwS 2 hts gX0_insertCell_X0_topAt rfl rfl rfl (by decide +kernel) ⟨Nat.le_of_ble_eq_true rfl, Nat.le_of_ble_eq_true rfl⟩) G rfl hl.1 rfl (Nat.le_of_ble_eq_true rfl) dX0_insertCell_53 ⟨Nat.zero_le _, Nat.zero_le _⟩ (fun r_36 H locs e_37 G => ?_)
    subst e_37
    refine lv_topi (fun v_38 ev_38 => ?_)
    refine lv_istore (lv' := [(5, .int v_38), (3, .int r_27), (4, .int r_1), (0, .ref h0), (1, .int a0), (2, .int a1)]) hx hb dX0_insertCell_56 hl (by decide) rfl (fun ls hl => ?_)
    refine lv_aload_n hx hb dX0_insertCell_58 rfl (lv_at hl 3 rfl) ?_
    refine lv_aload_n hx hb dX0_insertCell_59 rfl (lv_at hl 3 rfl) ?_
    refine lv_iload hx hb dX0_insertCell_60 (lv_at hl 0 rfl) ?_
    refine x_calli (As := [.int v_38]) (rest := [.ref h0]) ⟨hx, hb, hml, hown, hts⟩ (kX0_read l D h0 r0 cA σ_34 v_38) (cwV 1 hts gX0_insertCell_X0_read rfl rfl rfl (by decide +kernel) ⟨Nat.le_of_ble_eq_true rfl, Nat.le_of_ble_eq_true rfl⟩) G rfl hl.1 rfl (Nat.le_of_ble_eq_true rfl) dX0_insertCell_62 ⟨Nat.zero_le _, Nat.zero_le _⟩ (fun r_39 σ_40 H locs e_41 G => ?_)
    refine lv_iconst (v := (-1)) hx hb dX0_insertCell_65 (by decide) ?_
    refine lv_icmp_ne (tgt := 74) hx hb dX0_insertCell_66 (by decide) (fun c_42 => ?_) (fun c_42 => ?_)
    · refine lv_sipush (v := 1064) hx hb dX0_insertCell_74 (by decide) ?_
      refine lv_iload_n hx hb dX0_insertCell_77 rfl (lv_at hl 4 rfl) ?_
      refine lv_iadd hx hb dX0_insertCell_78 ?_
      refine lv_iload_n hx hb dX0_insertCell_79 rfl (lv_at hl 1 rfl) ?_
      refine x_callv (As := [.int (1064 + a0), .int r_27]) (rest := []) ⟨hx, hb, hml, hown, hts⟩ (kX0_write l D h0 r0 cA σ_40 (1064 + a0) r_27) (cwV 2 hts gX0_insertCell_X0_write rfl rfl rfl (by decide +kernel) ⟨Nat.le_of_ble_eq_true rfl, Nat.le_of_ble_eq_true rfl⟩) G rfl hl.1 rfl (Nat.le_of_ble_eq_true rfl) dX0_insertCell_80 ⟨Nat.zero_le _, Nat.zero_le _⟩ (fun σ_44 H locs e_45 G => ?_)
      exact g_vret (u := σ_44) E G (by subst ev_38; (simp only [x_insertCell, x_insTail, e_3, c_4, e_23, e_26, e_29, e_32, e_35, e_41, c_42, e_45, ↓reduceIte]) <;> rfl) dX0_insertCell_83
    · refine lv_iload hx hb dX0_insertCell_69 (lv_at hl 0 rfl) ?_
      refine lv_goto (tgt := 79) hx hb dX0_insertCell_71 (by decide) ?_
      refine lv_iload_n hx hb dX0_insertCell_79 rfl (lv_at hl 1 rfl) ?_
      refine x_callv (As := [.int v_38, .int r_27]) (rest := []) ⟨hx, hb, hml, hown, hts⟩ (kX0_write l D h0 r0 cA σ_40 v_38 r_27) (cwV 2 hts gX0_insertCell_X0_write rfl rfl rfl (by decide +kernel) ⟨Nat.le_of_ble_eq_true rfl, Nat.le_of_ble_eq_true rfl⟩) G rfl hl.1 rfl (Nat.le_of_ble_eq_true rfl) dX0_insertCell_80 ⟨Nat.zero_le _, Nat.zero_le _⟩ (fun σ_47 H locs e_48 G => ?_)
      exact g_vret (u := σ_47) E G (by subst ev_38; (simp only [x_insertCell, x_insTail, e_3, c_4, e_23, e_26, e_29, e_32, e_35, e_41, c_42, e_48, ↓reduceIte]) <;> rfl) dX0_insertCell_83

set_option maxHeartbeats 4000000 in
set_option maxRecDepth 100000 in
theorem kX0_place (l : Launch) (D : va_G) (h0 r0 : Nat) (cA : ClassId) (σ : Sx) (a0 : Int32) (a1 : Int32) : gMv l yX0_place wsX0_place ({ frames := 3, cells := 0, slots := 0, locals := 68 }) D vwCl [(cA, .int)] [.ref h0, .int a0, .int a1] (xw h0 r0 cA) σ (fun σ' => x_place σ a0 a1 = σ') := by
  refine gMv_of (cc := cX0_place) (maxL := 6) (ret := none) (by decide) rfl (Nat.le_of_ble_eq_true rfl) ?_
  intro p e s m below meth c A ls E G hl
  obtain ⟨hx, hb, hml, hr, hlocks, hown, hts, -, -⟩ := id E
  have hin : ∀ w ∈ wsX00, w ∈ wsX0_place := fun w h => List.mem_cons_of_mem _ (List.mem_append_right _ h)
  have hl : lv_has ls 6 [(0, .ref h0), (1, .int a0), (2, .int a1)] := hl
  have loop : ∀ (n : Nat) (σ1 : Sx) (t : Int32) (k : Int32) (H : Heap) (locs : List Loc) (ls : Array Slot), ((8 : Int32).toInt - k.toInt).toNat < n → x_placeL a0 n σ1 t k = x_place σ a0 a1 → gG D vwCl [(cA, .int)] A s (xw h0 r0 cA σ1) H locs → lv_has ls 6 [(0, .ref h0), (1, .int a0), (2, .int a1), (3, .int t), (4, .int k)] → W p l e ({ frames := 3, cells := 0, slots := 0, locals := 68 }) s m [.ref h0, .int a0, .int a1].toArray below meth c H locs 0 0 (MQ below (va_Qv (fun σ' => x_place σ a0 a1 = σ') (gB D vwCl [(cA, .int)] A (xw h0 r0 cA)) A) [.ref h0, .int a0, .int a1].toArray s 0 0 A) (F0 m 19 ls []) := by
    intro n
    induction n with
    | zero => intro σ1 t k H locs ls hm; exact absurd hm (Nat.not_lt_zero _)
    | succ n ih =>
      intro σ1 t k H locs ls hm hinv G hl
      refine lv_iload hx hb dX0_place_19 (lv_at hl 4 rfl) ?_
      refine lv_bipush (v := 8) hx hb dX0_place_21 (by decide) ?_
      refine lv_icmp_ge (tgt := 67) hx hb dX0_place_23 (by decide) (fun c_1 => ?_) (fun c_1 => ?_)
      · exact g_vret (u := σ1) E G (by rw [← hinv]; (simp only [x_placeL, c_1, ↓reduceIte]) <;> rfl) dX0_place_67
      · refine lv_aload_n hx hb dX0_place_26 rfl (lv_at hl 0 rfl) ?_
        refine lv_iload_n hx hb dX0_place_27 rfl (lv_at hl 1 rfl) ?_
        refine lv_iload hx hb dX0_place_28 (lv_at hl 4 rfl) ?_
        refine x_calli (As := [.int a0, .int k]) (rest := []) ⟨hx, hb, hml, hown, hts⟩ (kX0_cutTop l D h0 r0 cA σ1 a0 k) (cwV 2 hts gX0_place_X0_cutTop rfl rfl rfl (by decide +kernel) ⟨Nat.le_of_ble_eq_true rfl, Nat.le_of_ble_eq_true rfl⟩) G rfl hl.1 rfl (Nat.le_of_ble_eq_true rfl) dX0_place_30 ⟨Nat.zero_le _, Nat.zero_le _⟩ (fun r_2 σ_3 H locs e_4 G => ?_)
        refine lv_istore (lv' := [(5, .int r_2), (0, .ref h0), (1, .int a0), (2, .int a1), (3, .int t), (4, .int k)]) hx hb dX0_place_33 hl (by decide) rfl (fun ls hl => ?_)
        refine lv_iload hx hb dX0_place_35 (lv_at hl 0 rfl) ?_
        refine lv_iconst (v := (-1)) hx hb dX0_place_37 (by decide) ?_
        refine lv_icmp_ne (tgt := 53) hx hb dX0_place_38 (by decide) (fun c_5 => ?_) (fun c_5 => ?_)
        · refine lv_aload_n hx hb dX0_place_53 rfl (lv_at hl 1 rfl) ?_
          refine lv_iload_n hx hb dX0_place_54 rfl (lv_at hl 4 rfl) ?_
          refine lv_iload hx hb dX0_place_55 (lv_at hl 0 rfl) ?_
          refine x_calli (As := [.int t, .int r_2]) (rest := []) ⟨hx, hb, hml, hown, hts⟩ (kX0_link l D h0 r0 cA σ_3 t r_2) (cwV 2 hts gX0_place_X0_link rfl rfl rfl (by decide +kernel) ⟨Nat.le_of_ble_eq_true rfl, Nat.le_of_ble_eq_true rfl⟩) G rfl hl.1 rfl (Nat.le_of_ble_eq_true rfl) dX0_place_57 ⟨Nat.zero_le _, Nat.zero_le _⟩ (fun r_6 σ_7 H locs e_8 G => ?_)
          refine lv_istore_n (lv' := [(3, .int r_6), (5, .int r_2), (0, .ref h0), (1, .int a0), (2, .int a1), (4, .int k)]) hx hb dX0_place_60 rfl hl (by decide) rfl (fun ls hl => ?_)
          obtain ⟨v_9, ev_9⟩ : ∃ y : Int32, y = k + 1 := ⟨_, rfl⟩
          refine lv_iinc (v := v_9) (lv' := [(4, .int v_9), (3, .int r_6), (5, .int r_2), (0, .ref h0), (1, .int a0), (2, .int a1)]) hx hb dX0_place_61 hl (k := 5) rfl (by rw [ev_9]; rfl) (by decide) rfl (fun ls hl => ?_)
          refine lv_goto (tgt := 19) hx hb dX0_place_64 (by decide) ?_
          exact ih σ_7 r_6 v_9 _ _ _ (by subst ev_9; exact Nat.lt_of_lt_of_le (x_meas c_1) (Nat.le_of_lt_succ hm)) (by subst ev_9; rw [← hinv]; (simp only [x_placeL, c_1, e_4, c_5, e_8, ↓reduceIte]) <;> rfl) G (lv_sub hl [3, 4, 5, 1, 0] rfl)
        · refine lv_aload_n hx hb dX0_place_41 rfl (lv_at hl 1 rfl) ?_
          refine lv_iload_n hx hb dX0_place_42 rfl (lv_at hl 2 rfl) ?_
          refine lv_iload hx hb dX0_place_43 (lv_at hl 5 rfl) ?_
          refine g_calls (As := [.int a0, .int k]) (rest := [.ref h0]) ⟨hx, hb, hml, hown, hts⟩ (kX0_topAt l a0 k) (va_cwS 2 hts gX0_place_X0_topAt rfl rfl rfl (by decide +kernel) ⟨Nat.le_of_ble_eq_true rfl, Nat.le_of_ble_eq_true rfl⟩) G rfl hl.1 rfl (Nat.le_of_ble_eq_true rfl) dX0_place_45 ⟨Nat.zero_le _, Nat.zero_le _⟩ (fun r_10 H locs e_11 G => ?_)
          subst e_11
          refine lv_iload_n hx hb dX0_place_48 rfl (lv_at hl 4 rfl) ?_
          refine x_callv (As := [.int (x_topAt a0 k), .int t]) (rest := []) ⟨hx, hb, hml, hown, hts⟩ (kX0_write l D h0 r0 cA σ_3 (x_topAt a0 k) t) (cwV 2 hts gX0_place_X0_write rfl rfl rfl (by decide +kernel) ⟨Nat.le_of_ble_eq_true rfl, Nat.le_of_ble_eq_true rfl⟩) G rfl hl.1 rfl (Nat.le_of_ble_eq_true rfl) dX0_place_49 ⟨Nat.zero_le _, Nat.zero_le _⟩ (fun σ_13 H locs e_14 G => ?_)
          exact g_vret (u := σ_13) E G (by rw [← hinv]; (simp only [x_placeL, c_1, e_4, c_5, e_14, ↓reduceIte]) <;> rfl) dX0_place_52
  refine lv_iload_n hx hb dX0_place_0 rfl (lv_at hl 2 rfl) ?_
  refine lv_iconst (v := (-1)) hx hb dX0_place_1 (by decide) ?_
  refine lv_icmp_ne (tgt := 6) hx hb dX0_place_2 (by decide) (fun c_15 => ?_) (fun c_15 => ?_)
  · refine lv_iload_n hx hb dX0_place_6 rfl (lv_at hl 2 rfl) ?_
    refine lv_istore_n (lv' := [(3, .int a1), (0, .ref h0), (1, .int a0), (2, .int a1)]) hx hb dX0_place_7 rfl hl (by decide) rfl (fun ls hl => ?_)
    refine lv_aload_n hx hb dX0_place_8 rfl (lv_at hl 1 rfl) ?_
    refine lv_sipush (v := 200) hx hb dX0_place_9 (by decide) ?_
    refine lv_iload_n hx hb dX0_place_12 rfl (lv_at hl 3 rfl) ?_
    refine lv_iadd hx hb dX0_place_13 ?_
    refine x_calli (As := [.int (200 + a1)]) (rest := []) ⟨hx, hb, hml, hown, hts⟩ (kX0_read l D h0 r0 cA σ (200 + a1)) (cwV 1 hts gX0_place_X0_read rfl rfl rfl (by decide +kernel) ⟨Nat.le_of_ble_eq_true rfl, Nat.le_of_ble_eq_true rfl⟩) G rfl hl.1 rfl (Nat.le_of_ble_eq_true rfl) dX0_place_14 ⟨Nat.zero_le _, Nat.zero_le _⟩ (fun r_16 σ_17 H locs e_18 G => ?_)
    refine lv_istore (lv' := [(4, .int r_16), (3, .int a1), (0, .ref h0), (1, .int a0), (2, .int a1)]) hx hb dX0_place_17 hl (by decide) rfl (fun ls hl => ?_)
    exact loop ((8 - r_16.toInt).toNat + 1) σ_17 a1 r_16 _ _ _ (Nat.lt_succ_self _) (by (simp only [x_place, c_15, e_18, ↓reduceIte]) <;> rfl) G (lv_sub hl [2, 3, 4, 1, 0] rfl)
  · exact g_vret (u := σ) E G (by (simp only [x_place, c_15, ↓reduceIte]) <;> rfl) dX0_place_5

set_option maxHeartbeats 4000000 in
set_option maxRecDepth 100000 in
theorem kX0_placeChildren (l : Launch) (D : va_G) (h0 r0 : Nat) (cA : ClassId) (σ : Sx) (a0 : Int32) (a1 : Int32) : gMv l yX0_placeChildren wsX0_placeChildren ({ frames := 4, cells := 0, slots := 0, locals := 93 }) D vwCl [(cA, .int)] [.ref h0, .int a0, .int a1] (xw h0 r0 cA) σ (fun σ' => x_placeChildren σ a0 a1 = σ') := by
  refine gMv_of (cc := cX0_placeChildren) (maxL := 6) (ret := none) (by decide) rfl (Nat.le_of_ble_eq_true rfl) ?_
  intro p e s m below meth c A ls E G hl
  obtain ⟨hx, hb, hml, hr, hlocks, hown, hts, -, -⟩ := id E
  have hin : ∀ w ∈ wsX00, w ∈ wsX0_placeChildren := fun w h => List.mem_cons_of_mem _ (List.mem_append_right _ h)
  have hl : lv_has ls 6 [(0, .ref h0), (1, .int a0), (2, .int a1)] := hl
  have loop : ∀ (n : Nat) (σ1 : Sx) (t : Int32) (k : Int32) (H : Heap) (locs : List Loc) (ls : Array Slot), ((200 : Int32).toInt - k.toInt).toNat < n → y_pcL a0 n σ1 t k = x_placeChildren σ a0 a1 → gG D vwCl [(cA, .int)] A s (xw h0 r0 cA σ1) H locs → lv_has ls 6 [(0, .ref h0), (1, .int a0), (2, .int a1), (3, .int t), (4, .int k)] → W p l e ({ frames := 4, cells := 0, slots := 0, locals := 93 }) s m [.ref h0, .int a0, .int a1].toArray below meth c H locs 0 0 (MQ below (va_Qv (fun σ' => x_placeChildren σ a0 a1 = σ') (gB D vwCl [(cA, .int)] A (xw h0 r0 cA)) A) [.ref h0, .int a0, .int a1].toArray s 0 0 A) (F0 m 13 ls []) := by
    intro n
    induction n with
    | zero => intro σ1 t k H locs ls hm; exact absurd hm (Nat.not_lt_zero _)
    | succ n ih =>
      intro σ1 t k H locs ls hm hinv G hl
      refine lv_iload hx hb dX0_placeChildren_13 (lv_at hl 4 rfl) ?_
      refine lv_sipush (v := 200) hx hb dX0_placeChildren_15 (by decide) ?_
      refine lv_icmp_ge (tgt := 52) hx hb dX0_placeChildren_18 (by decide) (fun c_1 => ?_) (fun c_1 => ?_)
      · exact g_vret (u := σ1) E G (by rw [← hinv]; (simp only [y_pcL, c_1, ↓reduceIte]) <;> rfl) dX0_placeChildren_52
      · refine lv_iload_n hx hb dX0_placeChildren_21 rfl (lv_at hl 3 rfl) ?_
        refine lv_iconst (v := (-1)) hx hb dX0_placeChildren_22 (by decide) ?_
        refine lv_icmp_eq (tgt := 52) hx hb dX0_placeChildren_23 (by decide) (fun c_2 => ?_) (fun c_2 => ?_)
        · exact g_vret (u := σ1) E G (by rw [← hinv]; (simp only [y_pcL, c_1, c_2, ↓reduceIte]) <;> rfl) dX0_placeChildren_52
        · refine lv_aload_n hx hb dX0_placeChildren_26 rfl (lv_at hl 0 rfl) ?_
          refine lv_sipush (v := 600) hx hb dX0_placeChildren_27 (by decide) ?_
          refine lv_iload_n hx hb dX0_placeChildren_30 rfl (lv_at hl 3 rfl) ?_
          refine lv_iadd hx hb dX0_placeChildren_31 ?_
          refine x_calli (As := [.int (600 + t)]) (rest := []) ⟨hx, hb, hml, hown, hts⟩ (kX0_read l D h0 r0 cA σ1 (600 + t)) (cwV 1 hts gX0_placeChildren_X0_read rfl rfl rfl (by decide +kernel) ⟨Nat.le_of_ble_eq_true rfl, Nat.le_of_ble_eq_true rfl⟩) G rfl hl.1 rfl (Nat.le_of_ble_eq_true rfl) dX0_placeChildren_32 ⟨Nat.zero_le _, Nat.zero_le _⟩ (fun r_3 σ_4 H locs e_5 G => ?_)
          refine lv_istore (lv' := [(5, .int r_3), (0, .ref h0), (1, .int a0), (2, .int a1), (3, .int t), (4, .int k)]) hx hb dX0_placeChildren_35 hl (by decide) rfl (fun ls hl => ?_)
          refine lv_aload_n hx hb dX0_placeChildren_37 rfl (lv_at hl 1 rfl) ?_
          refine lv_iload_n hx hb dX0_placeChildren_38 rfl (lv_at hl 2 rfl) ?_
          refine lv_iload_n hx hb dX0_placeChildren_39 rfl (lv_at hl 4 rfl) ?_
          refine x_callv (As := [.int a0, .int t]) (rest := []) ⟨hx, hb, hml, hown, hts⟩ (kX0_place l D h0 r0 cA σ_4 a0 t) (cwV 2 hts gX0_placeChildren_X0_place rfl rfl rfl (by decide +kernel) ⟨Nat.le_of_ble_eq_true rfl, Nat.le_of_ble_eq_true rfl⟩) G rfl hl.1 rfl (Nat.le_of_ble_eq_true rfl) dX0_placeChildren_40 ⟨Nat.zero_le _, Nat.zero_le _⟩ (fun σ_7 H locs e_8 G => ?_)
          refine lv_iload hx hb dX0_placeChildren_43 (lv_at hl 0 rfl) ?_
          refine lv_istore_n (lv' := [(3, .int r_3), (5, .int r_3), (0, .ref h0), (1, .int a0), (2, .int a1), (4, .int k)]) hx hb dX0_placeChildren_45 rfl hl (by decide) rfl (fun ls hl => ?_)
          obtain ⟨v_9, ev_9⟩ : ∃ y : Int32, y = k + 1 := ⟨_, rfl⟩
          refine lv_iinc (v := v_9) (lv' := [(4, .int v_9), (3, .int r_3), (5, .int r_3), (0, .ref h0), (1, .int a0), (2, .int a1)]) hx hb dX0_placeChildren_46 hl (k := 5) rfl (by rw [ev_9]; rfl) (by decide) rfl (fun ls hl => ?_)
          refine lv_goto (tgt := 13) hx hb dX0_placeChildren_49 (by decide) ?_
          exact ih σ_7 r_3 v_9 _ _ _ (by subst ev_9; exact Nat.lt_of_lt_of_le (x_meas c_1) (Nat.le_of_lt_succ hm)) (by subst ev_9; rw [← hinv]; (simp only [y_pcL, c_1, c_2, e_5, e_8, ↓reduceIte]) <;> rfl) G (lv_sub hl [3, 4, 5, 1, 0] rfl)
  refine lv_aload_n hx hb dX0_placeChildren_0 rfl (lv_at hl 0 rfl) ?_
  refine lv_sipush (v := 400) hx hb dX0_placeChildren_1 (by decide) ?_
  refine lv_iload_n hx hb dX0_placeChildren_4 rfl (lv_at hl 2 rfl) ?_
  refine lv_iadd hx hb dX0_placeChildren_5 ?_
  refine x_calli (As := [.int (400 + a1)]) (rest := []) ⟨hx, hb, hml, hown, hts⟩ (kX0_read l D h0 r0 cA σ (400 + a1)) (cwV 1 hts gX0_placeChildren_X0_read rfl rfl rfl (by decide +kernel) ⟨Nat.le_of_ble_eq_true rfl, Nat.le_of_ble_eq_true rfl⟩) G rfl hl.1 rfl (Nat.le_of_ble_eq_true rfl) dX0_placeChildren_6 ⟨Nat.zero_le _, Nat.zero_le _⟩ (fun r_10 σ_11 H locs e_12 G => ?_)
  refine lv_istore_n (lv' := [(3, .int r_10), (0, .ref h0), (1, .int a0), (2, .int a1)]) hx hb dX0_placeChildren_9 rfl hl (by decide) rfl (fun ls hl => ?_)
  refine lv_iconst (v := 0) hx hb dX0_placeChildren_10 (by decide) ?_
  refine lv_istore (lv' := [(4, .int 0), (3, .int r_10), (0, .ref h0), (1, .int a0), (2, .int a1)]) hx hb dX0_placeChildren_11 hl (by decide) rfl (fun ls hl => ?_)
  exact loop (201) σ_11 r_10 0 _ _ _ (by decide) (by (simp only [x_placeChildren, e_12, ↓reduceIte]) <;> rfl) G (lv_sub hl [2, 3, 4, 1, 0] rfl)

set_option maxHeartbeats 4000000 in
set_option maxRecDepth 100000 in
theorem kX0_leastRoot (l : Launch) (D : va_G) (h0 r0 : Nat) (cA : ClassId) (σ : Sx) (a0 : Int32) : gMi l yX0_leastRoot wsX0_leastRoot ({ frames := 2, cells := 0, slots := 0, locals := 43 }) D vwCl [(cA, .int)] [.ref h0, .int a0] (xw h0 r0 cA) σ (fun r σ' => x_leastRoot σ a0 = (r, σ')) := by
  refine gMi_of (cc := cX0_leastRoot) (maxL := 4) (ret := (some .int)) (by decide) rfl (Nat.le_of_ble_eq_true rfl) ?_
  intro p e s m below meth c A ls E G hl
  obtain ⟨hx, hb, hml, hr, hlocks, hown, hts, -, -⟩ := id E
  have hin : ∀ w ∈ wsX00, w ∈ wsX0_leastRoot := fun w h => List.mem_cons_of_mem _ (List.mem_append_right _ h)
  have hl : lv_has ls 4 [(0, .ref h0), (1, .int a0)] := hl
  have loop : ∀ (n : Nat) (σ1 : Sx) (t : Int32) (k : Int32) (H : Heap) (locs : List Loc) (ls : Array Slot), ((8 : Int32).toInt - k.toInt).toNat < n → y_lrL a0 n σ1 t k = x_leastRoot σ a0 → gG D vwCl [(cA, .int)] A s (xw h0 r0 cA σ1) H locs → lv_has ls 4 [(0, .ref h0), (1, .int a0), (2, .int t), (3, .int k)] → W p l e ({ frames := 2, cells := 0, slots := 0, locals := 43 }) s m [.ref h0, .int a0].toArray below meth c H locs 0 0 (MQ below (va_Qi (fun r σ' => x_leastRoot σ a0 = (r, σ')) (gB D vwCl [(cA, .int)] A (xw h0 r0 cA)) A) [.ref h0, .int a0].toArray s 0 0 A) (F0 m 22 ls []) := by
    intro n
    induction n with
    | zero => intro σ1 t k H locs ls hm; exact absurd hm (Nat.not_lt_zero _)
    | succ n ih =>
      intro σ1 t k H locs ls hm hinv G hl
      refine lv_iload_n hx hb dX0_leastRoot_22 rfl (lv_at hl 3 rfl) ?_
      refine lv_bipush (v := 8) hx hb dX0_leastRoot_23 (by decide) ?_
      refine lv_icmp_ge (tgt := 49) hx hb dX0_leastRoot_25 (by decide) (fun c_1 => ?_) (fun c_1 => ?_)
      · refine lv_iload_n hx hb dX0_leastRoot_49 rfl (lv_at hl 2 rfl) ?_
        exact g_iret (u := σ1) E G (by rw [← hinv]; (simp only [y_lrL, c_1, ↓reduceIte]) <;> rfl) dX0_leastRoot_50
      · refine lv_aload_n hx hb dX0_leastRoot_28 rfl (lv_at hl 0 rfl) ?_
        refine lv_iload_n hx hb dX0_leastRoot_29 rfl (lv_at hl 2 rfl) ?_
        refine lv_aload_n hx hb dX0_leastRoot_30 rfl (lv_at hl 0 rfl) ?_
        refine lv_iload_n hx hb dX0_leastRoot_31 rfl (lv_at hl 1 rfl) ?_
        refine lv_iload_n hx hb dX0_leastRoot_32 rfl (lv_at hl 3 rfl) ?_
        refine g_calls (As := [.int a0, .int k]) (rest := [.ref h0, .int t, .ref h0]) ⟨hx, hb, hml, hown, hts⟩ (kX0_topAt l a0 k) (va_cwS 2 hts gX0_leastRoot_X0_topAt rfl rfl rfl (by decide +kernel) ⟨Nat.le_of_ble_eq_true rfl, Nat.le_of_ble_eq_true rfl⟩) G rfl hl.1 rfl (Nat.le_of_ble_eq_true rfl) dX0_leastRoot_33 ⟨Nat.zero_le _, Nat.zero_le _⟩ (fun r_2 H locs e_3 G => ?_)
        subst e_3
        refine x_calli (As := [.int (x_topAt a0 k)]) (rest := [.int t, .ref h0]) ⟨hx, hb, hml, hown, hts⟩ (kX0_read l D h0 r0 cA σ1 (x_topAt a0 k)) (cwV 1 hts gX0_leastRoot_X0_read rfl rfl rfl (by decide +kernel) ⟨Nat.le_of_ble_eq_true rfl, Nat.le_of_ble_eq_true rfl⟩) G rfl hl.1 rfl (Nat.le_of_ble_eq_true rfl) dX0_leastRoot_36 ⟨Nat.zero_le _, Nat.zero_le _⟩ (fun r_4 σ_5 H locs e_6 G => ?_)
        refine x_calli (As := [.int t, .int r_4]) (rest := []) ⟨hx, hb, hml, hown, hts⟩ (kX0_lesserRoot l D h0 r0 cA σ_5 t r_4) (cwV 2 hts gX0_leastRoot_X0_lesserRoot rfl rfl rfl (by decide +kernel) ⟨Nat.le_of_ble_eq_true rfl, Nat.le_of_ble_eq_true rfl⟩) G rfl hl.1 rfl (Nat.le_of_ble_eq_true rfl) dX0_leastRoot_39 ⟨Nat.zero_le _, Nat.zero_le _⟩ (fun r_7 σ_8 H locs e_9 G => ?_)
        refine lv_istore_n (lv' := [(2, .int r_7), (0, .ref h0), (1, .int a0), (3, .int k)]) hx hb dX0_leastRoot_42 rfl hl (by decide) rfl (fun ls hl => ?_)
        obtain ⟨v_10, ev_10⟩ : ∃ y : Int32, y = k + 1 := ⟨_, rfl⟩
        refine lv_iinc (v := v_10) (lv' := [(3, .int v_10), (2, .int r_7), (0, .ref h0), (1, .int a0)]) hx hb dX0_leastRoot_43 hl (k := 3) rfl (by rw [ev_10]; rfl) (by decide) rfl (fun ls hl => ?_)
        refine lv_goto (tgt := 22) hx hb dX0_leastRoot_46 (by decide) ?_
        exact ih σ_8 r_7 v_10 _ _ _ (by subst ev_10; exact Nat.lt_of_lt_of_le (x_meas c_1) (Nat.le_of_lt_succ hm)) (by subst ev_10; rw [← hinv]; (simp only [y_lrL, c_1, e_6, e_9, ↓reduceIte]) <;> rfl) G (lv_sub hl [2, 3, 1, 0] rfl)
  refine lv_aload_n hx hb dX0_leastRoot_0 rfl (lv_at hl 0 rfl) ?_
  refine lv_iload_n hx hb dX0_leastRoot_1 rfl (lv_at hl 1 rfl) ?_
  refine x_calli (As := [.int a0]) (rest := []) ⟨hx, hb, hml, hown, hts⟩ (kX0_exists l D h0 r0 cA σ a0) (cwV 1 hts gX0_leastRoot_X0_exists rfl rfl rfl (by decide +kernel) ⟨Nat.le_of_ble_eq_true rfl, Nat.le_of_ble_eq_true rfl⟩) G rfl hl.1 rfl (Nat.le_of_ble_eq_true rfl) dX0_leastRoot_2 ⟨Nat.zero_le _, Nat.zero_le _⟩ (fun r_11 σ_12 H locs e_13 G => ?_)
  obtain ⟨rfl, rfl⟩ := e_13
  refine lv_if_ne (tgt := 10) hx hb dX0_leastRoot_5 (by decide) (fun c_14 => ?_) (fun c_14 => ?_)
  · refine lv_aload_n hx hb dX0_leastRoot_10 rfl (lv_at hl 0 rfl) ?_
    refine lv_sipush (v := 1064) hx hb dX0_leastRoot_11 (by decide) ?_
    refine lv_iload_n hx hb dX0_leastRoot_14 rfl (lv_at hl 1 rfl) ?_
    refine lv_iadd hx hb dX0_leastRoot_15 ?_
    refine x_calli (As := [.int (1064 + a0)]) (rest := []) ⟨hx, hb, hml, hown, hts⟩ (kX0_read l D h0 r0 cA σ (1064 + a0)) (cwV 1 hts gX0_leastRoot_X0_read rfl rfl rfl (by decide +kernel) ⟨Nat.le_of_ble_eq_true rfl, Nat.le_of_ble_eq_true rfl⟩) G rfl hl.1 rfl (Nat.le_of_ble_eq_true rfl) dX0_leastRoot_16 ⟨Nat.zero_le _, Nat.zero_le _⟩ (fun r_15 σ_16 H locs e_17 G => ?_)
    refine lv_istore_n (lv' := [(2, .int r_15), (0, .ref h0), (1, .int a0)]) hx hb dX0_leastRoot_19 rfl hl (by decide) rfl (fun ls hl => ?_)
    refine lv_iconst (v := 0) hx hb dX0_leastRoot_20 (by decide) ?_
    refine lv_istore_n (lv' := [(3, .int 0), (2, .int r_15), (0, .ref h0), (1, .int a0)]) hx hb dX0_leastRoot_21 rfl hl (by decide) rfl (fun ls hl => ?_)
    exact loop (9) σ_16 r_15 0 _ _ _ (by decide) (by (simp only [x_leastRoot, c_14, e_17, ↓reduceIte]) <;> rfl) G (lv_sub hl [2, 3, 1, 0] rfl)
  · refine lv_iconst (v := (-1)) hx hb dX0_leastRoot_8 (by decide) ?_
    exact g_iret (u := σ) E G (by (simp only [x_leastRoot, c_14, ↓reduceIte]) <;> rfl) dX0_leastRoot_9

set_option maxHeartbeats 4000000 in
set_option maxRecDepth 100000 in
theorem kX0_cutRoot (l : Launch) (D : va_G) (h0 r0 : Nat) (cA : ClassId) (σ : Sx) (a0 : Int32) (a1 : Int32) : gMv l yX0_cutRoot wsX0_cutRoot ({ frames := 4, cells := 0, slots := 0, locals := 93 }) D vwCl [(cA, .int)] [.ref h0, .int a0, .int a1] (xw h0 r0 cA) σ (fun σ' => x_cutRoot σ a0 a1 = σ') := by
  refine gMv_of (cc := cX0_cutRoot) (maxL := 4) (ret := none) (by decide) rfl (Nat.le_of_ble_eq_true rfl) ?_
  intro p e s m below meth c A ls E G hl
  obtain ⟨hx, hb, hml, hr, hlocks, hown, hts, -, -⟩ := id E
  have hin : ∀ w ∈ wsX00, w ∈ wsX0_cutRoot := fun w h => List.mem_cons_of_mem _ (List.mem_append_right _ h)
  have hl : lv_has ls 4 [(0, .ref h0), (1, .int a0), (2, .int a1)] := hl
  refine lv_aload_n hx hb dX0_cutRoot_0 rfl (lv_at hl 0 rfl) ?_
  refine lv_iload_n hx hb dX0_cutRoot_1 rfl (lv_at hl 1 rfl) ?_
  refine x_calli (As := [.int a0]) (rest := []) ⟨hx, hb, hml, hown, hts⟩ (kX0_cutTwin l D h0 r0 cA σ a0) (cwV 1 hts gX0_cutRoot_X0_cutTwin rfl rfl rfl (by decide +kernel) ⟨Nat.le_of_ble_eq_true rfl, Nat.le_of_ble_eq_true rfl⟩) G rfl hl.1 rfl (Nat.le_of_ble_eq_true rfl) dX0_cutRoot_2 ⟨Nat.zero_le _, Nat.zero_le _⟩ (fun r_1 σ_2 H locs e_3 G => ?_)
  refine lv_istore_n (lv' := [(3, .int r_1), (0, .ref h0), (1, .int a0), (2, .int a1)]) hx hb dX0_cutRoot_5 rfl hl (by decide) rfl (fun ls hl => ?_)
  refine lv_iload_n hx hb dX0_cutRoot_6 rfl (lv_at hl 0 rfl) ?_
  refine lv_iload_n hx hb dX0_cutRoot_7 rfl (lv_at hl 3 rfl) ?_
  refine lv_icmp_eq (tgt := 32) hx hb dX0_cutRoot_8 (by decide) (fun c_4 => ?_) (fun c_4 => ?_)
  · exact g_vret (u := σ_2) E G (by (simp only [x_cutRoot, e_3, if_pos c_4, ↓reduceIte]) <;> rfl) dX0_cutRoot_32
  · refine lv_aload_n hx hb dX0_cutRoot_11 rfl (lv_at hl 1 rfl) ?_
    refine lv_iload_n hx hb dX0_cutRoot_12 rfl (lv_at hl 2 rfl) ?_
    refine lv_aload_n hx hb dX0_cutRoot_13 rfl (lv_at hl 1 rfl) ?_
    refine lv_sipush (v := 200) hx hb dX0_cutRoot_14 (by decide) ?_
    refine lv_iload_n hx hb dX0_cutRoot_17 rfl (lv_at hl 3 rfl) ?_
    refine lv_iadd hx hb dX0_cutRoot_18 ?_
    refine x_calli (As := [.int (200 + a1)]) (rest := [.int a0, .ref h0]) ⟨hx, hb, hml, hown, hts⟩ (kX0_read l D h0 r0 cA σ_2 (200 + a1)) (cwV 1 hts gX0_cutRoot_X0_read rfl rfl rfl (by decide +kernel) ⟨Nat.le_of_ble_eq_true rfl, Nat.le_of_ble_eq_true rfl⟩) G rfl hl.1 rfl (Nat.le_of_ble_eq_true rfl) dX0_cutRoot_19 ⟨Nat.zero_le _, Nat.zero_le _⟩ (fun r_5 σ_6 H locs e_7 G => ?_)
    refine x_calli (As := [.int a0, .int r_5]) (rest := []) ⟨hx, hb, hml, hown, hts⟩ (kX0_cutTop l D h0 r0 cA σ_6 a0 r_5) (cwV 2 hts gX0_cutRoot_X0_cutTop rfl rfl rfl (by decide +kernel) ⟨Nat.le_of_ble_eq_true rfl, Nat.le_of_ble_eq_true rfl⟩) G rfl hl.1 rfl (Nat.le_of_ble_eq_true rfl) dX0_cutRoot_22 ⟨Nat.zero_le _, Nat.zero_le _⟩ (fun r_8 σ_9 H locs e_10 G => ?_)
    refine lv_pop hx hb dX0_cutRoot_25 rfl ?_
    refine lv_aload_n hx hb dX0_cutRoot_26 rfl (lv_at hl 1 rfl) ?_
    refine lv_iload_n hx hb dX0_cutRoot_27 rfl (lv_at hl 2 rfl) ?_
    refine lv_iload_n hx hb dX0_cutRoot_28 rfl (lv_at hl 0 rfl) ?_
    refine x_callv (As := [.int a0, .int r_1]) (rest := []) ⟨hx, hb, hml, hown, hts⟩ (kX0_place l D h0 r0 cA σ_9 a0 r_1) (cwV 2 hts gX0_cutRoot_X0_place rfl rfl rfl (by decide +kernel) ⟨Nat.le_of_ble_eq_true rfl, Nat.le_of_ble_eq_true rfl⟩) G rfl hl.1 rfl (Nat.le_of_ble_eq_true rfl) dX0_cutRoot_29 ⟨Nat.zero_le _, Nat.zero_le _⟩ (fun σ_12 H locs e_13 G => ?_)
    exact g_vret (u := σ_12) E G (by (simp only [x_cutRoot, e_3, c_4, e_7, e_10, e_13, ↓reduceIte]) <;> rfl) dX0_cutRoot_32
