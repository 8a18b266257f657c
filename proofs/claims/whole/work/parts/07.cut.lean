set_option maxHeartbeats 4000000 in
set_option maxRecDepth 100000 in
theorem kX0_cutTop (l : Launch) (D : va_G) (h0 r0 : Nat) (cA : ClassId) (σ : Sx) (a0 : Int32) (a1 : Int32) : gMi l yX0_cutTop wsX0_cutTop ({ frames := 1, cells := 0, slots := 0, locals := 22 }) D vwCl [(cA, .int)] [.ref h0, .int a0, .int a1] (xw h0 r0 cA) σ (fun r σ' => x_cutTop σ a0 a1 = (r, σ')) := by
  refine gMi_of (cc := cX0_cutTop) (maxL := 4) (ret := (some .int)) (by decide) rfl (Nat.le_of_ble_eq_true rfl) ?_
  intro p e s m below meth c A ls E G hl
  obtain ⟨hx, hb, hml, hr, hlocks, hown, hts, -, -⟩ := id E
  have hin : ∀ w ∈ wsX00, w ∈ wsX0_cutTop := fun w h => List.mem_cons_of_mem _ (List.mem_append_right _ h)
  have hl : lv_has ls 4 [(0, .ref h0), (1, .int a0), (2, .int a1)] := hl
  refine lv_aload_n hx hb dX0_cutTop_0 rfl (lv_at hl 0 rfl) ?_
  refine lv_iload_n hx hb dX0_cutTop_1 rfl (lv_at hl 1 rfl) ?_
  refine lv_iload_n hx hb dX0_cutTop_2 rfl (lv_at hl 2 rfl) ?_
  refine g_calls (As := [.int a0, .int a1]) (rest := [.ref h0]) ⟨hx, hb, hml, hown, hts⟩ (kX0_topAt l a0 a1) (va_cwS 2 hts gX0_cutTop_X0_topAt rfl rfl rfl (by decide +kernel) ⟨Nat.le_of_ble_eq_true rfl, Nat.le_of_ble_eq_true rfl⟩) G rfl hl.1 rfl (Nat.le_of_ble_eq_true rfl) dX0_cutTop_3 ⟨Nat.zero_le _, Nat.zero_le _⟩ (fun r_1 H locs e_2 G => ?_)
  subst e_2
  refine x_calli (As := [.int (x_topAt a0 a1)]) (rest := []) ⟨hx, hb, hml, hown, hts⟩ (kX0_read l D h0 r0 cA σ (x_topAt a0 a1)) (cwV 1 hts gX0_cutTop_X0_read rfl rfl rfl (by decide +kernel) ⟨Nat.le_of_ble_eq_true rfl, Nat.le_of_ble_eq_true rfl⟩) G rfl hl.1 rfl (Nat.le_of_ble_eq_true rfl) dX0_cutTop_6 ⟨Nat.zero_le _, Nat.zero_le _⟩ (fun r_3 σ_4 H locs e_5 G => ?_)
  refine lv_istore_n (lv' := [(3, .int r_3), (0, .ref h0), (1, .int a0), (2, .int a1)]) hx hb dX0_cutTop_9 rfl hl (by decide) rfl (fun ls hl => ?_)
  refine lv_aload_n hx hb dX0_cutTop_10 rfl (lv_at hl 1 rfl) ?_
  refine lv_iload_n hx hb dX0_cutTop_11 rfl (lv_at hl 2 rfl) ?_
  refine lv_iload_n hx hb dX0_cutTop_12 rfl (lv_at hl 3 rfl) ?_
  refine g_calls (As := [.int a0, .int a1]) (rest := [.ref h0]) ⟨hx, hb, hml, hown, hts⟩ (kX0_topAt l a0 a1) (va_cwS 2 hts gX0_cutTop_X0_topAt rfl rfl rfl (by decide +kernel) ⟨Nat.le_of_ble_eq_true rfl, Nat.le_of_ble_eq_true rfl⟩) G rfl hl.1 rfl (Nat.le_of_ble_eq_true rfl) dX0_cutTop_13 ⟨Nat.zero_le _, Nat.zero_le _⟩ (fun r_6 H locs e_7 G => ?_)
  subst e_7
  refine lv_iconst (v := (-1)) hx hb dX0_cutTop_16 (by decide) ?_
  refine x_callv (As := [.int (x_topAt a0 a1), .int (-1)]) (rest := []) ⟨hx, hb, hml, hown, hts⟩ (kX0_write l D h0 r0 cA σ_4 (x_topAt a0 a1) (-1)) (cwV 2 hts gX0_cutTop_X0_write rfl rfl rfl (by decide +kernel) ⟨Nat.le_of_ble_eq_true rfl, Nat.le_of_ble_eq_true rfl⟩) G rfl hl.1 rfl (Nat.le_of_ble_eq_true rfl) dX0_cutTop_17 ⟨Nat.zero_le _, Nat.zero_le _⟩ (fun σ_9 H locs e_10 G => ?_)
  refine lv_iload_n hx hb dX0_cutTop_20 rfl (lv_at hl 0 rfl) ?_
  exact g_iret (u := σ_9) E G (by (simp only [x_cutTop, e_5, e_10, ↓reduceIte]) <;> rfl) dX0_cutTop_21

set_option maxHeartbeats 4000000 in
set_option maxRecDepth 100000 in
theorem kX0_cutTwin (l : Launch) (D : va_G) (h0 r0 : Nat) (cA : ClassId) (σ : Sx) (a0 : Int32) : gMi l yX0_cutTwin wsX0_cutTwin ({ frames := 1, cells := 0, slots := 0, locals := 22 }) D vwCl [(cA, .int)] [.ref h0, .int a0] (xw h0 r0 cA) σ (fun r σ' => x_cutTwin σ a0 = (r, σ')) := by
  refine gMi_of (cc := cX0_cutTwin) (maxL := 3) (ret := (some .int)) (by decide) rfl (Nat.le_of_ble_eq_true rfl) ?_
  intro p e s m below meth c A ls E G hl
  obtain ⟨hx, hb, hml, hr, hlocks, hown, hts, -, -⟩ := id E
  have hin : ∀ w ∈ wsX00, w ∈ wsX0_cutTwin := fun w h => List.mem_cons_of_mem _ (List.mem_append_right _ h)
  have hl : lv_has ls 3 [(0, .ref h0), (1, .int a0)] := hl
  refine lv_aload_n hx hb dX0_cutTwin_0 rfl (lv_at hl 0 rfl) ?_
  refine lv_sipush (v := 1064) hx hb dX0_cutTwin_1 (by decide) ?_
  refine lv_iload_n hx hb dX0_cutTwin_4 rfl (lv_at hl 1 rfl) ?_
  refine lv_iadd hx hb dX0_cutTwin_5 ?_
  refine x_calli (As := [.int (1064 + a0)]) (rest := []) ⟨hx, hb, hml, hown, hts⟩ (kX0_read l D h0 r0 cA σ (1064 + a0)) (cwV 1 hts gX0_cutTwin_X0_read rfl rfl rfl (by decide +kernel) ⟨Nat.le_of_ble_eq_true rfl, Nat.le_of_ble_eq_true rfl⟩) G rfl hl.1 rfl (Nat.le_of_ble_eq_true rfl) dX0_cutTwin_6 ⟨Nat.zero_le _, Nat.zero_le _⟩ (fun r_1 σ_2 H locs e_3 G => ?_)
  refine lv_istore_n (lv' := [(2, .int r_1), (0, .ref h0), (1, .int a0)]) hx hb dX0_cutTwin_9 rfl hl (by decide) rfl (fun ls hl => ?_)
  refine lv_aload_n hx hb dX0_cutTwin_10 rfl (lv_at hl 1 rfl) ?_
  refine lv_sipush (v := 1064) hx hb dX0_cutTwin_11 (by decide) ?_
  refine lv_iload_n hx hb dX0_cutTwin_14 rfl (lv_at hl 2 rfl) ?_
  refine lv_iadd hx hb dX0_cutTwin_15 ?_
  refine lv_iconst (v := (-1)) hx hb dX0_cutTwin_16 (by decide) ?_
  refine x_callv (As := [.int (1064 + a0), .int (-1)]) (rest := []) ⟨hx, hb, hml, hown, hts⟩ (kX0_write l D h0 r0 cA σ_2 (1064 + a0) (-1)) (cwV 2 hts gX0_cutTwin_X0_write rfl rfl rfl (by decide +kernel) ⟨Nat.le_of_ble_eq_true rfl, Nat.le_of_ble_eq_true rfl⟩) G rfl hl.1 rfl (Nat.le_of_ble_eq_true rfl) dX0_cutTwin_17 ⟨Nat.zero_le _, Nat.zero_le _⟩ (fun σ_5 H locs e_6 G => ?_)
  refine lv_iload_n hx hb dX0_cutTwin_20 rfl (lv_at hl 0 rfl) ?_
  exact g_iret (u := σ_5) E G (by (simp only [x_cutTwin, e_3, e_6, ↓reduceIte]) <;> rfl) dX0_cutTwin_21

set_option maxHeartbeats 4000000 in
set_option maxRecDepth 100000 in
theorem kX0_hangTree (l : Launch) (D : va_G) (h0 r0 : Nat) (cA : ClassId) (σ : Sx) (a0 : Int32) (a1 : Int32) : gMv l yX0_hangTree wsX0_hangTree ({ frames := 1, cells := 0, slots := 0, locals := 22 }) D vwCl [(cA, .int)] [.ref h0, .int a0, .int a1] (xw h0 r0 cA) σ (fun σ' => x_hangTree σ a0 a1 = σ') := by
  refine gMv_of (cc := cX0_hangTree) (maxL := 3) (ret := none) (by decide) rfl (Nat.le_of_ble_eq_true rfl) ?_
  intro p e s m below meth c A ls E G hl
  obtain ⟨hx, hb, hml, hr, hlocks, hown, hts, -, -⟩ := id E
  have hin : ∀ w ∈ wsX00, w ∈ wsX0_hangTree := fun w h => List.mem_cons_of_mem _ (List.mem_append_right _ h)
  have hl : lv_has ls 3 [(0, .ref h0), (1, .int a0), (2, .int a1)] := hl
  refine lv_aload_n hx hb dX0_hangTree_0 rfl (lv_at hl 0 rfl) ?_
  refine lv_sipush (v := 600) hx hb dX0_hangTree_1 (by decide) ?_
  refine lv_iload_n hx hb dX0_hangTree_4 rfl (lv_at hl 2 rfl) ?_
  refine lv_iadd hx hb dX0_hangTree_5 ?_
  refine lv_aload_n hx hb dX0_hangTree_6 rfl (lv_at hl 0 rfl) ?_
  refine lv_sipush (v := 400) hx hb dX0_hangTree_7 (by decide) ?_
  refine lv_iload_n hx hb dX0_hangTree_10 rfl (lv_at hl 1 rfl) ?_
  refine lv_iadd hx hb dX0_hangTree_11 ?_
  refine x_calli (As := [.int (400 + a0)]) (rest := [.int (600 + a1), .ref h0]) ⟨hx, hb, hml, hown, hts⟩ (kX0_read l D h0 r0 cA σ (400 + a0)) (cwV 1 hts gX0_hangTree_X0_read rfl rfl rfl (by decide +kernel) ⟨Nat.le_of_ble_eq_true rfl, Nat.le_of_ble_eq_true rfl⟩) G rfl hl.1 rfl (Nat.le_of_ble_eq_true rfl) dX0_hangTree_12 ⟨Nat.zero_le _, Nat.zero_le _⟩ (fun r_1 σ_2 H locs e_3 G => ?_)
  refine x_callv (As := [.int (600 + a1), .int r_1]) (rest := []) ⟨hx, hb, hml, hown, hts⟩ (kX0_write l D h0 r0 cA σ_2 (600 + a1) r_1) (cwV 2 hts gX0_hangTree_X0_write rfl rfl rfl (by decide +kernel) ⟨Nat.le_of_ble_eq_true rfl, Nat.le_of_ble_eq_true rfl⟩) G rfl hl.1 rfl (Nat.le_of_ble_eq_true rfl) dX0_hangTree_15 ⟨Nat.zero_le _, Nat.zero_le _⟩ (fun σ_5 H locs e_6 G => ?_)
  refine lv_aload_n hx hb dX0_hangTree_18 rfl (lv_at hl 0 rfl) ?_
  refine lv_sipush (v := 400) hx hb dX0_hangTree_19 (by decide) ?_
  refine lv_iload_n hx hb dX0_hangTree_22 rfl (lv_at hl 1 rfl) ?_
  refine lv_iadd hx hb dX0_hangTree_23 ?_
  refine lv_iload_n hx hb dX0_hangTree_24 rfl (lv_at hl 2 rfl) ?_
  refine x_callv (As := [.int (400 + a0), .int a1]) (rest := []) ⟨hx, hb, hml, hown, hts⟩ (kX0_write l D h0 r0 cA σ_5 (400 + a0) a1) (cwV 2 hts gX0_hangTree_X0_write rfl rfl rfl (by decide +kernel) ⟨Nat.le_of_ble_eq_true rfl, Nat.le_of_ble_eq_true rfl⟩) G rfl hl.1 rfl (Nat.le_of_ble_eq_true rfl) dX0_hangTree_25 ⟨Nat.zero_le _, Nat.zero_le _⟩ (fun σ_8 H locs e_9 G => ?_)
  exact g_vret (u := σ_8) E G (by (simp only [x_hangTree, e_3, e_6, e_9, ↓reduceIte]) <;> rfl) dX0_hangTree_28

set_option maxHeartbeats 4000000 in
set_option maxRecDepth 100000 in
theorem kX0_link (l : Launch) (D : va_G) (h0 r0 : Nat) (cA : ClassId) (σ : Sx) (a0 : Int32) (a1 : Int32) : gMi l yX0_link wsX0_link ({ frames := 2, cells := 0, slots := 0, locals := 44 }) D vwCl [(cA, .int)] [.ref h0, .int a0, .int a1] (xw h0 r0 cA) σ (fun r σ' => x_link σ a0 a1 = (r, σ')) := by
  refine gMi_of (cc := cX0_link) (maxL := 5) (ret := (some .int)) (by decide) rfl (Nat.le_of_ble_eq_true rfl) ?_
  intro p e s m below meth c A ls E G hl
  obtain ⟨hx, hb, hml, hr, hlocks, hown, hts, -, -⟩ := id E
  have hin : ∀ w ∈ wsX00, w ∈ wsX0_link := fun w h => List.mem_cons_of_mem _ (List.mem_append_right _ h)
  have hl : lv_has ls 5 [(0, .ref h0), (1, .int a0), (2, .int a1)] := hl
  refine lv_aload_n hx hb dX0_link_0 rfl (lv_at hl 0 rfl) ?_
  refine lv_iconst (v := 0) hx hb dX0_link_1 (by decide) ?_
  refine lv_iload_n hx hb dX0_link_2 rfl (lv_at hl 1 rfl) ?_
  refine lv_iadd hx hb dX0_link_3 ?_
  refine x_calli (As := [.int (0 + a0)]) (rest := []) ⟨hx, hb, hml, hown, hts⟩ (kX0_read l D h0 r0 cA σ (0 + a0)) (cwV 1 hts gX0_link_X0_read rfl rfl rfl (by decide +kernel) ⟨Nat.le_of_ble_eq_true rfl, Nat.le_of_ble_eq_true rfl⟩) G rfl hl.1 rfl (Nat.le_of_ble_eq_true rfl) dX0_link_4 ⟨Nat.zero_le _, Nat.zero_le _⟩ (fun r_1 σ_2 H locs e_3 G => ?_)
  refine lv_aload_n hx hb dX0_link_7 rfl (lv_at hl 0 rfl) ?_
  refine lv_iconst (v := 0) hx hb dX0_link_8 (by decide) ?_
  refine lv_iload_n hx hb dX0_link_9 rfl (lv_at hl 2 rfl) ?_
  refine lv_iadd hx hb dX0_link_10 ?_
  refine x_calli (As := [.int (0 + a1)]) (rest := [.int r_1]) ⟨hx, hb, hml, hown, hts⟩ (kX0_read l D h0 r0 cA σ_2 (0 + a1)) (cwV 1 hts gX0_link_X0_read rfl rfl rfl (by decide +kernel) ⟨Nat.le_of_ble_eq_true rfl, Nat.le_of_ble_eq_true rfl⟩) G rfl hl.1 rfl (Nat.le_of_ble_eq_true rfl) dX0_link_11 ⟨Nat.zero_le _, Nat.zero_le _⟩ (fun r_4 σ_5 H locs e_6 G => ?_)
  refine lv_icmp_gt (tgt := 21) hx hb dX0_link_14 (by decide) (fun c_7 => ?_) (fun c_7 => ?_)
  · refine lv_iconst (v := 0) hx hb dX0_link_21 (by decide) ?_
    refine lv_istore_n (lv' := [(3, .int 0), (0, .ref h0), (1, .int a0), (2, .int a1)]) hx hb dX0_link_22 rfl hl (by decide) rfl (fun ls hl => ?_)
    refine lv_iload_n hx hb dX0_link_23 rfl (lv_at hl 0 rfl) ?_
    refine lv_if_eq (tgt := 31) hx hb dX0_link_24 (by decide) (fun c_8 => ?_) (fun c_8 => ?_)
    · refine lv_iload_n hx hb dX0_link_31 rfl (lv_at hl 3 rfl) ?_
      refine lv_istore (lv' := [(4, .int a1), (3, .int 0), (0, .ref h0), (1, .int a0), (2, .int a1)]) hx hb dX0_link_32 hl (by decide) rfl (fun ls hl => ?_)
      refine lv_aload_n hx hb dX0_link_34 rfl (lv_at hl 2 rfl) ?_
      refine lv_iload hx hb dX0_link_35 (lv_at hl 0 rfl) ?_
      refine lv_iload_n hx hb dX0_link_37 rfl (lv_at hl 1 rfl) ?_
      refine lv_if_eq (tgt := 45) hx hb dX0_link_38 (by decide) (fun c_9 => ?_) (fun c_9 => ?_)
      · refine lv_iload_n hx hb dX0_link_45 rfl (lv_at hl 3 rfl) ?_
        refine x_callv (As := [.int a1, .int a0]) (rest := []) ⟨hx, hb, hml, hown, hts⟩ (kX0_hangTree l D h0 r0 cA σ_5 a1 a0) (cwV 2 hts gX0_link_X0_hangTree rfl rfl rfl (by decide +kernel) ⟨Nat.le_of_ble_eq_true rfl, Nat.le_of_ble_eq_true rfl⟩) G rfl hl.1 rfl (Nat.le_of_ble_eq_true rfl) dX0_link_46 ⟨Nat.zero_le _, Nat.zero_le _⟩ (fun σ_11 H locs e_12 G => ?_)
        refine lv_aload_n hx hb dX0_link_49 rfl (lv_at hl 2 rfl) ?_
        refine lv_sipush (v := 200) hx hb dX0_link_50 (by decide) ?_
        refine lv_iload hx hb dX0_link_53 (lv_at hl 0 rfl) ?_
        refine lv_iadd hx hb dX0_link_55 ?_
        refine lv_aload_n hx hb dX0_link_56 rfl (lv_at hl 2 rfl) ?_
        refine lv_sipush (v := 200) hx hb dX0_link_57 (by decide) ?_
        refine lv_iload hx hb dX0_link_60 (lv_at hl 0 rfl) ?_
        refine lv_iadd hx hb dX0_link_62 ?_
        refine x_calli (As := [.int (200 + a1)]) (rest := [.int (200 + a1), .ref h0]) ⟨hx, hb, hml, hown, hts⟩ (kX0_read l D h0 r0 cA σ_11 (200 + a1)) (cwV 1 hts gX0_link_X0_read rfl rfl rfl (by decide +kernel) ⟨Nat.le_of_ble_eq_true rfl, Nat.le_of_ble_eq_true rfl⟩) G rfl hl.1 rfl (Nat.le_of_ble_eq_true rfl) dX0_link_63 ⟨Nat.zero_le _, Nat.zero_le _⟩ (fun r_13 σ_14 H locs e_15 G => ?_)
        refine lv_iconst (v := 1) hx hb dX0_link_66 (by decide) ?_
        refine lv_iadd hx hb dX0_link_67 ?_
        refine x_callv (As := [.int (200 + a1), .int (r_13 + 1)]) (rest := []) ⟨hx, hb, hml, hown, hts⟩ (kX0_write l D h0 r0 cA σ_14 (200 + a1) (r_13 + 1)) (cwV 2 hts gX0_link_X0_write rfl rfl rfl (by decide +kernel) ⟨Nat.le_of_ble_eq_true rfl, Nat.le_of_ble_eq_true rfl⟩) G rfl hl.1 rfl (Nat.le_of_ble_eq_true rfl) dX0_link_68 ⟨Nat.zero_le _, Nat.zero_le _⟩ (fun σ_17 H locs e_18 G => ?_)
        refine lv_iload hx hb dX0_link_71 (lv_at hl 0 rfl) ?_
        exact g_iret (u := σ_17) E G (by (simp only [x_link, e_3, e_6, c_7, e_12, e_15, e_18, ↓reduceIte]) <;> rfl) dX0_link_73
      · exact absurd (by decide) c_9
    · exact absurd (by decide) c_8
  · refine lv_iconst (v := 1) hx hb dX0_link_17 (by decide) ?_
    refine lv_goto (tgt := 22) hx hb dX0_link_18 (by decide) ?_
    refine lv_istore_n (lv' := [(3, .int 1), (0, .ref h0), (1, .int a0), (2, .int a1)]) hx hb dX0_link_22 rfl hl (by decide) rfl (fun ls hl => ?_)
    refine lv_iload_n hx hb dX0_link_23 rfl (lv_at hl 0 rfl) ?_
    refine lv_if_eq (tgt := 31) hx hb dX0_link_24 (by decide) (fun c_19 => ?_) (fun c_19 => ?_)
    · exact absurd c_19 (by decide)
    · refine lv_iload_n hx hb dX0_link_27 rfl (lv_at hl 2 rfl) ?_
      refine lv_goto (tgt := 32) hx hb dX0_link_28 (by decide) ?_
      refine lv_istore (lv' := [(4, .int a0), (3, .int 1), (0, .ref h0), (1, .int a0), (2, .int a1)]) hx hb dX0_link_32 hl (by decide) rfl (fun ls hl => ?_)
      refine lv_aload_n hx hb dX0_link_34 rfl (lv_at hl 2 rfl) ?_
      refine lv_iload hx hb dX0_link_35 (lv_at hl 0 rfl) ?_
      refine lv_iload_n hx hb dX0_link_37 rfl (lv_at hl 1 rfl) ?_
      refine lv_if_eq (tgt := 45) hx hb dX0_link_38 (by decide) (fun c_20 => ?_) (fun c_20 => ?_)
      · exact absurd c_20 (by decide)
      · refine lv_iload_n hx hb dX0_link_41 rfl (lv_at hl 4 rfl) ?_
        refine lv_goto (tgt := 46) hx hb dX0_link_42 (by decide) ?_
        refine x_callv (As := [.int a0, .int a1]) (rest := []) ⟨hx, hb, hml, hown, hts⟩ (kX0_hangTree l D h0 r0 cA σ_5 a0 a1) (cwV 2 hts gX0_link_X0_hangTree rfl rfl rfl (by decide +kernel) ⟨Nat.le_of_ble_eq_true rfl, Nat.le_of_ble_eq_true rfl⟩) G rfl hl.1 rfl (Nat.le_of_ble_eq_true rfl) dX0_link_46 ⟨Nat.zero_le _, Nat.zero_le _⟩ (fun σ_22 H locs e_23 G => ?_)
        refine lv_aload_n hx hb dX0_link_49 rfl (lv_at hl 2 rfl) ?_
        refine lv_sipush (v := 200) hx hb dX0_link_50 (by decide) ?_
        refine lv_iload hx hb dX0_link_53 (lv_at hl 0 rfl) ?_
        refine lv_iadd hx hb dX0_link_55 ?_
        refine lv_aload_n hx hb dX0_link_56 rfl (lv_at hl 2 rfl) ?_
        refine lv_sipush (v := 200) hx hb dX0_link_57 (by decide) ?_
        refine lv_iload hx hb dX0_link_60 (lv_at hl 0 rfl) ?_
        refine lv_iadd hx hb dX0_link_62 ?_
        refine x_calli (As := [.int (200 + a0)]) (rest := [.int (200 + a0), .ref h0]) ⟨hx, hb, hml, hown, hts⟩ (kX0_read l D h0 r0 cA σ_22 (200 + a0)) (cwV 1 hts gX0_link_X0_read rfl rfl rfl (by decide +kernel) ⟨Nat.le_of_ble_eq_true rfl, Nat.le_of_ble_eq_true rfl⟩) G rfl hl.1 rfl (Nat.le_of_ble_eq_true rfl) dX0_link_63 ⟨Nat.zero_le _, Nat.zero_le _⟩ (fun r_24 σ_25 H locs e_26 G => ?_)
        refine lv_iconst (v := 1) hx hb dX0_link_66 (by decide) ?_
        refine lv_iadd hx hb dX0_link_67 ?_
        refine x_callv (As := [.int (200 + a0), .int (r_24 + 1)]) (rest := []) ⟨hx, hb, hml, hown, hts⟩ (kX0_write l D h0 r0 cA σ_25 (200 + a0) (r_24 + 1)) (cwV 2 hts gX0_link_X0_write rfl rfl rfl (by decide +kernel) ⟨Nat.le_of_ble_eq_true rfl, Nat.le_of_ble_eq_true rfl⟩) G rfl hl.1 rfl (Nat.le_of_ble_eq_true rfl) dX0_link_68 ⟨Nat.zero_le _, Nat.zero_le _⟩ (fun σ_28 H locs e_29 G => ?_)
        refine lv_iload hx hb dX0_link_71 (lv_at hl 0 rfl) ?_
        exact g_iret (u := σ_28) E G (by (simp only [x_link, e_3, e_6, c_7, e_23, e_26, e_29, ↓reduceIte]) <;> rfl) dX0_link_73

set_option maxHeartbeats 4000000 in
set_option maxRecDepth 100000 in
theorem kX0_hangKey (l : Launch) (D : va_G) (h0 r0 : Nat) (cA : ClassId) (σ : Sx) (a0 : Int32) (a1 : Int32) : gMv l yX0_hangKey wsX0_hangKey ({ frames := 2, cells := 0, slots := 0, locals := 44 }) D vwCl [(cA, .int)] [.ref h0, .int a0, .int a1] (xw h0 r0 cA) σ (fun σ' => x_hangKey σ a0 a1 = σ') := by
  refine gMv_of (cc := cX0_hangKey) (maxL := 5) (ret := none) (by decide) rfl (Nat.le_of_ble_eq_true rfl) ?_
  intro p e s m below meth c A ls E G hl
  obtain ⟨hx, hb, hml, hr, hlocks, hown, hts, -, -⟩ := id E
  have hin : ∀ w ∈ wsX00, w ∈ wsX0_hangKey := fun w h => List.mem_cons_of_mem _ (List.mem_append_right _ h)
  have hl : lv_has ls 5 [(0, .ref h0), (1, .int a0), (2, .int a1)] := hl
  refine lv_aload_n hx hb dX0_hangKey_0 rfl (lv_at hl 0 rfl) ?_
  refine lv_iconst (v := 0) hx hb dX0_hangKey_1 (by decide) ?_
  refine lv_iload_n hx hb dX0_hangKey_2 rfl (lv_at hl 1 rfl) ?_
  refine lv_iadd hx hb dX0_hangKey_3 ?_
  refine x_calli (As := [.int (0 + a0)]) (rest := []) ⟨hx, hb, hml, hown, hts⟩ (kX0_read l D h0 r0 cA σ (0 + a0)) (cwV 1 hts gX0_hangKey_X0_read rfl rfl rfl (by decide +kernel) ⟨Nat.le_of_ble_eq_true rfl, Nat.le_of_ble_eq_true rfl⟩) G rfl hl.1 rfl (Nat.le_of_ble_eq_true rfl) dX0_hangKey_4 ⟨Nat.zero_le _, Nat.zero_le _⟩ (fun r_1 σ_2 H locs e_3 G => ?_)
  refine lv_istore_n (lv' := [(3, .int r_1), (0, .ref h0), (1, .int a0), (2, .int a1)]) hx hb dX0_hangKey_7 rfl hl (by decide) rfl (fun ls hl => ?_)
  refine lv_aload_n hx hb dX0_hangKey_8 rfl (lv_at hl 1 rfl) ?_
  refine lv_iconst (v := 0) hx hb dX0_hangKey_9 (by decide) ?_
  refine lv_iload_n hx hb dX0_hangKey_10 rfl (lv_at hl 3 rfl) ?_
  refine lv_iadd hx hb dX0_hangKey_11 ?_
  refine x_calli (As := [.int (0 + a1)]) (rest := []) ⟨hx, hb, hml, hown, hts⟩ (kX0_read l D h0 r0 cA σ_2 (0 + a1)) (cwV 1 hts gX0_hangKey_X0_read rfl rfl rfl (by decide +kernel) ⟨Nat.le_of_ble_eq_true rfl, Nat.le_of_ble_eq_true rfl⟩) G rfl hl.1 rfl (Nat.le_of_ble_eq_true rfl) dX0_hangKey_12 ⟨Nat.zero_le _, Nat.zero_le _⟩ (fun r_4 σ_5 H locs e_6 G => ?_)
  refine lv_istore (lv' := [(4, .int r_4), (3, .int r_1), (0, .ref h0), (1, .int a0), (2, .int a1)]) hx hb dX0_hangKey_15 hl (by decide) rfl (fun ls hl => ?_)
  refine lv_iload hx hb dX0_hangKey_17 (lv_at hl 0 rfl) ?_
  refine lv_iload_n hx hb dX0_hangKey_19 rfl (lv_at hl 1 rfl) ?_
  refine lv_icmp_ge (tgt := 40) hx hb dX0_hangKey_20 (by decide) (fun c_7 => ?_) (fun c_7 => ?_)
  · refine lv_aload_n hx hb dX0_hangKey_40 rfl (lv_at hl 2 rfl) ?_
    refine lv_iload_n hx hb dX0_hangKey_41 rfl (lv_at hl 3 rfl) ?_
    refine lv_iload_n hx hb dX0_hangKey_42 rfl (lv_at hl 4 rfl) ?_
    refine x_callv (As := [.int a0, .int a1]) (rest := []) ⟨hx, hb, hml, hown, hts⟩ (kX0_hangTree l D h0 r0 cA σ_5 a0 a1) (cwV 2 hts gX0_hangKey_X0_hangTree rfl rfl rfl (by decide +kernel) ⟨Nat.le_of_ble_eq_true rfl, Nat.le_of_ble_eq_true rfl⟩) G rfl hl.1 rfl (Nat.le_of_ble_eq_true rfl) dX0_hangKey_43 ⟨Nat.zero_le _, Nat.zero_le _⟩ (fun σ_9 H locs e_10 G => ?_)
    exact g_vret (u := σ_9) E G (by (simp only [x_hangKey, e_3, e_6, c_7, e_10, ↓reduceIte]) <;> rfl) dX0_hangKey_46
  · refine lv_aload_n hx hb dX0_hangKey_23 rfl (lv_at hl 2 rfl) ?_
    refine lv_iconst (v := 0) hx hb dX0_hangKey_24 (by decide) ?_
    refine lv_iload_n hx hb dX0_hangKey_25 rfl (lv_at hl 3 rfl) ?_
    refine lv_iadd hx hb dX0_hangKey_26 ?_
    refine lv_iload hx hb dX0_hangKey_27 (lv_at hl 0 rfl) ?_
    refine x_callv (As := [.int (0 + a0), .int r_4]) (rest := []) ⟨hx, hb, hml, hown, hts⟩ (kX0_write l D h0 r0 cA σ_5 (0 + a0) r_4) (cwV 2 hts gX0_hangKey_X0_write rfl rfl rfl (by decide +kernel) ⟨Nat.le_of_ble_eq_true rfl, Nat.le_of_ble_eq_true rfl⟩) G rfl hl.1 rfl (Nat.le_of_ble_eq_true rfl) dX0_hangKey_29 ⟨Nat.zero_le _, Nat.zero_le _⟩ (fun σ_12 H locs e_13 G => ?_)
    refine lv_aload_n hx hb dX0_hangKey_32 rfl (lv_at hl 2 rfl) ?_
    refine lv_iconst (v := 0) hx hb dX0_hangKey_33 (by decide) ?_
    refine lv_iload_n hx hb dX0_hangKey_34 rfl (lv_at hl 4 rfl) ?_
    refine lv_iadd hx hb dX0_hangKey_35 ?_
    refine lv_iload_n hx hb dX0_hangKey_36 rfl (lv_at hl 1 rfl) ?_
    refine x_callv (As := [.int (0 + a1), .int r_1]) (rest := []) ⟨hx, hb, hml, hown, hts⟩ (kX0_write l D h0 r0 cA σ_12 (0 + a1) r_1) (cwV 2 hts gX0_hangKey_X0_write rfl rfl rfl (by decide +kernel) ⟨Nat.le_of_ble_eq_true rfl, Nat.le_of_ble_eq_true rfl⟩) G rfl hl.1 rfl (Nat.le_of_ble_eq_true rfl) dX0_hangKey_37 ⟨Nat.zero_le _, Nat.zero_le _⟩ (fun σ_15 H locs e_16 G => ?_)
    refine lv_aload_n hx hb dX0_hangKey_40 rfl (lv_at hl 2 rfl) ?_
    refine lv_iload_n hx hb dX0_hangKey_41 rfl (lv_at hl 3 rfl) ?_
    refine lv_iload_n hx hb dX0_hangKey_42 rfl (lv_at hl 4 rfl) ?_
    refine x_callv (As := [.int a0, .int a1]) (rest := []) ⟨hx, hb, hml, hown, hts⟩ (kX0_hangTree l D h0 r0 cA σ_15 a0 a1) (cwV 2 hts gX0_hangKey_X0_hangTree rfl rfl rfl (by decide +kernel) ⟨Nat.le_of_ble_eq_true rfl, Nat.le_of_ble_eq_true rfl⟩) G rfl hl.1 rfl (Nat.le_of_ble_eq_true rfl) dX0_hangKey_43 ⟨Nat.zero_le _, Nat.zero_le _⟩ (fun σ_18 H locs e_19 G => ?_)
    exact g_vret (u := σ_18) E G (by (simp only [x_hangKey, e_3, e_6, c_7, e_13, e_16, e_19, ↓reduceIte]) <;> rfl) dX0_hangKey_46

set_option maxHeartbeats 4000000 in
set_option maxRecDepth 100000 in
theorem kX0_lesserRoot (l : Launch) (D : va_G) (h0 r0 : Nat) (cA : ClassId) (σ : Sx) (a0 : Int32) (a1 : Int32) : gMi l yX0_lesserRoot wsX0_lesserRoot ({ frames := 1, cells := 0, slots := 0, locals := 21 }) D vwCl [(cA, .int)] [.ref h0, .int a0, .int a1] (xw h0 r0 cA) σ (fun r σ' => x_lesserRoot σ a0 a1 = (r, σ')) := by
  refine gMi_of (cc := cX0_lesserRoot) (maxL := 3) (ret := (some .int)) (by decide) rfl (Nat.le_of_ble_eq_true rfl) ?_
  intro p e s m below meth c A ls E G hl
  obtain ⟨hx, hb, hml, hr, hlocks, hown, hts, -, -⟩ := id E
  have hin : ∀ w ∈ wsX00, w ∈ wsX0_lesserRoot := fun w h => List.mem_cons_of_mem _ (List.mem_append_right _ h)
  have hl : lv_has ls 3 [(0, .ref h0), (1, .int a0), (2, .int a1)] := hl
  refine lv_iload_n hx hb dX0_lesserRoot_0 rfl (lv_at hl 1 rfl) ?_
  refine lv_iconst (v := (-1)) hx hb dX0_lesserRoot_1 (by decide) ?_
  refine lv_icmp_eq (tgt := 10) hx hb dX0_lesserRoot_2 (by decide) (fun c_1 => ?_) (fun c_1 => ?_)
  · refine lv_iload_n hx hb dX0_lesserRoot_10 rfl (lv_at hl 1 rfl) ?_
    refine lv_iconst (v := (-1)) hx hb dX0_lesserRoot_11 (by decide) ?_
    refine lv_icmp_ne (tgt := 19) hx hb dX0_lesserRoot_12 (by decide) (fun c_2 => ?_) (fun c_2 => ?_)
    · exact absurd c_1 c_2
    · refine lv_iload_n hx hb dX0_lesserRoot_15 rfl (lv_at hl 2 rfl) ?_
      refine lv_goto (tgt := 20) hx hb dX0_lesserRoot_16 (by decide) ?_
      exact g_iret (u := σ) E G (by (simp only [x_lesserRoot, c_1, ↓reduceIte]) <;> rfl) dX0_lesserRoot_20
  · refine lv_iload_n hx hb dX0_lesserRoot_5 rfl (lv_at hl 2 rfl) ?_
    refine lv_iconst (v := (-1)) hx hb dX0_lesserRoot_6 (by decide) ?_
    refine lv_icmp_ne (tgt := 21) hx hb dX0_lesserRoot_7 (by decide) (fun c_3 => ?_) (fun c_3 => ?_)
    · refine lv_aload_n hx hb dX0_lesserRoot_21 rfl (lv_at hl 0 rfl) ?_
      refine lv_iconst (v := 0) hx hb dX0_lesserRoot_22 (by decide) ?_
      refine lv_iload_n hx hb dX0_lesserRoot_23 rfl (lv_at hl 1 rfl) ?_
      refine lv_iadd hx hb dX0_lesserRoot_24 ?_
      refine x_calli (As := [.int (0 + a0)]) (rest := []) ⟨hx, hb, hml, hown, hts⟩ (kX0_read l D h0 r0 cA σ (0 + a0)) (cwV 1 hts gX0_lesserRoot_X0_read rfl rfl rfl (by decide +kernel) ⟨Nat.le_of_ble_eq_true rfl, Nat.le_of_ble_eq_true rfl⟩) G rfl hl.1 rfl (Nat.le_of_ble_eq_true rfl) dX0_lesserRoot_25 ⟨Nat.zero_le _, Nat.zero_le _⟩ (fun r_4 σ_5 H locs e_6 G => ?_)
      refine lv_aload_n hx hb dX0_lesserRoot_28 rfl (lv_at hl 0 rfl) ?_
      refine lv_iconst (v := 0) hx hb dX0_lesserRoot_29 (by decide) ?_
      refine lv_iload_n hx hb dX0_lesserRoot_30 rfl (lv_at hl 2 rfl) ?_
      refine lv_iadd hx hb dX0_lesserRoot_31 ?_
      refine x_calli (As := [.int (0 + a1)]) (rest := [.int r_4]) ⟨hx, hb, hml, hown, hts⟩ (kX0_read l D h0 r0 cA σ_5 (0 + a1)) (cwV 1 hts gX0_lesserRoot_X0_read rfl rfl rfl (by decide +kernel) ⟨Nat.le_of_ble_eq_true rfl, Nat.le_of_ble_eq_true rfl⟩) G rfl hl.1 rfl (Nat.le_of_ble_eq_true rfl) dX0_lesserRoot_32 ⟨Nat.zero_le _, Nat.zero_le _⟩ (fun r_7 σ_8 H locs e_9 G => ?_)
      refine lv_icmp_gt (tgt := 42) hx hb dX0_lesserRoot_35 (by decide) (fun c_10 => ?_) (fun c_10 => ?_)
      · refine lv_iload_n hx hb dX0_lesserRoot_42 rfl (lv_at hl 2 rfl) ?_
        exact g_iret (u := σ_8) E G (by (simp only [x_lesserRoot, c_1, c_3, e_6, e_9, c_10, ↓reduceIte]) <;> rfl) dX0_lesserRoot_43
      · refine lv_iload_n hx hb dX0_lesserRoot_38 rfl (lv_at hl 1 rfl) ?_
        refine lv_goto (tgt := 43) hx hb dX0_lesserRoot_39 (by decide) ?_
        exact g_iret (u := σ_8) E G (by (simp only [x_lesserRoot, c_1, c_3, e_6, e_9, c_10, ↓reduceIte]) <;> rfl) dX0_lesserRoot_43
    · refine lv_iload_n hx hb dX0_lesserRoot_10 rfl (lv_at hl 1 rfl) ?_
      refine lv_iconst (v := (-1)) hx hb dX0_lesserRoot_11 (by decide) ?_
      refine lv_icmp_ne (tgt := 19) hx hb dX0_lesserRoot_12 (by decide) (fun c_11 => ?_) (fun c_11 => ?_)
      · refine lv_iload_n hx hb dX0_lesserRoot_19 rfl (lv_at hl 1 rfl) ?_
        exact g_iret (u := σ) E G (by (simp only [x_lesserRoot, c_1, c_3, ↓reduceIte]) <;> rfl) dX0_lesserRoot_20
      · exact absurd c_11 c_1

set_option maxHeartbeats 4000000 in
set_option maxRecDepth 100000 in
theorem kX0_listedKey (l : Launch) (D : va_G) (h0 r0 : Nat) (cA : ClassId) (σ : Sx) (a0 : Int32) : gMi l yX0_listedKey wsX0_listedKey ({ frames := 1, cells := 0, slots := 0, locals := 21 }) D vwCl [(cA, .int)] [.ref h0, .int a0] (xw h0 r0 cA) σ (fun r σ' => x_listedKey σ a0 = (r, σ')) := by
  refine gMi_of (cc := cX0_listedKey) (maxL := 2) (ret := (some .int)) (by decide) rfl (Nat.le_of_ble_eq_true rfl) ?_
  intro p e s m below meth c A ls E G hl
  obtain ⟨hx, hb, hml, hr, hlocks, hown, hts, -, -⟩ := id E
  have hin : ∀ w ∈ wsX00, w ∈ wsX0_listedKey := fun w h => List.mem_cons_of_mem _ (List.mem_append_right _ h)
  have hl : lv_has ls 2 [(0, .ref h0), (1, .int a0)] := hl
  refine lv_aload_n hx hb dX0_listedKey_0 rfl (lv_at hl 0 rfl) ?_
  refine lv_iconst (v := 0) hx hb dX0_listedKey_1 (by decide) ?_
  refine lv_aload_n hx hb dX0_listedKey_2 rfl (lv_at hl 0 rfl) ?_
  refine lv_sipush (v := 800) hx hb dX0_listedKey_3 (by decide) ?_
  refine lv_iload_n hx hb dX0_listedKey_6 rfl (lv_at hl 1 rfl) ?_
  refine lv_iadd hx hb dX0_listedKey_7 ?_
  refine x_calli (As := [.int (800 + a0)]) (rest := [.int 0, .ref h0]) ⟨hx, hb, hml, hown, hts⟩ (kX0_read l D h0 r0 cA σ (800 + a0)) (cwV 1 hts gX0_listedKey_X0_read rfl rfl rfl (by decide +kernel) ⟨Nat.le_of_ble_eq_true rfl, Nat.le_of_ble_eq_true rfl⟩) G rfl hl.1 rfl (Nat.le_of_ble_eq_true rfl) dX0_listedKey_8 ⟨Nat.zero_le _, Nat.zero_le _⟩ (fun r_1 σ_2 H locs e_3 G => ?_)
  refine lv_iadd hx hb dX0_listedKey_11 ?_
  refine x_calli (As := [.int (0 + r_1)]) (rest := []) ⟨hx, hb, hml, hown, hts⟩ (kX0_read l D h0 r0 cA σ_2 (0 + r_1)) (cwV 1 hts gX0_listedKey_X0_read rfl rfl rfl (by decide +kernel) ⟨Nat.le_of_ble_eq_true rfl, Nat.le_of_ble_eq_true rfl⟩) G rfl hl.1 rfl (Nat.le_of_ble_eq_true rfl) dX0_listedKey_12 ⟨Nat.zero_le _, Nat.zero_le _⟩ (fun r_4 σ_5 H locs e_6 G => ?_)
  exact g_iret (u := σ_5) E G (by (simp only [x_listedKey, e_3, e_6, ↓reduceIte]) <;> rfl) dX0_listedKey_15

set_option maxHeartbeats 4000000 in
set_option maxRecDepth 100000 in
theorem kX0_beginOn (l : Launch) (D : va_G) (h0 r0 : Nat) (cA : ClassId) (σ : Sx) (a0 : Int32) : gMv l yX0_beginOn wsX0_beginOn ({ frames := 2, cells := 0, slots := 0, locals := 42 }) D vwCl [(cA, .int)] [.ref h0, .int a0] (xw h0 r0 cA) σ (fun σ' => x_beginOn σ a0 = σ') := by
  refine gMv_of (cc := cX0_beginOn) (maxL := 2) (ret := none) (by decide) rfl (Nat.le_of_ble_eq_true rfl) ?_
  intro p e s m below meth c A ls E G hl
  obtain ⟨hx, hb, hml, hr, hlocks, hown, hts, -, -⟩ := id E
  have hin : ∀ w ∈ wsX00, w ∈ wsX0_beginOn := fun w h => List.mem_cons_of_mem _ (List.mem_append_right _ h)
  have hl : lv_has ls 2 [(0, .ref h0), (1, .int a0)] := hl
  refine lv_aload_n hx hb dX0_beginOn_0 rfl (lv_at hl 0 rfl) ?_
  refine lv_iconst (v := 0) hx hb dX0_beginOn_1 (by decide) ?_
  refine g_put (C := RX0) (T := TX0) (N := 6) (ci := 0) (v := .int 0) (ty := .int) hx hb hts hin tyX0 tyX0_ok nmX0 hown G 0 rfl rfl 4 (by decide) (hts (.fieldLink RX0 96 "SkewMelds" "steps" "I") (by decide +kernel)) rfl rfl (by decide +kernel) rfl rfl (Nat.le_of_ble_eq_true rfl) (xw h0 r0 cA (x_sS σ 0)) rfl dX0_beginOn_2 (fun H locs G => ?_)
  refine lv_aload_n hx hb dX0_beginOn_5 rfl (lv_at hl 0 rfl) ?_
  refine lv_aload_n hx hb dX0_beginOn_6 rfl (lv_at hl 0 rfl) ?_
  refine lv_iload_n hx hb dX0_beginOn_7 rfl (lv_at hl 1 rfl) ?_
  refine x_calli (As := [.int a0]) (rest := [.ref h0]) ⟨hx, hb, hml, hown, hts⟩ (kX0_keysIn l D h0 r0 cA (x_sS σ 0) a0) (cwV 1 hts gX0_beginOn_X0_keysIn rfl rfl rfl (by decide +kernel) ⟨Nat.le_of_ble_eq_true rfl, Nat.le_of_ble_eq_true rfl⟩) G rfl hl.1 rfl (Nat.le_of_ble_eq_true rfl) dX0_beginOn_8 ⟨Nat.zero_le _, Nat.zero_le _⟩ (fun r_1 σ_2 H locs e_3 G => ?_)
  refine g_calls (As := [.int r_1]) (rest := [.ref h0]) ⟨hx, hb, hml, hown, hts⟩ (kX0_limitFor l r_1) (va_cwS 1 hts gX0_beginOn_X0_limitFor rfl rfl rfl (by decide +kernel) ⟨Nat.le_of_ble_eq_true rfl, Nat.le_of_ble_eq_true rfl⟩) G rfl hl.1 rfl (Nat.le_of_ble_eq_true rfl) dX0_beginOn_11 ⟨Nat.zero_le _, Nat.zero_le _⟩ (fun r_4 H locs e_5 G => ?_)
  subst e_5
  refine g_put (C := RX0) (T := TX0) (N := 6) (ci := 0) (v := .int (x_limFor r_1)) (ty := .int) hx hb hts hin tyX0 tyX0_ok nmX0 hown G 0 rfl rfl 5 (by decide) (hts (.fieldLink RX0 99 "SkewMelds" "limit" "I") (by decide +kernel)) rfl rfl (by decide +kernel) rfl rfl (Nat.le_of_ble_eq_true rfl) (xw h0 r0 cA (x_sL σ_2 (x_limFor r_1))) rfl dX0_beginOn_14 (fun H locs G => ?_)
  exact g_vret (u := (x_sL σ_2 (x_limFor r_1))) E G (by (simp only [x_beginOn, e_3, ↓reduceIte]) <;> rfl) dX0_beginOn_17

set_option maxHeartbeats 4000000 in
set_option maxRecDepth 100000 in
theorem kX0_beginOnBoth (l : Launch) (D : va_G) (h0 r0 : Nat) (cA : ClassId) (σ : Sx) (a0 : Int32) (a1 : Int32) : gMv l yX0_beginOnBoth wsX0_beginOnBoth ({ frames := 2, cells := 0, slots := 0, locals := 42 }) D vwCl [(cA, .int)] [.ref h0, .int a0, .int a1] (xw h0 r0 cA) σ (fun σ' => x_beginOnBoth σ a0 a1 = σ') := by
  refine gMv_of (cc := cX0_beginOnBoth) (maxL := 3) (ret := none) (by decide) rfl (Nat.le_of_ble_eq_true rfl) ?_
  intro p e s m below meth c A ls E G hl
  obtain ⟨hx, hb, hml, hr, hlocks, hown, hts, -, -⟩ := id E
  have hin : ∀ w ∈ wsX00, w ∈ wsX0_beginOnBoth := fun w h => List.mem_cons_of_mem _ (List.mem_append_right _ h)
  have hl : lv_has ls 3 [(0, .ref h0), (1, .int a0), (2, .int a1)] := hl
  refine lv_aload_n hx hb dX0_beginOnBoth_0 rfl (lv_at hl 0 rfl) ?_
  refine lv_iconst (v := 0) hx hb dX0_beginOnBoth_1 (by decide) ?_
  refine g_put (C := RX0) (T := TX0) (N := 6) (ci := 0) (v := .int 0) (ty := .int) hx hb hts hin tyX0 tyX0_ok nmX0 hown G 0 rfl rfl 4 (by decide) (hts (.fieldLink RX0 96 "SkewMelds" "steps" "I") (by decide +kernel)) rfl rfl (by decide +kernel) rfl rfl (Nat.le_of_ble_eq_true rfl) (xw h0 r0 cA (x_sS σ 0)) rfl dX0_beginOnBoth_2 (fun H locs G => ?_)
  refine lv_aload_n hx hb dX0_beginOnBoth_5 rfl (lv_at hl 0 rfl) ?_
  refine lv_aload_n hx hb dX0_beginOnBoth_6 rfl (lv_at hl 0 rfl) ?_
  refine lv_iload_n hx hb dX0_beginOnBoth_7 rfl (lv_at hl 1 rfl) ?_
  refine x_calli (As := [.int a0]) (rest := [.ref h0]) ⟨hx, hb, hml, hown, hts⟩ (kX0_keysIn l D h0 r0 cA (x_sS σ 0) a0) (cwV 1 hts gX0_beginOnBoth_X0_keysIn rfl rfl rfl (by decide +kernel) ⟨Nat.le_of_ble_eq_true rfl, Nat.le_of_ble_eq_true rfl⟩) G rfl hl.1 rfl (Nat.le_of_ble_eq_true rfl) dX0_beginOnBoth_8 ⟨Nat.zero_le _, Nat.zero_le _⟩ (fun r_1 σ_2 H locs e_3 G => ?_)
  refine lv_aload_n hx hb dX0_beginOnBoth_11 rfl (lv_at hl 0 rfl) ?_
  refine lv_iload_n hx hb dX0_beginOnBoth_12 rfl (lv_at hl 2 rfl) ?_
  refine x_calli (As := [.int a1]) (rest := [.int r_1, .ref h0]) ⟨hx, hb, hml, hown, hts⟩ (kX0_keysIn l D h0 r0 cA σ_2 a1) (cwV 1 hts gX0_beginOnBoth_X0_keysIn rfl rfl rfl (by decide +kernel) ⟨Nat.le_of_ble_eq_true rfl, Nat.le_of_ble_eq_true rfl⟩) G rfl hl.1 rfl (Nat.le_of_ble_eq_true rfl) dX0_beginOnBoth_13 ⟨Nat.zero_le _, Nat.zero_le _⟩ (fun r_4 σ_5 H locs e_6 G => ?_)
  refine lv_iadd hx hb dX0_beginOnBoth_16 ?_
  refine g_calls (As := [.int (r_1 + r_4)]) (rest := [.ref h0]) ⟨hx, hb, hml, hown, hts⟩ (kX0_limitFor l (r_1 + r_4)) (va_cwS 1 hts gX0_beginOnBoth_X0_limitFor rfl rfl rfl (by decide +kernel) ⟨Nat.le_of_ble_eq_true rfl, Nat.le_of_ble_eq_true rfl⟩) G rfl hl.1 rfl (Nat.le_of_ble_eq_true rfl) dX0_beginOnBoth_17 ⟨Nat.zero_le _, Nat.zero_le _⟩ (fun r_7 H locs e_8 G => ?_)
  subst e_8
  refine g_put (C := RX0) (T := TX0) (N := 6) (ci := 0) (v := .int (x_limFor (r_1 + r_4))) (ty := .int) hx hb hts hin tyX0 tyX0_ok nmX0 hown G 0 rfl rfl 5 (by decide) (hts (.fieldLink RX0 99 "SkewMelds" "limit" "I") (by decide +kernel)) rfl rfl (by decide +kernel) rfl rfl (Nat.le_of_ble_eq_true rfl) (xw h0 r0 cA (x_sL σ_5 (x_limFor (r_1 + r_4)))) rfl dX0_beginOnBoth_20 (fun H locs G => ?_)
  exact g_vret (u := (x_sL σ_5 (x_limFor (r_1 + r_4)))) E G (by (simp only [x_beginOnBoth, e_3, e_6, ↓reduceIte]) <;> rfl) dX0_beginOnBoth_23
