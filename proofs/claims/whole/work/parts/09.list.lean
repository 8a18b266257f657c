set_option maxHeartbeats 4000000 in
set_option maxRecDepth 100000 in
theorem kX0_listChain (l : Launch) (D : va_G) (h0 r0 : Nat) (cA : ClassId) (σ : Sx) (a0 : Int32) (a1 : Int32) (a2 : Int32) : gMi l yX0_listChain wsX0_listChain ({ frames := 1, cells := 0, slots := 0, locals := 22 }) D vwCl [(cA, .int)] [.ref h0, .int a0, .int a1, .int a2] (xw h0 r0 cA) σ (fun r σ' => x_listChain σ a0 a1 a2 = (r, σ')) := by
  refine gMi_of (cc := cX0_listChain) (maxL := 7) (ret := (some .int)) (by decide) rfl (Nat.le_of_ble_eq_true rfl) ?_
  intro p e s m below meth c A ls E G hl
  obtain ⟨hx, hb, hml, hr, hlocks, hown, hts, -, -⟩ := id E
  have hin : ∀ w ∈ wsX00, w ∈ wsX0_listChain := fun w h => List.mem_cons_of_mem _ (List.mem_append_right _ h)
  have hl : lv_has ls 7 [(0, .ref h0), (1, .int a0), (2, .int a1), (3, .int a2)] := hl
  have loop : ∀ (n : Nat) (σ1 : Sx) (t : Int32) (u : Int32) (k : Int32) (H : Heap) (locs : List Loc) (ls : Array Slot), (a2.toInt - k.toInt).toNat < n → y_lcL a2 n σ1 t u k = x_listChain σ a0 a1 a2 → gG D vwCl [(cA, .int)] A s (xw h0 r0 cA σ1) H locs → lv_has ls 7 [(0, .ref h0), (1, .int a0), (2, .int a1), (3, .int a2), (4, .int t), (5, .int u), (6, .int k)] → W p l e ({ frames := 1, cells := 0, slots := 0, locals := 22 }) s m [.ref h0, .int a0, .int a1, .int a2].toArray below meth c H locs 0 0 (MQ below (va_Qi (fun r σ' => x_listChain σ a0 a1 a2 = (r, σ')) (gB D vwCl [(cA, .int)] A (xw h0 r0 cA)) A) [.ref h0, .int a0, .int a1, .int a2].toArray s 0 0 A) (F0 m 9 ls []) := by
    intro n
    induction n with
    | zero => intro σ1 t u k H locs ls hm; exact absurd hm (Nat.not_lt_zero _)
    | succ n ih =>
      intro σ1 t u k H locs ls hm hinv G hl
      refine lv_iload hx hb dX0_listChain_9 (lv_at hl 6 rfl) ?_
      refine lv_iload_n hx hb dX0_listChain_11 rfl (lv_at hl 3 rfl) ?_
      refine lv_icmp_ge (tgt := 62) hx hb dX0_listChain_12 (by decide) (fun c_1 => ?_) (fun c_1 => ?_)
      · refine lv_iload hx hb dX0_listChain_62 (lv_at hl 4 rfl) ?_
        exact g_iret (u := σ1) E G (by rw [← hinv]; (simp only [y_lcL, c_1, ↓reduceIte]) <;> rfl) dX0_listChain_64
      · refine lv_iload hx hb dX0_listChain_15 (lv_at hl 5 rfl) ?_
        refine lv_iconst (v := (-1)) hx hb dX0_listChain_17 (by decide) ?_
        refine lv_icmp_eq (tgt := 62) hx hb dX0_listChain_18 (by decide) (fun c_2 => ?_) (fun c_2 => ?_)
        · refine lv_iload hx hb dX0_listChain_62 (lv_at hl 4 rfl) ?_
          exact g_iret (u := σ1) E G (by rw [← hinv]; (simp only [y_lcL, c_1, c_2, ↓reduceIte]) <;> rfl) dX0_listChain_64
        · refine lv_iload hx hb dX0_listChain_21 (lv_at hl 4 rfl) ?_
          refine lv_sipush (v := 200) hx hb dX0_listChain_23 (by decide) ?_
          refine lv_icmp_ge (tgt := 62) hx hb dX0_listChain_26 (by decide) (fun c_3 => ?_) (fun c_3 => ?_)
          · refine lv_iload hx hb dX0_listChain_62 (lv_at hl 4 rfl) ?_
            exact g_iret (u := σ1) E G (by rw [← hinv]; (simp only [y_lcL, c_1, c_2, c_3, ↓reduceIte]) <;> rfl) dX0_listChain_64
          · refine lv_aload_n hx hb dX0_listChain_29 rfl (lv_at hl 0 rfl) ?_
            refine lv_sipush (v := 800) hx hb dX0_listChain_30 (by decide) ?_
            refine lv_iload hx hb dX0_listChain_33 (lv_at hl 4 rfl) ?_
            refine lv_iadd hx hb dX0_listChain_35 ?_
            refine lv_iload hx hb dX0_listChain_36 (lv_at hl 5 rfl) ?_
            refine x_callv (As := [.int (800 + t), .int u]) (rest := []) ⟨hx, hb, hml, hown, hts⟩ (kX0_write l D h0 r0 cA σ1 (800 + t) u) (cwV 2 hts gX0_listChain_X0_write rfl rfl rfl (by decide +kernel) ⟨Nat.le_of_ble_eq_true rfl, Nat.le_of_ble_eq_true rfl⟩) G rfl hl.1 rfl (Nat.le_of_ble_eq_true rfl) dX0_listChain_38 ⟨Nat.zero_le _, Nat.zero_le _⟩ (fun σ_5 H locs e_6 G => ?_)
            obtain ⟨v_7, ev_7⟩ : ∃ y : Int32, y = t + 1 := ⟨_, rfl⟩
            refine lv_iinc (v := v_7) (lv' := [(4, .int v_7), (0, .ref h0), (1, .int a0), (2, .int a1), (3, .int a2), (5, .int u), (6, .int k)]) hx hb dX0_listChain_41 hl (k := 4) rfl (by rw [ev_7]; rfl) (by decide) rfl (fun ls hl => ?_)
            refine lv_aload_n hx hb dX0_listChain_44 rfl (lv_at hl 1 rfl) ?_
            refine lv_sipush (v := 600) hx hb dX0_listChain_45 (by decide) ?_
            refine lv_iload hx hb dX0_listChain_48 (lv_at hl 5 rfl) ?_
            refine lv_iadd hx hb dX0_listChain_50 ?_
            refine x_calli (As := [.int (600 + u)]) (rest := []) ⟨hx, hb, hml, hown, hts⟩ (kX0_read l D h0 r0 cA σ_5 (600 + u)) (cwV 1 hts gX0_listChain_X0_read rfl rfl rfl (by decide +kernel) ⟨Nat.le_of_ble_eq_true rfl, Nat.le_of_ble_eq_true rfl⟩) G rfl hl.1 rfl (Nat.le_of_ble_eq_true rfl) dX0_listChain_51 ⟨Nat.zero_le _, Nat.zero_le _⟩ (fun r_8 σ_9 H locs e_10 G => ?_)
            refine lv_istore (lv' := [(5, .int r_8), (4, .int v_7), (0, .ref h0), (1, .int a0), (2, .int a1), (3, .int a2), (6, .int k)]) hx hb dX0_listChain_54 hl (by decide) rfl (fun ls hl => ?_)
            obtain ⟨v_11, ev_11⟩ : ∃ y : Int32, y = k + 1 := ⟨_, rfl⟩
            refine lv_iinc (v := v_11) (lv' := [(6, .int v_11), (5, .int r_8), (4, .int v_7), (0, .ref h0), (1, .int a0), (2, .int a1), (3, .int a2)]) hx hb dX0_listChain_56 hl (k := 6) rfl (by rw [ev_11]; rfl) (by decide) rfl (fun ls hl => ?_)
            refine lv_goto (tgt := 9) hx hb dX0_listChain_59 (by decide) ?_
            exact ih σ_9 v_7 r_8 v_11 _ _ _ (by subst ev_11; subst ev_7; exact Nat.lt_of_lt_of_le (x_meas c_1) (Nat.le_of_lt_succ hm)) (by subst ev_11; subst ev_7; rw [← hinv]; (simp only [y_lcL, c_1, c_2, c_3, e_6, e_10, ↓reduceIte]) <;> rfl) G (lv_sub hl [3, 4, 5, 6, 2, 1, 0] rfl)
  refine lv_iload_n hx hb dX0_listChain_0 rfl (lv_at hl 1 rfl) ?_
  refine lv_istore (lv' := [(4, .int a0), (0, .ref h0), (1, .int a0), (2, .int a1), (3, .int a2)]) hx hb dX0_listChain_1 hl (by decide) rfl (fun ls hl => ?_)
  refine lv_iload_n hx hb dX0_listChain_3 rfl (lv_at hl 3 rfl) ?_
  refine lv_istore (lv' := [(5, .int a1), (4, .int a0), (0, .ref h0), (1, .int a0), (2, .int a1), (3, .int a2)]) hx hb dX0_listChain_4 hl (by decide) rfl (fun ls hl => ?_)
  refine lv_iconst (v := 0) hx hb dX0_listChain_6 (by decide) ?_
  refine lv_istore (lv' := [(6, .int 0), (5, .int a1), (4, .int a0), (0, .ref h0), (1, .int a0), (2, .int a1), (3, .int a2)]) hx hb dX0_listChain_7 hl (by decide) rfl (fun ls hl => ?_)
  exact loop (a2.toInt.toNat + 1) σ a0 a1 0 _ _ _ (x_meas0) (by (simp only [x_listChain, ↓reduceIte]) <;> rfl) G (lv_sub hl [3, 4, 5, 6, 2, 1, 0] rfl)

set_option maxHeartbeats 4000000 in
set_option maxRecDepth 100000 in
theorem kX0_listCells (l : Launch) (D : va_G) (h0 r0 : Nat) (cA : ClassId) (σ : Sx) (a0 : Int32) : gMi l yX0_listCells wsX0_listCells ({ frames := 2, cells := 0, slots := 0, locals := 48 }) D vwCl [(cA, .int)] [.ref h0, .int a0] (xw h0 r0 cA) σ (fun r σ' => x_listCells σ a0 = (r, σ')) := by
  refine gMi_of (cc := cX0_listCells) (maxL := 4) (ret := (some .int)) (by decide) rfl (Nat.le_of_ble_eq_true rfl) ?_
  intro p e s m below meth c A ls E G hl
  obtain ⟨hx, hb, hml, hr, hlocks, hown, hts, -, -⟩ := id E
  have hin : ∀ w ∈ wsX00, w ∈ wsX0_listCells := fun w h => List.mem_cons_of_mem _ (List.mem_append_right _ h)
  have hl : lv_has ls 4 [(0, .ref h0), (1, .int a0)] := hl
  have loop2 : ∀ (n : Nat) (σ1 : Sx) (t : Int32) (k : Int32) (H : Heap) (locs : List Loc) (ls : Array Slot), ((200 : Int32).toInt - k.toInt).toNat < n → y_lsC n σ1 t k = x_listCells σ a0 → gG D vwCl [(cA, .int)] A s (xw h0 r0 cA σ1) H locs → lv_has ls 4 [(0, .ref h0), (1, .int a0), (2, .int t), (3, .int k)] → W p l e ({ frames := 2, cells := 0, slots := 0, locals := 48 }) s m [.ref h0, .int a0].toArray below meth c H locs 0 0 (MQ below (va_Qi (fun r σ' => x_listCells σ a0 = (r, σ')) (gB D vwCl [(cA, .int)] A (xw h0 r0 cA)) A) [.ref h0, .int a0].toArray s 0 0 A) (F0 m 48 ls []) := by
    intro n
    induction n with
    | zero => intro σ1 t k H locs ls hm; exact absurd hm (Nat.not_lt_zero _)
    | succ n ih =>
      intro σ1 t k H locs ls hm hinv G hl
      refine lv_iload_n hx hb dX0_listCells_48 rfl (lv_at hl 3 rfl) ?_
      refine lv_iload_n hx hb dX0_listCells_49 rfl (lv_at hl 2 rfl) ?_
      refine lv_icmp_ge (tgt := 92) hx hb dX0_listCells_50 (by decide) (fun c_1 => ?_) (fun c_1 => ?_)
      · refine lv_iload_n hx hb dX0_listCells_92 rfl (lv_at hl 2 rfl) ?_
        exact g_iret (u := σ1) E G (by rw [← hinv]; (simp only [y_lsC, c_1, ↓reduceIte]) <;> rfl) dX0_listCells_93
      · refine lv_iload_n hx hb dX0_listCells_53 rfl (lv_at hl 3 rfl) ?_
        refine lv_sipush (v := 200) hx hb dX0_listCells_54 (by decide) ?_
        refine lv_icmp_ge (tgt := 92) hx hb dX0_listCells_57 (by decide) (fun c_2 => ?_) (fun c_2 => ?_)
        · refine lv_iload_n hx hb dX0_listCells_92 rfl (lv_at hl 2 rfl) ?_
          exact g_iret (u := σ1) E G (by rw [← hinv]; (simp only [y_lsC, c_1, c_2, ↓reduceIte]) <;> rfl) dX0_listCells_93
        · refine lv_aload_n hx hb dX0_listCells_60 rfl (lv_at hl 0 rfl) ?_
          refine lv_iload_n hx hb dX0_listCells_61 rfl (lv_at hl 2 rfl) ?_
          refine lv_aload_n hx hb dX0_listCells_62 rfl (lv_at hl 0 rfl) ?_
          refine lv_sipush (v := 400) hx hb dX0_listCells_63 (by decide) ?_
          refine lv_aload_n hx hb dX0_listCells_66 rfl (lv_at hl 0 rfl) ?_
          refine lv_sipush (v := 800) hx hb dX0_listCells_67 (by decide) ?_
          refine lv_iload_n hx hb dX0_listCells_70 rfl (lv_at hl 3 rfl) ?_
          refine lv_iadd hx hb dX0_listCells_71 ?_
          refine x_calli (As := [.int (800 + k)]) (rest := [.int 400, .ref h0, .int t, .ref h0]) ⟨hx, hb, hml, hown, hts⟩ (kX0_read l D h0 r0 cA σ1 (800 + k)) (cwV 1 hts gX0_listCells_X0_read rfl rfl rfl (by decide +kernel) ⟨Nat.le_of_ble_eq_true rfl, Nat.le_of_ble_eq_true rfl⟩) G rfl hl.1 rfl (Nat.le_of_ble_eq_true rfl) dX0_listCells_72 ⟨Nat.zero_le _, Nat.zero_le _⟩ (fun r_3 σ_4 H locs e_5 G => ?_)
          refine lv_iadd hx hb dX0_listCells_75 ?_
          refine x_calli (As := [.int (400 + r_3)]) (rest := [.int t, .ref h0]) ⟨hx, hb, hml, hown, hts⟩ (kX0_read l D h0 r0 cA σ_4 (400 + r_3)) (cwV 1 hts gX0_listCells_X0_read rfl rfl rfl (by decide +kernel) ⟨Nat.le_of_ble_eq_true rfl, Nat.le_of_ble_eq_true rfl⟩) G rfl hl.1 rfl (Nat.le_of_ble_eq_true rfl) dX0_listCells_76 ⟨Nat.zero_le _, Nat.zero_le _⟩ (fun r_6 σ_7 H locs e_8 G => ?_)
          refine lv_sipush (v := 200) hx hb dX0_listCells_79 (by decide) ?_
          refine x_calli (As := [.int t, .int r_6, .int 200]) (rest := []) ⟨hx, hb, hml, hown, hts⟩ (kX0_listChain l D h0 r0 cA σ_7 t r_6 200) (cwV 3 hts gX0_listCells_X0_listChain rfl rfl rfl (by decide +kernel) ⟨Nat.le_of_ble_eq_true rfl, Nat.le_of_ble_eq_true rfl⟩) G rfl hl.1 rfl (Nat.le_of_ble_eq_true rfl) dX0_listCells_82 ⟨Nat.zero_le _, Nat.zero_le _⟩ (fun r_9 σ_10 H locs e_11 G => ?_)
          refine lv_istore_n (lv' := [(2, .int r_9), (0, .ref h0), (1, .int a0), (3, .int k)]) hx hb dX0_listCells_85 rfl hl (by decide) rfl (fun ls hl => ?_)
          obtain ⟨v_12, ev_12⟩ : ∃ y : Int32, y = k + 1 := ⟨_, rfl⟩
          refine lv_iinc (v := v_12) (lv' := [(3, .int v_12), (2, .int r_9), (0, .ref h0), (1, .int a0)]) hx hb dX0_listCells_86 hl (k := 3) rfl (by rw [ev_12]; rfl) (by decide) rfl (fun ls hl => ?_)
          refine lv_goto (tgt := 48) hx hb dX0_listCells_89 (by decide) ?_
          exact ih σ_10 r_9 v_12 _ _ _ (by subst ev_12; exact Nat.lt_of_lt_of_le (x_meas c_2) (Nat.le_of_lt_succ hm)) (by subst ev_12; rw [← hinv]; (simp only [y_lsC, c_1, c_2, e_5, e_8, e_11, ↓reduceIte]) <;> rfl) G (lv_sub hl [2, 3, 1, 0] rfl)
  have loop1 : ∀ (n : Nat) (σ1 : Sx) (t : Int32) (k : Int32) (H : Heap) (locs : List Loc) (ls : Array Slot), ((8 : Int32).toInt - k.toInt).toNat < n → y_lsC 201 (y_lsT a0 n σ1 t k).2 (y_lsT a0 n σ1 t k).1 0 = x_listCells σ a0 → gG D vwCl [(cA, .int)] A s (xw h0 r0 cA σ1) H locs → lv_has ls 4 [(0, .ref h0), (1, .int a0), (2, .int t), (3, .int k)] → W p l e ({ frames := 2, cells := 0, slots := 0, locals := 48 }) s m [.ref h0, .int a0].toArray below meth c H locs 0 0 (MQ below (va_Qi (fun r σ' => x_listCells σ a0 = (r, σ')) (gB D vwCl [(cA, .int)] A (xw h0 r0 cA)) A) [.ref h0, .int a0].toArray s 0 0 A) (F0 m 18 ls []) := by
    intro n
    induction n with
    | zero => intro σ1 t k H locs ls hm; exact absurd hm (Nat.not_lt_zero _)
    | succ n ih =>
      intro σ1 t k H locs ls hm hinv G hl
      refine lv_iload_n hx hb dX0_listCells_18 rfl (lv_at hl 3 rfl) ?_
      refine lv_bipush (v := 8) hx hb dX0_listCells_19 (by decide) ?_
      refine lv_icmp_ge (tgt := 46) hx hb dX0_listCells_21 (by decide) (fun c_13 => ?_) (fun c_13 => ?_)
      · refine lv_iconst (v := 0) hx hb dX0_listCells_46 (by decide) ?_
        refine lv_istore_n (lv' := [(3, .int 0), (0, .ref h0), (1, .int a0), (2, .int t)]) hx hb dX0_listCells_47 rfl hl (by decide) rfl (fun ls hl => ?_)
        exact loop2 (201) σ1 t 0 _ _ _ (by decide) (by rw [← hinv]; (simp only [y_lsT, c_13, ↓reduceIte]) <;> rfl) G (lv_sub hl [1, 2, 3, 0] rfl)
      · refine lv_aload_n hx hb dX0_listCells_24 rfl (lv_at hl 0 rfl) ?_
        refine lv_iload_n hx hb dX0_listCells_25 rfl (lv_at hl 2 rfl) ?_
        refine lv_aload_n hx hb dX0_listCells_26 rfl (lv_at hl 0 rfl) ?_
        refine lv_iload_n hx hb dX0_listCells_27 rfl (lv_at hl 1 rfl) ?_
        refine lv_iload_n hx hb dX0_listCells_28 rfl (lv_at hl 3 rfl) ?_
        refine g_calls (As := [.int a0, .int k]) (rest := [.ref h0, .int t, .ref h0]) ⟨hx, hb, hml, hown, hts⟩ (kX0_topAt l a0 k) (va_cwS 2 hts gX0_listCells_X0_topAt rfl rfl rfl (by decide +kernel) ⟨Nat.le_of_ble_eq_true rfl, Nat.le_of_ble_eq_true rfl⟩) G rfl hl.1 rfl (Nat.le_of_ble_eq_true rfl) dX0_listCells_29 ⟨Nat.zero_le _, Nat.zero_le _⟩ (fun r_14 H locs e_15 G => ?_)
        subst e_15
        refine x_calli (As := [.int (x_topAt a0 k)]) (rest := [.int t, .ref h0]) ⟨hx, hb, hml, hown, hts⟩ (kX0_read l D h0 r0 cA σ1 (x_topAt a0 k)) (cwV 1 hts gX0_listCells_X0_read rfl rfl rfl (by decide +kernel) ⟨Nat.le_of_ble_eq_true rfl, Nat.le_of_ble_eq_true rfl⟩) G rfl hl.1 rfl (Nat.le_of_ble_eq_true rfl) dX0_listCells_32 ⟨Nat.zero_le _, Nat.zero_le _⟩ (fun r_16 σ_17 H locs e_18 G => ?_)
        refine lv_iconst (v := 1) hx hb dX0_listCells_35 (by decide) ?_
        refine x_calli (As := [.int t, .int r_16, .int 1]) (rest := []) ⟨hx, hb, hml, hown, hts⟩ (kX0_listChain l D h0 r0 cA σ_17 t r_16 1) (cwV 3 hts gX0_listCells_X0_listChain rfl rfl rfl (by decide +kernel) ⟨Nat.le_of_ble_eq_true rfl, Nat.le_of_ble_eq_true rfl⟩) G rfl hl.1 rfl (Nat.le_of_ble_eq_true rfl) dX0_listCells_36 ⟨Nat.zero_le _, Nat.zero_le _⟩ (fun r_19 σ_20 H locs e_21 G => ?_)
        refine lv_istore_n (lv' := [(2, .int r_19), (0, .ref h0), (1, .int a0), (3, .int k)]) hx hb dX0_listCells_39 rfl hl (by decide) rfl (fun ls hl => ?_)
        obtain ⟨v_22, ev_22⟩ : ∃ y : Int32, y = k + 1 := ⟨_, rfl⟩
        refine lv_iinc (v := v_22) (lv' := [(3, .int v_22), (2, .int r_19), (0, .ref h0), (1, .int a0)]) hx hb dX0_listCells_40 hl (k := 3) rfl (by rw [ev_22]; rfl) (by decide) rfl (fun ls hl => ?_)
        refine lv_goto (tgt := 18) hx hb dX0_listCells_43 (by decide) ?_
        exact ih σ_20 r_19 v_22 _ _ _ (by subst ev_22; exact Nat.lt_of_lt_of_le (x_meas c_13) (Nat.le_of_lt_succ hm)) (by subst ev_22; rw [← hinv]; (simp only [y_lsT, c_13, e_18, e_21, ↓reduceIte]) <;> rfl) G (lv_sub hl [2, 3, 1, 0] rfl)
  refine lv_aload_n hx hb dX0_listCells_0 rfl (lv_at hl 0 rfl) ?_
  refine lv_iconst (v := 0) hx hb dX0_listCells_1 (by decide) ?_
  refine lv_aload_n hx hb dX0_listCells_2 rfl (lv_at hl 0 rfl) ?_
  refine lv_sipush (v := 1064) hx hb dX0_listCells_3 (by decide) ?_
  refine lv_iload_n hx hb dX0_listCells_6 rfl (lv_at hl 1 rfl) ?_
  refine lv_iadd hx hb dX0_listCells_7 ?_
  refine x_calli (As := [.int (1064 + a0)]) (rest := [.int 0, .ref h0]) ⟨hx, hb, hml, hown, hts⟩ (kX0_read l D h0 r0 cA σ (1064 + a0)) (cwV 1 hts gX0_listCells_X0_read rfl rfl rfl (by decide +kernel) ⟨Nat.le_of_ble_eq_true rfl, Nat.le_of_ble_eq_true rfl⟩) G rfl hl.1 rfl (Nat.le_of_ble_eq_true rfl) dX0_listCells_8 ⟨Nat.zero_le _, Nat.zero_le _⟩ (fun r_23 σ_24 H locs e_25 G => ?_)
  refine lv_iconst (v := 1) hx hb dX0_listCells_11 (by decide) ?_
  refine x_calli (As := [.int 0, .int r_23, .int 1]) (rest := []) ⟨hx, hb, hml, hown, hts⟩ (kX0_listChain l D h0 r0 cA σ_24 0 r_23 1) (cwV 3 hts gX0_listCells_X0_listChain rfl rfl rfl (by decide +kernel) ⟨Nat.le_of_ble_eq_true rfl, Nat.le_of_ble_eq_true rfl⟩) G rfl hl.1 rfl (Nat.le_of_ble_eq_true rfl) dX0_listCells_12 ⟨Nat.zero_le _, Nat.zero_le _⟩ (fun r_26 σ_27 H locs e_28 G => ?_)
  refine lv_istore_n (lv' := [(2, .int r_26), (0, .ref h0), (1, .int a0)]) hx hb dX0_listCells_15 rfl hl (by decide) rfl (fun ls hl => ?_)
  refine lv_iconst (v := 0) hx hb dX0_listCells_16 (by decide) ?_
  refine lv_istore_n (lv' := [(3, .int 0), (2, .int r_26), (0, .ref h0), (1, .int a0)]) hx hb dX0_listCells_17 rfl hl (by decide) rfl (fun ls hl => ?_)
  exact loop1 (9) σ_27 r_26 0 _ _ _ (by decide) (by (simp only [x_listCells, e_25, e_28, ↓reduceIte]) <;> rfl) G (lv_sub hl [2, 3, 1, 0] rfl)

set_option maxHeartbeats 4000000 in
set_option maxRecDepth 100000 in
theorem kX0_countUpTo (l : Launch) (D : va_G) (h0 r0 : Nat) (cA : ClassId) (σ : Sx) (a0 : Int32) (a1 : Int64) : gMi l yX0_countUpTo wsX0_countUpTo ({ frames := 2, cells := 0, slots := 0, locals := 42 }) D vwCl [(cA, .int)] [.ref h0, .int a0, .long a1] (xw h0 r0 cA) σ (fun r σ' => x_countUpTo σ a0 a1 = (r, σ')) := by
  refine gMi_of (cc := cX0_countUpTo) (maxL := 6) (ret := (some .int)) (by decide) rfl (Nat.le_of_ble_eq_true rfl) ?_
  intro p e s m below meth c A ls E G hl
  obtain ⟨hx, hb, hml, hr, hlocks, hown, hts, -, -⟩ := id E
  have hin : ∀ w ∈ wsX00, w ∈ wsX0_countUpTo := fun w h => List.mem_cons_of_mem _ (List.mem_append_right _ h)
  have hl : lv_has ls 6 [(0, .ref h0), (1, .int a0), (2, .long a1)] := hl
  have loop : ∀ (n : Nat) (σ1 : Sx) (t : Int32) (k : Int32) (H : Heap) (locs : List Loc) (ls : Array Slot), (a0.toInt - k.toInt).toNat < n → y_cuL a1 a0 n σ1 t k = x_countUpTo σ a0 a1 → gG D vwCl [(cA, .int)] A s (xw h0 r0 cA σ1) H locs → lv_has ls 6 [(0, .ref h0), (1, .int a0), (2, .long a1), (4, .int t), (5, .int k)] → W p l e ({ frames := 2, cells := 0, slots := 0, locals := 42 }) s m [.ref h0, .int a0, .long a1].toArray below meth c H locs 0 0 (MQ below (va_Qi (fun r σ' => x_countUpTo σ a0 a1 = (r, σ')) (gB D vwCl [(cA, .int)] A (xw h0 r0 cA)) A) [.ref h0, .int a0, .long a1].toArray s 0 0 A) (F0 m 6 ls []) := by
    intro n
    induction n with
    | zero => intro σ1 t k H locs ls hm; exact absurd hm (Nat.not_lt_zero _)
    | succ n ih =>
      intro σ1 t k H locs ls hm hinv G hl
      refine lv_iload hx hb dX0_countUpTo_6 (lv_at hl 4 rfl) ?_
      refine lv_iload_n hx hb dX0_countUpTo_8 rfl (lv_at hl 1 rfl) ?_
      refine lv_icmp_ge (tgt := 33) hx hb dX0_countUpTo_9 (by decide) (fun c_1 => ?_) (fun c_1 => ?_)
      · refine lv_iload hx hb dX0_countUpTo_33 (lv_at hl 3 rfl) ?_
        exact g_iret (u := σ1) E G (by rw [← hinv]; (simp only [y_cuL, c_1, ↓reduceIte]) <;> rfl) dX0_countUpTo_35
      · refine lv_aload_n hx hb dX0_countUpTo_12 rfl (lv_at hl 0 rfl) ?_
        refine lv_iload hx hb dX0_countUpTo_13 (lv_at hl 4 rfl) ?_
        refine x_calli (As := [.int k]) (rest := []) ⟨hx, hb, hml, hown, hts⟩ (kX0_listedKey l D h0 r0 cA σ1 k) (cwV 1 hts gX0_countUpTo_X0_listedKey rfl rfl rfl (by decide +kernel) ⟨Nat.le_of_ble_eq_true rfl, Nat.le_of_ble_eq_true rfl⟩) G rfl hl.1 rfl (Nat.le_of_ble_eq_true rfl) dX0_countUpTo_15 ⟨Nat.zero_le _, Nat.zero_le _⟩ (fun r_2 σ_3 H locs e_4 G => ?_)
        refine lv_i2l (v := r_2.toInt64) hx hb dX0_countUpTo_18 rfl ?_
        refine lv_lload_n hx hb dX0_countUpTo_19 rfl (lv_at hl 2 rfl) ?_
        refine W.lcmp hx hb dX0_countUpTo_20 ?_
        refine lv_if_gt (tgt := 27) hx hb dX0_countUpTo_21 (by decide) (fun c_5 => ?_) (fun c_5 => ?_)
        · rw [lg_cmp_gt] at c_5
          obtain ⟨v_6, ev_6⟩ : ∃ y : Int32, y = k + 1 := ⟨_, rfl⟩
          refine lv_iinc (v := v_6) (lv' := [(5, .int v_6), (0, .ref h0), (1, .int a0), (2, .long a1), (4, .int t)]) hx hb dX0_countUpTo_27 hl (k := 4) rfl (by rw [ev_6]; rfl) (by decide) rfl (fun ls hl => ?_)
          refine lv_goto (tgt := 6) hx hb dX0_countUpTo_30 (by decide) ?_
          exact ih σ_3 t v_6 _ _ _ (by subst ev_6; exact Nat.lt_of_lt_of_le (x_meas c_1) (Nat.le_of_lt_succ hm)) (by subst ev_6; rw [← hinv]; (simp only [y_cuL, c_1, e_4, c_5, ↓reduceIte]) <;> rfl) G (lv_sub hl [1, 2, 3, 4, 0] rfl)
        · rw [lg_cmp_gt] at c_5
          obtain ⟨v_7, ev_7⟩ : ∃ y : Int32, y = t + 1 := ⟨_, rfl⟩
          refine lv_iinc (v := v_7) (lv' := [(4, .int v_7), (0, .ref h0), (1, .int a0), (2, .long a1), (5, .int k)]) hx hb dX0_countUpTo_24 hl (k := 3) rfl (by rw [ev_7]; rfl) (by decide) rfl (fun ls hl => ?_)
          obtain ⟨v_8, ev_8⟩ : ∃ y : Int32, y = k + 1 := ⟨_, rfl⟩
          refine lv_iinc (v := v_8) (lv' := [(5, .int v_8), (4, .int v_7), (0, .ref h0), (1, .int a0), (2, .long a1)]) hx hb dX0_countUpTo_27 hl (k := 4) rfl (by rw [ev_8]; rfl) (by decide) rfl (fun ls hl => ?_)
          refine lv_goto (tgt := 6) hx hb dX0_countUpTo_30 (by decide) ?_
          exact ih σ_3 v_7 v_8 _ _ _ (by subst ev_8; subst ev_7; exact Nat.lt_of_lt_of_le (x_meas c_1) (Nat.le_of_lt_succ hm)) (by subst ev_8; subst ev_7; rw [← hinv]; (simp only [y_cuL, c_1, e_4, c_5, ↓reduceIte]) <;> rfl) G (lv_sub hl [2, 3, 4, 1, 0] rfl)
  refine lv_iconst (v := 0) hx hb dX0_countUpTo_0 (by decide) ?_
  refine lv_istore (lv' := [(4, .int 0), (0, .ref h0), (1, .int a0), (2, .long a1)]) hx hb dX0_countUpTo_1 hl (by decide) rfl (fun ls hl => ?_)
  refine lv_iconst (v := 0) hx hb dX0_countUpTo_3 (by decide) ?_
  refine lv_istore (lv' := [(5, .int 0), (4, .int 0), (0, .ref h0), (1, .int a0), (2, .long a1)]) hx hb dX0_countUpTo_4 hl (by decide) rfl (fun ls hl => ?_)
  exact loop (a0.toInt.toNat + 1) σ 0 0 _ _ _ (x_meas0) (by (simp only [x_countUpTo, ↓reduceIte]) <;> rfl) G (lv_sub hl [2, 3, 4, 1, 0] rfl)

set_option maxHeartbeats 4000000 in
set_option maxRecDepth 100000 in
theorem kX0_kthListed (l : Launch) (D : va_G) (h0 r0 : Nat) (cA : ClassId) (σ : Sx) (a0 : Int32) (a1 : Int32) : gMl l yX0_kthListed wsX0_kthListed ({ frames := 3, cells := 0, slots := 0, locals := 67 }) D vwCl [(cA, .int)] [.ref h0, .int a0, .int a1] (xw h0 r0 cA) σ (fun r σ' => x_kthListed σ a0 a1 = (r, σ')) := by
  refine gMl_of (cc := cX0_kthListed) (maxL := 10) (ret := (some .long)) (by decide) rfl (Nat.le_of_ble_eq_true rfl) ?_
  intro p e s m below meth c A ls E G hl
  obtain ⟨hx, hb, hml, hr, hlocks, hown, hts, -, -⟩ := id E
  have hin : ∀ w ∈ wsX00, w ∈ wsX0_kthListed := fun w h => List.mem_cons_of_mem _ (List.mem_append_right _ h)
  have hl : lv_has ls 10 [(0, .ref h0), (1, .int a0), (2, .int a1)] := hl
  have loop : ∀ (n : Nat) (σ1 : Sx) (lo : Int64) (hi : Int64) (k : Int32) (H : Heap) (locs : List Loc) (ls : Array Slot), ((32 : Int32).toInt - k.toInt).toNat < n → y_kthL a0 a1 n σ1 lo hi k = x_kthListed σ a0 a1 → gG D vwCl [(cA, .int)] A s (xw h0 r0 cA σ1) H locs → lv_has ls 10 [(0, .ref h0), (1, .int a0), (2, .int a1), (3, .long lo), (5, .long hi), (7, .int k)] → W p l e ({ frames := 3, cells := 0, slots := 0, locals := 67 }) s m [.ref h0, .int a0, .int a1].toArray below meth c H locs 0 0 (MQ below (va_Ql (fun r σ' => x_kthListed σ a0 a1 = (r, σ')) (gB D vwCl [(cA, .int)] A (xw h0 r0 cA)) A) [.ref h0, .int a0, .int a1].toArray s 0 0 A) (F0 m 12 ls []) := by
    intro n
    induction n with
    | zero => intro σ1 lo hi k H locs ls hm; exact absurd hm (Nat.not_lt_zero _)
    | succ n ih =>
      intro σ1 lo hi k H locs ls hm hinv G hl
      refine lv_iload hx hb dX0_kthListed_12 (lv_at hl 5 rfl) ?_
      refine lv_bipush (v := 32) hx hb dX0_kthListed_14 (by decide) ?_
      refine lv_icmp_ge (tgt := 56) hx hb dX0_kthListed_16 (by decide) (fun c_1 => ?_) (fun c_1 => ?_)
      · refine lv_lload_n hx hb dX0_kthListed_56 rfl (lv_at hl 3 rfl) ?_
        exact g_lret (u := σ1) E G (by rw [← hinv]; (simp only [y_kthL, c_1, ↓reduceIte]) <;> rfl) dX0_kthListed_57
      · refine lv_lload_n hx hb dX0_kthListed_19 rfl (lv_at hl 3 rfl) ?_
        refine lv_lload hx hb dX0_kthListed_20 (lv_at hl 4 rfl) ?_
        refine lv_ladd hx hb dX0_kthListed_22 ?_
        refine lv_iconst (v := 1) hx hb dX0_kthListed_23 (by decide) ?_
        refine lv_lshr (v := ((lo + hi) >>> ((1 : Int32).toInt64 &&& 63))) hx hb dX0_kthListed_24 rfl ?_
        refine lv_topl (fun v_2 ev_2 => ?_)
        refine lv_lstore (lv' := [(8, .long v_2), (0, .ref h0), (1, .int a0), (2, .int a1), (3, .long lo), (5, .long hi), (7, .int k)]) hx hb dX0_kthListed_25 hl (by decide) rfl (fun ls hl => ?_)
        refine lv_aload_n hx hb dX0_kthListed_27 rfl (lv_at hl 1 rfl) ?_
        refine lv_iload_n hx hb dX0_kthListed_28 rfl (lv_at hl 2 rfl) ?_
        refine lv_lload hx hb dX0_kthListed_29 (lv_at hl 0 rfl) ?_
        refine x_calli (As := [.int a0, .long v_2]) (rest := []) ⟨hx, hb, hml, hown, hts⟩ (kX0_countUpTo l D h0 r0 cA σ1 a0 v_2) (cwV 2 hts gX0_kthListed_X0_countUpTo rfl rfl rfl (by decide +kernel) ⟨Nat.le_of_ble_eq_true rfl, Nat.le_of_ble_eq_true rfl⟩) G rfl hl.1 rfl (Nat.le_of_ble_eq_true rfl) dX0_kthListed_31 ⟨Nat.zero_le _, Nat.zero_le _⟩ (fun r_3 σ_4 H locs e_5 G => ?_)
        refine lv_iload_n hx hb dX0_kthListed_34 rfl (lv_at hl 3 rfl) ?_
        refine lv_icmp_le (tgt := 45) hx hb dX0_kthListed_35 (by decide) (fun c_6 => ?_) (fun c_6 => ?_)
        · refine lv_lload hx hb dX0_kthListed_45 (lv_at hl 0 rfl) ?_
          refine lv_lconst (v := 1) hx hb dX0_kthListed_47 (by decide) ?_
          refine lv_ladd hx hb dX0_kthListed_48 ?_
          refine lv_topl (fun v_7 ev_7 => ?_)
          refine lv_lstore_n (lv' := [(3, .long v_7), (8, .long v_2), (0, .ref h0), (1, .int a0), (2, .int a1), (5, .long hi), (7, .int k)]) hx hb dX0_kthListed_49 rfl hl (by decide) rfl (fun ls hl => ?_)
          obtain ⟨v_8, ev_8⟩ : ∃ y : Int32, y = k + 1 := ⟨_, rfl⟩
          refine lv_iinc (v := v_8) (lv' := [(7, .int v_8), (3, .long v_7), (8, .long v_2), (0, .ref h0), (1, .int a0), (2, .int a1), (5, .long hi)]) hx hb dX0_kthListed_50 hl (k := 6) rfl (by rw [ev_8]; rfl) (by decide) rfl (fun ls hl => ?_)
          refine lv_goto (tgt := 12) hx hb dX0_kthListed_53 (by decide) ?_
          exact ih σ_4 v_7 hi v_8 _ _ _ (by subst ev_8; subst ev_7; subst ev_2; exact Nat.lt_of_lt_of_le (x_meas c_1) (Nat.le_of_lt_succ hm)) (by subst ev_8; subst ev_7; subst ev_2; rw [← hinv]; (simp only [y_kthL, c_1, e_5, c_6, ↓reduceIte]) <;> rfl) G (lv_sub hl [3, 4, 5, 1, 6, 0] rfl)
        · refine lv_lload hx hb dX0_kthListed_38 (lv_at hl 0 rfl) ?_
          refine lv_lstore (lv' := [(5, .long v_2), (8, .long v_2), (0, .ref h0), (1, .int a0), (2, .int a1), (3, .long lo), (7, .int k)]) hx hb dX0_kthListed_40 hl (by decide) rfl (fun ls hl => ?_)
          refine lv_goto (tgt := 50) hx hb dX0_kthListed_42 (by decide) ?_
          obtain ⟨v_9, ev_9⟩ : ∃ y : Int32, y = k + 1 := ⟨_, rfl⟩
          refine lv_iinc (v := v_9) (lv' := [(7, .int v_9), (5, .long v_2), (8, .long v_2), (0, .ref h0), (1, .int a0), (2, .int a1), (3, .long lo)]) hx hb dX0_kthListed_50 hl (k := 6) rfl (by rw [ev_9]; rfl) (by decide) rfl (fun ls hl => ?_)
          refine lv_goto (tgt := 12) hx hb dX0_kthListed_53 (by decide) ?_
          exact ih σ_4 lo v_2 v_9 _ _ _ (by subst ev_9; subst ev_2; exact Nat.lt_of_lt_of_le (x_meas c_1) (Nat.le_of_lt_succ hm)) (by subst ev_9; subst ev_2; rw [← hinv]; (simp only [y_kthL, c_1, e_5, c_6, ↓reduceIte]) <;> rfl) G (lv_sub hl [3, 4, 5, 6, 1, 0] rfl)
  refine lv_ldc2 hx hb hown (hts (.constantLong RX0 124 (-2147483648)) (by decide +kernel)) dX0_kthListed_0 ?_
  refine lv_lstore_n (lv' := [(3, .long (-2147483648)), (0, .ref h0), (1, .int a0), (2, .int a1)]) hx hb dX0_kthListed_3 rfl hl (by decide) rfl (fun ls hl => ?_)
  refine lv_ldc2 hx hb hown (hts (.constantLong RX0 126 (2147483647)) (by decide +kernel)) dX0_kthListed_4 ?_
  refine lv_lstore (lv' := [(5, .long (2147483647)), (3, .long (-2147483648)), (0, .ref h0), (1, .int a0), (2, .int a1)]) hx hb dX0_kthListed_7 hl (by decide) rfl (fun ls hl => ?_)
  refine lv_iconst (v := 0) hx hb dX0_kthListed_9 (by decide) ?_
  refine lv_istore (lv' := [(7, .int 0), (5, .long (2147483647)), (3, .long (-2147483648)), (0, .ref h0), (1, .int a0), (2, .int a1)]) hx hb dX0_kthListed_10 hl (by decide) rfl (fun ls hl => ?_)
  exact loop (33) σ (-2147483648) (2147483647) 0 _ _ _ (by decide) (by (simp only [x_kthListed, ↓reduceIte]) <;> rfl) G (lv_sub hl [3, 4, 5, 2, 1, 0] rfl)
