/-! SkewMelds(): one row of 1080 ints; the state is x_new -/
set_option maxHeartbeats 4000000 in
set_option maxRecDepth 100000 in
theorem kX0_init (l : Launch) (D : va_G) (h0 sz : Nat) : Met l yX0_init wsX0_init ({ frames := 2, cells := 1, slots := 1080, locals := 43 })
    (va_Pc [.ref h0] (gP D vwCl [] sz [(h0, .inr (0, [.null, .int 0, .int 0, .int 0, .int 0, .int 0]))]))
    (va_Qv (fun _ : Nat × ClassId => True) (fun u t => va_P D vwCl (xw h0 u.1 u.2 x_new) t.heap ∧ va_K D vwCl [(u.2, .int)] t ∧ va_D (va_A [(h0, .inr (0, [.null, .int 0, .int 0, .int 0, .int 0, .int 0]))] sz) (xw h0 u.1 u.2 x_new)) (va_A [(h0, .inr (0, [.null, .int 0, .int 0, .int 0, .int 0, .int 0]))] sz)) 1 1080 (va_A [(h0, .inr (0, [.null, .int 0, .int 0, .int 0, .int 0, .int 0]))] sz) := by
  refine Met.ofW (cc := cX0_init) (maxL := 2) (ret := none) (by decide) rfl ?_
  intro p e s m args below meth c s₁ B hml hv
  obtain ⟨rfl, hsz, hP, hK, hD0⟩ := hv
  have hx := B.exec
  have hb := B.bytes
  have hr := B.returns
  have hts := atoms_spec (ws := wsX0_init) B.pre
  have hown : s.vm.findClass RX0 = some m.cls := findClass_of_methodNamed B.named
  have hlocks := B.notSynchronized
  have hnm : meth.name = "<init>" := (name_of_methodNamed B.named B.method).1
  have hin : ∀ w ∈ wsX00, w ∈ wsX0_init := fun w h => List.mem_cons_of_mem _ (List.mem_append_right _ h)
  subst hsz
  have hD := hD0.self (sz := s.heap.size)
  generalize hAe : va_A [(h0, .inr (0, [.null, .int 0, .int 0, .int 0, .int 0, .int 0]))] s.heap.size = A at hD ⊢
  have hA : ∀ q : Nat, s.heap.size ≤ q → A q := fun q h => by rw [← hAe]; exact Or.inr h
  have hS : va_S A s.heap s.heap [] := va_S.rf
  have hl := lv_entry ([.ref h0]) (n := 2) (Nat.le_of_ble_eq_true rfl)
  rw [lg_entry_eq]
  generalize (lg_sl ([.ref h0]) ++ List.replicate (2 - (lg_sl ([.ref h0])).length) Slot.unset).toArray = ls at hl ⊢
  have hl : lv_has ls 2 [(0, .ref h0)] := hl
  refine lv_aload_n hx hb dX0_init_0 rfl (lv_at hl 0 rfl) ?_
  refine W.objInit hx hb hown (hts (.methodLink RX0 7 objectInit) (by decide +kernel)) (hts (.instanceMethod objectInit) (by decide +kernel)) (hts _ (List.mem_cons_of_mem _ (List.mem_append_left _ (List.mem_of_getElem? (i := 2) rfl)))) rfl (by rw [hml]; exact hl.1) rfl dX0_init_1 (Nat.le_of_ble_eq_true rfl) (Nat.le_of_ble_eq_true rfl) ?_
  refine W.eq (g2 := F0 m 4 ls []) rfl ?_
  refine lv_aload_n hx hb dX0_init_4 rfl (lv_at hl 0 rfl) ?_
  refine lv_sipush (v := 1080) hx hb dX0_init_5 (by decide) ?_
  refine va_newa (atype := .int) (ty := .int) (N' := 1080) (a0 := (1080, .inl (fun _ => 0))) hx hb (hts (.arrayClass .int) (by decide +kernel)) rfl hK hP hD hS hA (fun _ => rfl) (by decide) (by decide) (by decide) (Nat.le_of_ble_eq_true rfl) (Nat.le_of_ble_eq_true rfl) dX0_init_8 (fun r0 cA H hK hP hD hS => ?_)
  have hP : va_P D vwCl [(h0, .inr (0, [.null, .int 0, .int 0, .int 0, .int 0, .int 0])), (r0, .inl (cA, 1080, .inl (fun _ => 0)))] H := hP
  have hD : va_D A [(h0, .inr (0, [.null, .int 0, .int 0, .int 0, .int 0, .int 0])), (r0, .inl (cA, 1080, .inl (fun _ => 0)))] := hD
  have hK : va_K D vwCl [(cA, .int)] s := hK
  refine W.widen (k := 1) (n := 1080) (by omega) (by omega) ?_
  refine va_putF (D := D) (ci := 0) (v := .ref r0) (ty := .array .int) (C := RX0) (T := TX0) (N := 6) hx hb hts hin tyX0 tyX0_ok nmX0 hown hK hP hD hS 0 rfl rfl 0 (by decide) (hts (.fieldLink RX0 13 "SkewMelds" "row" "[I") (by decide +kernel)) (fun _ h9 => h9) rfl hnm rfl (by decide +kernel) rfl rfl (Nat.le_of_ble_eq_true rfl) dX0_init_10 (fun H locs hP hD hS => ?_)
  have G : gG D vwCl [(cA, .int)] A s (xw h0 r0 cA (fun _ => 0, 0, 0, 0, 0, 0)) H locs := ⟨hP, hD, hS, hK, hA⟩
  clear hP hD hS
  have loop2 : ∀ (n : Nat) (σ1 : Sx) (k : Int32) (H : Heap) (locs : List Loc) (ls : Array Slot), (k.toInt + 1).toNat < n → x_begin (y_giL n σ1 k) 2147483647 = x_new → gG D vwCl [(cA, .int)] A s (xw h0 r0 cA σ1) H locs → lv_has ls 2 [(0, .ref h0), (1, .int k)] →
      W p l e ({ frames := 2, cells := 1, slots := 1080, locals := 43 }) s m [.ref h0].toArray below meth c H locs 1 1080 (MQ below (va_Qv (fun _ : Nat × ClassId => True) (fun u t => va_P D vwCl (xw h0 u.1 u.2 x_new) t.heap ∧ va_K D vwCl [(u.2, .int)] t ∧ va_D A (xw h0 u.1 u.2 x_new)) A) [.ref h0].toArray s 1 1080 A) (F0 m 45 ls []) := by
    intro n
    induction n with
    | zero => intro σ1 k H locs ls hm; exact absurd hm (Nat.not_lt_zero _)
    | succ n ih =>
      intro σ1 k H locs ls hm hinv G hl
      refine lv_iload_n hx hb dX0_init_45 rfl (lv_at hl 1 rfl) ?_
      refine lv_if_lt (tgt := 60) hx hb dX0_init_46 (by decide) (fun c_1 => ?_) (fun c_1 => ?_)
      · refine lv_aload_n hx hb dX0_init_60 rfl (lv_at hl 0 rfl) ?_
        refine lv_ldc hx hb hown (hts (.constant RX0 29 (2147483647)) (by decide +kernel)) dX0_init_61 ?_
        refine x_callv (As := [.int (2147483647)]) (rest := []) ⟨hx, hb, hml, hown, hts⟩ (kX0_begin l D h0 r0 cA σ1 (2147483647)) (cwV 1 hts gX0_init_X0_begin rfl rfl rfl (by decide +kernel) ⟨Nat.le_of_ble_eq_true rfl, Nat.le_of_ble_eq_true rfl⟩) G rfl hl.1 rfl (Nat.le_of_ble_eq_true rfl) dX0_init_63 ⟨Nat.le_of_ble_eq_true rfl, Nat.le_of_ble_eq_true rfl⟩ (fun σ2 H locs e_2 G => ?_)
        have e3 : x_new = σ2 := by
          rw [← hinv, ← e_2]
          simp only [y_giL, c_1, ↓reduceIte]
        rw [← e3] at G
        exact W.vret hx hb hr (fun t ht hW => ⟨⟨(r0, cA), rfl, trivial, by rw [ht]; exact G.1, va_K.moved hW.alike G.2.2.2.1, G.2.1⟩, G.2.2.1.F ht⟩) G.2.2.1.2.2 dX0_init_66
      · refine lv_aload_n hx hb dX0_init_49 rfl (lv_at hl 0 rfl) ?_
        refine lv_iload_n hx hb dX0_init_50 rfl (lv_at hl 1 rfl) ?_
        refine x_callv (As := [.int k]) (rest := []) ⟨hx, hb, hml, hown, hts⟩ (kX0_giveBack l D h0 r0 cA σ1 k) (cwV 1 hts gX0_init_X0_giveBack rfl rfl rfl (by decide +kernel) ⟨Nat.le_of_ble_eq_true rfl, Nat.le_of_ble_eq_true rfl⟩) G rfl hl.1 rfl (Nat.le_of_ble_eq_true rfl) dX0_init_51 ⟨Nat.le_of_ble_eq_true rfl, Nat.le_of_ble_eq_true rfl⟩ (fun σ2 H locs e_2 G => ?_)
        obtain ⟨v, ev⟩ : ∃ y : Int32, y = k + (-1) := ⟨_, rfl⟩
        refine lv_iinc (v := v) (lv' := [(1, .int v), (0, .ref h0)]) hx hb dX0_init_54 hl (k := 1) rfl (by rw [ev]; rfl) (by decide) rfl (fun ls hl => ?_)
        refine lv_goto (tgt := 45) hx hb dX0_init_57 (by decide) ?_
        refine ih σ2 v _ _ _ ?_ ?_ G (lv_sub hl [1, 0] rfl)
        · have h1 : ¬ k.toInt < 0 := fun h => c_1 (Int32.lt_iff_toInt_lt.mpr h)
          have h2 := Int32.toInt_lt k
          have h3 : v.toInt = k.toInt - 1 := by
            rw [ev, Int32.toInt_add, show (-1 : Int32).toInt = -1 from rfl, Int.bmod_eq_of_le (by omega) (by omega)]
            omega
          omega
        · rw [← hinv, ← e_2, ev]
          simp only [y_giL, c_1, ↓reduceIte]
  have loop1 : ∀ (n : Nat) (σ1 : Sx) (k : Int32) (H : Heap) (locs : List Loc) (ls : Array Slot), ((1072 : Int32).toInt - k.toInt).toNat < n → x_begin (y_giL 201 (x_sF (y_inL n σ1 k) (-1)) 199) 2147483647 = x_new → gG D vwCl [(cA, .int)] A s (xw h0 r0 cA σ1) H locs → lv_has ls 2 [(0, .ref h0), (1, .int k)] →
      W p l e ({ frames := 2, cells := 1, slots := 1080, locals := 43 }) s m [.ref h0].toArray below meth c H locs 1 1080 (MQ below (va_Qv (fun _ : Nat × ClassId => True) (fun u t => va_P D vwCl (xw h0 u.1 u.2 x_new) t.heap ∧ va_K D vwCl [(u.2, .int)] t ∧ va_D A (xw h0 u.1 u.2 x_new)) A) [.ref h0].toArray s 1 1080 A) (F0 m 17 ls []) := by
    intro n
    induction n with
    | zero => intro σ1 k H locs ls hm; exact absurd hm (Nat.not_lt_zero _)
    | succ n ih =>
      intro σ1 k H locs ls hm hinv G hl
      refine lv_iload_n hx hb dX0_init_17 rfl (lv_at hl 1 rfl) ?_
      refine lv_sipush (v := 1072) hx hb dX0_init_18 (by decide) ?_
      refine lv_icmp_ge (tgt := 36) hx hb dX0_init_21 (by decide) (fun c_1 => ?_) (fun c_1 => ?_)
      · refine lv_aload_n hx hb dX0_init_36 rfl (lv_at hl 0 rfl) ?_
        refine lv_iconst (v := (-1)) hx hb dX0_init_37 (by decide) ?_
        refine g_put (C := RX0) (T := TX0) (N := 6) (ci := 0) (v := .int (-1)) (ty := .int) hx hb hts hin tyX0 tyX0_ok nmX0 hown G 0 rfl rfl 3 (by decide) (hts (.fieldLink RX0 21 "SkewMelds" "firstUnused" "I") (by decide +kernel)) rfl rfl (by decide +kernel) rfl rfl (Nat.le_of_ble_eq_true rfl) (xw h0 r0 cA (x_sF σ1 (-1))) rfl dX0_init_38 (fun H locs G => ?_)
        refine lv_sipush (v := 199) hx hb dX0_init_41 (by decide) ?_
        refine lv_istore_n (lv' := [(1, .int 199), (0, .ref h0)]) hx hb dX0_init_44 rfl hl (by decide) rfl (fun ls hl => ?_)
        refine loop2 201 (x_sF σ1 (-1)) 199 _ _ _ (by decide) ?_ G (lv_sub hl [1, 0] rfl)
        rw [← hinv]
        simp only [y_inL, c_1, ↓reduceIte]
      · refine lv_aload_n hx hb dX0_init_24 rfl (lv_at hl 0 rfl) ?_
        refine lv_iload_n hx hb dX0_init_25 rfl (lv_at hl 1 rfl) ?_
        refine lv_iconst (v := (-1)) hx hb dX0_init_26 (by decide) ?_
        refine x_callv (As := [.int k, .int (-1)]) (rest := []) ⟨hx, hb, hml, hown, hts⟩ (kX0_write l D h0 r0 cA σ1 k (-1)) (cwV 2 hts gX0_init_X0_write rfl rfl rfl (by decide +kernel) ⟨Nat.le_of_ble_eq_true rfl, Nat.le_of_ble_eq_true rfl⟩) G rfl hl.1 rfl (Nat.le_of_ble_eq_true rfl) dX0_init_27 ⟨Nat.le_of_ble_eq_true rfl, Nat.le_of_ble_eq_true rfl⟩ (fun σ2 H locs e_2 G => ?_)
        obtain ⟨v, ev⟩ : ∃ y : Int32, y = k + 1 := ⟨_, rfl⟩
        refine lv_iinc (v := v) (lv' := [(1, .int v), (0, .ref h0)]) hx hb dX0_init_30 hl (k := 1) rfl (by rw [ev]; rfl) (by decide) rfl (fun ls hl => ?_)
        refine lv_goto (tgt := 17) hx hb dX0_init_33 (by decide) ?_
        refine ih σ2 v _ _ _ ?_ ?_ G (lv_sub hl [1, 0] rfl)
        · rw [ev]
          exact Nat.lt_of_lt_of_le (x_meas c_1) (Nat.le_of_lt_succ hm)
        · rw [← hinv, ← e_2, ev]
          simp only [y_inL, c_1, ↓reduceIte]
  refine lv_sipush (v := 1000) hx hb dX0_init_13 (by decide) ?_
  refine lv_istore_n (lv' := [(1, .int 1000), (0, .ref h0)]) hx hb dX0_init_16 rfl hl (by decide) rfl (fun ls hl => ?_)
  exact loop1 73 _ 1000 _ _ _ (by decide) rfl G (lv_sub hl [1, 0] rfl)
