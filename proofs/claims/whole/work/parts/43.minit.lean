/-! SkewMeldsModel(): three rows of 200 -/
abbrev m_new : Sm := (0, 0, fun _ => 0, fun _ => 0, fun _ => 0)
set_option maxHeartbeats 4000000 in
set_option maxRecDepth 100000 in
theorem kX1_init (l : Launch) (D : va_G) (m0 sz : Nat) : Met l yX1_init wsX1_init ({ frames := 1, cells := 3, slots := 600, locals := 12 })
    (va_Pc [.ref m0] (gP D vwCl [] sz [(m0, .inr (1, [.int 0, .int 0, .null, .null, .null]))]))
    (va_Qv (fun _ : (Nat × Nat × Nat) × (ClassId × ClassId) => True) (fun u t => va_P D vwCl (mw m0 u.1.1 u.1.2.1 u.1.2.2 u.2.1 u.2.2 m_new) t.heap ∧ va_K D vwCl [(u.2.1, .int), (u.2.2, .boolean)] t ∧ va_D (va_A [(m0, .inr (1, [.int 0, .int 0, .null, .null, .null]))] sz) (mw m0 u.1.1 u.1.2.1 u.1.2.2 u.2.1 u.2.2 m_new)) (va_A [(m0, .inr (1, [.int 0, .int 0, .null, .null, .null]))] sz)) 3 600 (va_A [(m0, .inr (1, [.int 0, .int 0, .null, .null, .null]))] sz) := by
  refine Met.ofW (cc := cX1_init) (maxL := 1) (ret := none) (by decide) rfl ?_
  intro p e s m args below meth c s₁ B hml hv
  obtain ⟨rfl, hsz, hP, hK, hD0⟩ := hv
  have hx := B.exec
  have hb := B.bytes
  have hr := B.returns
  have hts := atoms_spec (ws := wsX1_init) B.pre
  have hown : s.vm.findClass RX1 = some m.cls := findClass_of_methodNamed B.named
  have hlocks := B.notSynchronized
  have hnm : meth.name = "<init>" := (name_of_methodNamed B.named B.method).1
  have hin : ∀ w ∈ wsX10, w ∈ wsX1_init := fun w h => List.mem_cons_of_mem _ (List.mem_append_right _ h)
  subst hsz
  have hD := hD0.self (sz := s.heap.size)
  generalize hAe : va_A [(m0, .inr (1, [.int 0, .int 0, .null, .null, .null]))] s.heap.size = A at hD ⊢
  have hA : ∀ q : Nat, s.heap.size ≤ q → A q := fun q h => by rw [← hAe]; exact Or.inr h
  have hS : va_S A s.heap s.heap [] := va_S.rf
  have hl := lv_entry ([.ref m0]) (n := 1) (Nat.le_of_ble_eq_true rfl)
  rw [lg_entry_eq]
  generalize (lg_sl ([.ref m0]) ++ List.replicate (1 - (lg_sl ([.ref m0])).length) Slot.unset).toArray = ls at hl ⊢
  have hl : lv_has ls 1 [(0, .ref m0)] := hl
  refine lv_aload_n hx hb dX1_init_0 rfl (lv_at hl 0 rfl) ?_
  refine W.objInit hx hb hown (hts (.methodLink RX1 1 objectInit) (by decide +kernel)) (hts (.instanceMethod objectInit) (by decide +kernel)) (hts _ (List.mem_cons_of_mem _ (List.mem_append_left _ (List.mem_of_getElem? (i := 2) rfl)))) rfl (by rw [hml]; exact hl.1) rfl dX1_init_1 (Nat.le_of_ble_eq_true rfl) (Nat.le_of_ble_eq_true rfl) ?_
  refine W.eq (g2 := F0 m 4 ls []) rfl ?_
  refine lv_aload_n hx hb dX1_init_4 rfl (lv_at hl 0 rfl) ?_
  refine lv_sipush (v := 200) hx hb dX1_init_5 (by decide) ?_
  refine va_newa (atype := .int) (ty := .int) (N' := 200) (a0 := (200, .inl (fun _ => 0))) hx hb (hts (.arrayClass .int) (by decide +kernel)) rfl hK hP hD hS hA (fun _ => rfl) (by decide) (by decide) (by decide) (Nat.le_of_ble_eq_true rfl) (Nat.le_of_ble_eq_true rfl) dX1_init_8 (fun o0 cI H hK hP hD hS => ?_)
  have hP : va_P D vwCl [(m0, .inr (1, [.int 0, .int 0, .null, .null, .null])), (o0, .inl (cI, 200, .inl (fun _ => 0)))] H := hP
  have hD : va_D A [(m0, .inr (1, [.int 0, .int 0, .null, .null, .null])), (o0, .inl (cI, 200, .inl (fun _ => 0)))] := hD
  have hK : va_K D vwCl [(cI, .int)] s := hK
  refine va_putF (D := D) (ci := 1) (v := .ref o0) (ty := .array .int) (C := RX1) (T := TX1) (N := 5) hx hb hts hin tyX1 tyX1_ok nmX1 hown hK hP hD hS 0 rfl rfl 2 (by decide) (hts (.fieldLink RX1 7 "SkewMeldsModel" "owners" "[I") (by decide +kernel)) (fun _ h9 => h9) rfl hnm rfl (by decide +kernel) rfl rfl (Nat.le_of_ble_eq_true rfl) dX1_init_10 (fun H locs hP hD hS => ?_)
  have hP : va_P D vwCl [(m0, .inr (1, [.int 0, .int 0, .ref o0, .null, .null])), (o0, .inl (cI, 200, .inl (fun _ => 0)))] H := hP
  have hD : va_D A [(m0, .inr (1, [.int 0, .int 0, .ref o0, .null, .null])), (o0, .inl (cI, 200, .inl (fun _ => 0)))] := hD
  refine lv_aload_n hx hb dX1_init_13 rfl (lv_at hl 0 rfl) ?_
  refine lv_sipush (v := 200) hx hb dX1_init_14 (by decide) ?_
  refine va_newa (atype := .int) (ty := .int) (N' := 200) (a0 := (200, .inl (fun _ => 0))) hx hb (hts (.arrayClass .int) (by decide +kernel)) rfl hK hP hD hS hA (fun _ => rfl) (by decide) (by decide) (by decide) (Nat.le_of_ble_eq_true rfl) (Nat.le_of_ble_eq_true rfl) dX1_init_17 (fun k0 cI2 H hK hP hD hS => ?_)
  have hK : va_K D vwCl [(cI, .int), (cI2, .int)] s := hK
  have ecI : cI2 = cI := by
    have h1 : s.vm.findClass ("[" ++ FieldType.int.toString) = some cI := (hK.2 0 _ rfl).2
    have h2 : s.vm.findClass ("[" ++ FieldType.int.toString) = some cI2 := (hK.2 1 _ rfl).2
    exact Option.some.inj (h2.symm.trans h1)
  subst ecI
  have hP : va_P D vwCl [(m0, .inr (1, [.int 0, .int 0, .ref o0, .null, .null])), (o0, .inl (cI2, 200, .inl (fun _ => 0))), (k0, .inl (cI2, 200, .inl (fun _ => 0)))] H := hP
  have hD : va_D A [(m0, .inr (1, [.int 0, .int 0, .ref o0, .null, .null])), (o0, .inl (cI2, 200, .inl (fun _ => 0))), (k0, .inl (cI2, 200, .inl (fun _ => 0)))] := hD
  have hK : va_K D vwCl [(cI2, .int)] s := hK.sub [0] rfl
  refine va_putF (D := D) (ci := 1) (v := .ref k0) (ty := .array .int) (C := RX1) (T := TX1) (N := 5) hx hb hts hin tyX1 tyX1_ok nmX1 hown hK hP hD hS 0 rfl rfl 3 (by decide) (hts (.fieldLink RX1 13 "SkewMeldsModel" "keys" "[I") (by decide +kernel)) (fun _ h9 => h9) rfl hnm rfl (by decide +kernel) rfl rfl (Nat.le_of_ble_eq_true rfl) dX1_init_19 (fun H locs hP hD hS => ?_)
  have hP : va_P D vwCl [(m0, .inr (1, [.int 0, .int 0, .ref o0, .ref k0, .null])), (o0, .inl (cI2, 200, .inl (fun _ => 0))), (k0, .inl (cI2, 200, .inl (fun _ => 0)))] H := hP
  have hD : va_D A [(m0, .inr (1, [.int 0, .int 0, .ref o0, .ref k0, .null])), (o0, .inl (cI2, 200, .inl (fun _ => 0))), (k0, .inl (cI2, 200, .inl (fun _ => 0)))] := hD
  refine lv_aload_n hx hb dX1_init_22 rfl (lv_at hl 0 rfl) ?_
  refine lv_sipush (v := 200) hx hb dX1_init_23 (by decide) ?_
  refine va_newa (atype := .boolean) (ty := .boolean) (N' := 200) (a0 := (200, .inl (fun _ => 0))) hx hb (hts (.arrayClass .boolean) (by decide +kernel)) rfl hK hP hD hS hA (fun _ => rfl) (by decide) (by decide) (by decide) (Nat.le_of_ble_eq_true rfl) (Nat.le_of_ble_eq_true rfl) dX1_init_26 (fun t0 cZ H hK hP hD hS => ?_)
  have hK : va_K D vwCl [(cI2, .int), (cZ, .boolean)] s := hK
  have hP : va_P D vwCl [(m0, .inr (1, [.int 0, .int 0, .ref o0, .ref k0, .null])), (o0, .inl (cI2, 200, .inl (fun _ => 0))), (k0, .inl (cI2, 200, .inl (fun _ => 0))), (t0, .inl (cZ, 200, .inl (fun _ => 0)))] H := hP
  have hD : va_D A [(m0, .inr (1, [.int 0, .int 0, .ref o0, .ref k0, .null])), (o0, .inl (cI2, 200, .inl (fun _ => 0))), (k0, .inl (cI2, 200, .inl (fun _ => 0))), (t0, .inl (cZ, 200, .inl (fun _ => 0)))] := hD
  refine W.widen (k := 3) (n := 600) (by omega) (by omega) ?_
  refine va_putF (D := D) (ci := 1) (v := .ref t0) (ty := .array .boolean) (C := RX1) (T := TX1) (N := 5) hx hb hts hin tyX1 tyX1_ok nmX1 hown hK hP hD hS 0 rfl rfl 4 (by decide) (hts (.fieldLink RX1 16 "SkewMeldsModel" "told" "[Z") (by decide +kernel)) (fun _ h9 => h9) rfl hnm rfl (by decide +kernel) rfl rfl (Nat.le_of_ble_eq_true rfl) dX1_init_28 (fun H locs hP hD hS => ?_)
  have hP : va_P D vwCl (mw m0 o0 k0 t0 cI2 cZ m_new) H := hP
  have hD : va_D A (mw m0 o0 k0 t0 cI2 cZ m_new) := hD
  exact W.vret hx hb hr (fun t ht hW => ⟨⟨((o0, k0, t0), (cI2, cZ)), rfl, trivial, by rw [ht]; exact hP, va_K.moved hW.alike hK, hD⟩, hS.F ht⟩) hS.2.2 dX1_init_31
