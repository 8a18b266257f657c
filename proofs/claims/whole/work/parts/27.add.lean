/-! add, least, take -/
def kup (K : Nat → List Int32) (j : Nat) (l : List Int32) : Nat → List Int32 := fun h => if h = j then l else K h
theorem kup_s {K : Nat → List Int32} {j : Nat} {l : List Int32} : kup K j l j = l := by simp [kup]
theorem kup_n {K : Nat → List Int32} {j h : Nat} {l : List Int32} (hn : h ≠ j) : kup K j l h = K h := by simp [kup, hn]
theorem op_add_no {σ : Sx} {nh u : Nat} {K : Nat → List Int32} {a key : Int32} (h : XI σ nh u K) (ha : a < 0 ∨ nI nh ≤ a) : (x_add σ a key).1 = -1 ∧ XI (x_add σ a key).2 nh u K ∧ XF (x_add σ a key).2 := by
  obtain ⟨h8, -, hH⟩ := XI_nh h
  unfold x_add
  have e : x_ex (x_begin σ 100) a = 0 := ex_no (nh := nh) hH ha
  simp only [e, if_true]
  refine ⟨trivial, XI_begin h _, ?_⟩
  show ¬ (100 : Int32) < 0
  decide
theorem op_add_full {σ : Sx} {nh u j : Nat} {K : Nat → List Int32} {key : Int32} (h : XI σ nh u K) (hj : j < nh) (hu : u = 200) : (x_add σ (nI j) key).1 = -2 ∧ XI (x_add σ (nI j) key).2 nh u K ∧ XF (x_add σ (nI j) key).2 := by
  obtain ⟨h8, -, hH⟩ := XI_nh h
  unfold x_add
  have e : x_ex (x_begin σ 100) (nI j) = 1 := ex_yes (nh := nh) hH h8 hj
  have e2 : (x_begin σ 100).2.2.2.1 = -1 := by
    obtain ⟨TT, fl, a1, a2, a3, a4, -⟩ := h
    have : fl = [] := List.length_eq_zero_iff.mp (by omega)
    subst this
    exact a2
  simp only [e, e2]
  rw [if_neg (by decide), if_pos trivial]
  refine ⟨rfl, XI_begin h _, ?_⟩
  show ¬ (100 : Int32) < 0
  decide
theorem op_add {σ : Sx} {nh u j : Nat} {K : Nat → List Int32} {key : Int32} (h : XI σ nh u K) (hj : j < nh) (hu : u < 200) : (x_add σ (nI j) key).1 = nI ((K j).length + 1) ∧ XI (x_add σ (nI j) key).2 nh (u + 1) (kup K j (key :: K j)) ∧ XF (x_add σ (nI j) key).2 := by
  obtain ⟨h8, -, hH⟩ := XI_nh h
  obtain ⟨hl200, hsz⟩ := XI_len h (show j < 8 by omega)
  obtain ⟨TT, fl, a1, a2, a3, a4, a5, a6, a7, a8, a9, a10⟩ := h
  unfold x_add
  have e : x_ex (x_begin σ 100) (nI j) = 1 := ex_yes (nh := nh) hH h8 hj
  cases fl with
  | nil => simp at a4; omega
  | cons c fl =>
    have hc0 : c < 200 := a1.2.2.2.2 c List.mem_cons_self
    have e2 : (x_begin σ 100).2.2.2.1 = nI c := a2.1
    simp only [e, e2]
    rw [if_neg (by decide), if_neg (nI_ne_m1 (by omega)), newCell_RS hc0 e2]
    simp only
    have hf : (x_begin σ 100).1 = σ.1 := rfl
    rw [hf]
    -- the new cell is a tree of one
    have hnd := a1.2.2.1
    have hcz : c ∉ fl ∧ c ∉ tcs TT := by
      simp only [List.flatMap_nil, List.nil_append, List.cons_append, List.nodup_cons, List.mem_append, not_or] at hnd
      exact hnd.1
    have ag : ∀ Z : List Nat, c ∉ Z → (∀ x ∈ Z, x < 200) → agr Z σ.1 (upd (upd (upd σ.1 c key) (200 + c) 0) (400 + c) (-1)) := fun Z hZ hZ2 x hx => by
      have h1 := hZ2 x hx
      have h2 : x ≠ c := fun q => hZ (q ▸ hx)
      refine ⟨?_, ?_, ?_, ?_⟩ <;> rw [pk_un (by omega), pk_un (by omega), pk_un (by omega)]
    have htk : tok (upd (upd (upd σ.1 c key) (200 + c) 0) (400 + c) (-1)) (0, c, .nil) := by
      refine ⟨hc0, ?_, by simp [flen], by simp [fcells], ?_⟩
      · show upd _ _ _ (200 + c) = _
        rw [pk_un (by omega), pk_us, nI_0]
      · show fok _ .nil (upd (upd (upd σ.1 c key) (200 + c) 0) (400 + c) (-1) (400 + c)) _
        rw [pk_us]
        simp [fok]
    have hlt := PI_lt a1
    simp only [List.flatMap_nil, List.nil_append] at hlt
    have hflt : ∀ x ∈ fl, x < 200 := fun x hx => a1.2.2.2.2 x (List.mem_cons_of_mem _ hx)
    have hP1 : PI (upd (upd (upd σ.1 c key) (200 + c) 0) (400 + c) (-1)) TT [(0, c, .nil)] fl := by
      have hN : NL (fl ++ (([(0, c, .nil)] : List Tr).flatMap tc ++ tcs TT)) := by
        refine NL_perm ?_ (PI_NL a1)
        refine List.perm_iff_count.mpr fun x => ?_
        simp only [List.flatMap_cons, List.flatMap_nil, tc, fcells, List.count_append, List.count_cons, List.count_nil]
        omega
      refine ⟨fun i hi => ?_, fun t ht => by rw [List.mem_singleton.mp ht]; exact htk, hN.1, hN.2, hflt⟩
      have h1 := a1.1 i hi
      cases h2 : TT i with
      | none => rw [h2] at h1; show upd _ _ _ (1000 + i) = _; rw [pk_un (by omega), pk_un (by omega), pk_un (by omega)]; exact h1
      | some t =>
        rw [h2] at h1
        have hm := tcs_mem hi h2
        refine ⟨by rw [pk_un (by omega), pk_un (by omega), pk_un (by omega)]; exact h1.1, tok_agr (ag _ (fun q => hcz.2 (hm c q)) (tok_lt h1.2.1)) h1.2.1, h1.2.2⟩
    obtain ⟨g, n', TT', b1, b2, b3, b4, b5, b6, b7, b8, b9, b10⟩ := insert_RS (σ := x_sU (x_sF (x_begin σ 100) (σ.1 (600 + c))) ((x_begin σ 100).2.2.1 - 1)) (n := 4) (show j < 8 by omega) hP1 (a7 j (by omega))
    rw [b1, ad_sz, RS_read (by omega)]
    simp only
    have esz : g (1072 + j) = nI (K j).length := by rw [b10 _ (by omega), pk_un (by omega), pk_un (by omega), pk_un (by omega)]; exact hsz
    rw [esz, nI_1, resize_RS (by omega)]
    obtain ⟨hP2, hag2⟩ := PI_size (k := 1072 + j) (v := nI ((K j).length + 1)) b3 (by omega)
    have hkeys : ∀ Z : List Nat, (∀ x ∈ Z, x < 200) → Z.map (upd g (1072 + j) (nI ((K j).length + 1))) = Z.map g := fun Z hZ => List.map_congr_left fun x hx => pk_un (by have := hZ x hx; omega)
    have hlt3 := PI_lt b3
    simp only [List.flatMap_nil, List.nil_append] at hlt3
    have h0c : ∀ x ∈ tcs TT, upd (upd (upd σ.1 c key) (200 + c) 0) (400 + c) (-1) x = σ.1 x := fun x hx => (ag (tcs TT) hcz.2 hlt x hx).1
    refine ⟨rfl, ⟨TT', fl, hP2, ?_, ?_, by simp at a4; omega, a5, a6, ?_, ?_, ?_, ?_⟩, ?_⟩
    · show flc (upd g (1072 + j) (nI ((K j).length + 1))) fl (σ.1 (600 + c))
      refine flc_agr _ _ (agr_tr (agr_tr (ag fl hcz.1 hflt) b4) hag2) a2.2
    · show σ.2.2.1 - 1 = _
      rw [a3, List.length_cons, nI_pred]
    · intro h hh
      by_cases hne : h = j
      · subst hne; exact b7
      · intro t ht
        rw [b8 _ (by omega) (by omega)] at ht
        obtain ⟨t1, ⟨t', t2⟩, t3⟩ := a7 h hh t ht
        exact ⟨t1, ⟨t', by rw [b8 _ (by omega) (by omega)]; exact t2⟩, fun r hr => by rw [b8 _ (by omega) (by omega)]; exact t3 r hr⟩
    · intro h hh
      show upd g (1072 + j) _ (1072 + h) = _
      by_cases hne : h = j
      · subst hne
        rw [pk_us, b5]
        have h1 := (a10 h hh).length_eq
        rw [List.length_map] at h1
        rw [← h1, Nat.add_comm]
      · rw [pk_un (by omega), b10 _ (by omega), pk_un (by omega), pk_un (by omega), pk_un (by omega), a8 h hh, hc_eq (TT' := TT') (TT := TT) hh (b8 _ (by omega) (by omega)) (fun r hr => b8 _ (by omega) (by omega))]
    · intro h hh hh2
      rw [kup_n (by omega)]
      exact a9 h hh hh2
    · intro h hh
      show ((hc TT' h).map (upd g (1072 + j) _)).Perm _
      rw [hkeys _ (fun x hx => hlt3 x (hc_tcs hh hx))]
      by_cases hne : h = j
      · subst hne
        rw [kup_s]
        refine b6.trans ?_
        have e9 : upd (upd (upd σ.1 c key) (200 + c) 0) (400 + c) (-1) c = key := by rw [pk_un (by omega), pk_un (by omega), pk_us]
        rw [e9, List.map_congr_left (fun x hx => h0c x (hc_tcs hh hx))]
        exact (a10 h hh).cons _
      · have e9 : hc TT' h = hc TT h := hc_eq hh (b8 _ (by omega) (by omega)) (fun r hr => b8 _ (by omega) (by omega))
        rw [kup_n hne, e9, List.map_congr_left (fun x hx => (b9 h hh hne x hx).trans (h0c x (hc_tcs hh hx)))]
        exact a10 h hh
    · exact XF_of (L := 100) rfl rfl (by omega) (by omega)
/-- a call's begin, of a heap that is there -/
theorem beginOn_RS {σ : Sx} {nh u j : Nat} {K : Nat → List Int32} (h : XI σ nh u K) (hj : j < nh) : ∃ L, x_beginOn σ (nI j) = RS (x_sL (x_sS σ 0) (nI (200 * (2 + L)))) σ.1 1 ∧ L ≤ 30 ∧ ∀ r, r ≤ 30 → 2 ^ r ≤ (K j).length + 1 → r ≤ L := by
  obtain ⟨h8, -, hH⟩ := XI_nh h
  obtain ⟨hl200, hsz⟩ := XI_len h (show j < 8 by omega)
  obtain ⟨L, e, h1, h2⟩ := lim_ge (k := (K j).length) (by omega)
  refine ⟨L, ?_, h1, h2⟩
  have e1 : x_keysIn (x_sS σ 0) (nI j) = (nI (K j).length, RS (x_sS σ 0) σ.1 1) := by
    unfold x_keysIn
    rw [ex_yes (σ := x_sS σ 0) (nh := nh) hH h8 hj, if_neg (by decide), ad_sz, R0_read (by omega)]
    show (σ.1 (1072 + j), RS (x_sS σ 0) σ.1 1) = _
    rw [hsz]
  unfold x_beginOn
  rw [e1, e]
  rfl
theorem beginOn_no {σ : Sx} {nh u : Nat} {K : Nat → List Int32} {a : Int32} (h : XI σ nh u K) (ha : a < 0 ∨ nI nh ≤ a) : XI (x_beginOn σ a) nh u K ∧ XF (x_beginOn σ a) ∧ (x_beginOn σ a).2.1 = nI nh := by
  obtain ⟨h8, -, hH⟩ := XI_nh h
  obtain ⟨L, e, h1, h2⟩ := lim_ge (k := 0) (by omega)
  have e1 : x_keysIn (x_sS σ 0) a = (0, x_sS σ 0) := by
    unfold x_keysIn
    rw [ex_no (σ := x_sS σ 0) (nh := nh) hH ha, if_pos rfl]
  unfold x_beginOn
  rw [e1]
  refine ⟨XI_eq h rfl rfl rfl rfl, ?_, hH⟩
  show ¬ x_limFor 0 < 0
  rw [← nI_0, e]
  exact nI_pos (by omega)
theorem op_least_no {σ : Sx} {nh u : Nat} {K : Nat → List Int32} {a : Int32} (h : XI σ nh u K) (ha : a < 0 ∨ nI nh ≤ a) : ((x_least σ a).1 = -9223372036854775808 ∧ XI (x_least σ a).2 nh u K ∧ XF (x_least σ a).2) ∧ ((x_take σ a).1 = -9223372036854775808 ∧ XI (x_take σ a).2 nh u K ∧ XF (x_take σ a).2) := by
  obtain ⟨h1, h2, h3⟩ := beginOn_no h ha
  have e : x_leastRoot (x_beginOn σ a) a = (-1, x_beginOn σ a) := by
    unfold x_leastRoot
    rw [ex_no h3 ha, if_pos rfl]
  unfold x_least x_take
  simp only [e, if_true]
  exact ⟨⟨trivial, h1, h2⟩, trivial, h1, h2⟩
theorem op_least_nil {σ : Sx} {nh u j : Nat} {K : Nat → List Int32} (h : XI σ nh u K) (hj : j < nh) (hk : K j = []) : ((x_least σ (nI j)).1 = -9223372036854775808 ∧ XI (x_least σ (nI j)).2 nh u K ∧ XF (x_least σ (nI j)).2) ∧ ((x_take σ (nI j)).1 = -9223372036854775808 ∧ XI (x_take σ (nI j)).2 nh u K ∧ XF (x_take σ (nI j)).2) := by
  obtain ⟨h8, -, hH⟩ := XI_nh h
  obtain ⟨L, eb, hL, -⟩ := beginOn_RS h hj
  obtain ⟨TT, fl, a1, a2, a3, a4, a5, a6, a7, a8, a9, a10⟩ := id h
  obtain ⟨b, n', e, hn, hb⟩ := leastRoot_RS (σ := x_sL (x_sS σ 0) (nI (200 * (2 + L)))) (n := 1) hj h8 hH a1
  have hb1 : b = -1 := by
    rcases hb with hb | ⟨i, t, hi, ht, -, -⟩
    · exact hb.1
    · exfalso
      have hm : t.2.1 ∈ hc TT j := hc_in (by omega) hi ht List.mem_cons_self
      have := (a10 j (by omega)).length_eq
      rw [hk, List.length_map, List.length_nil] at this
      rw [List.length_eq_zero_iff.mp this] at hm
      simp at hm
  subst hb1
  have h1 : XI (RS (x_sL (x_sS σ 0) (nI (200 * (2 + L)))) σ.1 n') nh u K := XI_eq h rfl rfl rfl rfl
  have h2 : XF (RS (x_sL (x_sS σ 0) (nI (200 * (2 + L)))) σ.1 n') := XF_of (L := 200 * (2 + L)) rfl rfl (by omega) (by omega)
  unfold x_least x_take
  simp only [eb, e, if_true]
  exact ⟨⟨trivial, h1, h2⟩, trivial, h1, h2⟩
theorem op_least {σ : Sx} {nh u j : Nat} {K : Nat → List Int32} (h : XI σ nh u K) (hj : j < nh) (hk : K j ≠ []) : ∃ v, v ∈ K j ∧ (∀ x ∈ K j, v ≤ x) ∧ (x_least σ (nI j)).1 = v.toInt64 ∧ XI (x_least σ (nI j)).2 nh u K ∧ XF (x_least σ (nI j)).2 := by
  obtain ⟨h8, -, hH⟩ := XI_nh h
  obtain ⟨L, eb, hL, -⟩ := beginOn_RS h hj
  obtain ⟨TT, fl, a1, a2, a3, a4, a5, a6, a7, a8, a9, a10⟩ := id h
  obtain ⟨b, n', e, hn, hb⟩ := leastRoot_RS (σ := x_sL (x_sS σ 0) (nI (200 * (2 + L)))) (n := 1) hj h8 hH a1
  have hp := a10 j (by omega)
  rcases hb with ⟨-, hb⟩ | ⟨i, t, hi, ht, rfl, hb⟩
  · exfalso
    rw [lr_none (f := σ.1) (show j < 8 by omega) hb] at hp
    exact hk (List.nil_perm.mp hp)
  · have hi72 : i < 72 := by omega
    have htk := (PI_some a1 hi72 ht).2.1
    have hlt := htk.1
    have hmin := lr_min (show j < 8 by omega) a1 hb
    have hm : t.2.1 ∈ hc TT j := hc_in (by omega) hi ht List.mem_cons_self
    refine ⟨σ.1 t.2.1, hp.mem_iff.mp (List.mem_map.mpr ⟨_, hm, rfl⟩), fun x hx => ?_, ?_⟩
    · obtain ⟨c, hc1, rfl⟩ := List.mem_map.mp (hp.mem_iff.mpr hx)
      exact hmin c hc1
    · unfold x_least
      simp only [eb, e]
      rw [if_neg (nI_ne_m1 (by omega)), ad_0, RS_read (by omega)]
      exact ⟨rfl, XI_eq h rfl rfl rfl rfl, XF_of (L := 200 * (2 + L)) rfl rfl (by omega) (by omega)⟩
