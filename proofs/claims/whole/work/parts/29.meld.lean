/-! meld, size, key, sum, free, few -/
theorem keysIn_any {σ s : Sx} {nh u n : Nat} {K : Nat → List Int32} (h : XI σ nh u K) (hs : s.2.1 = σ.2.1) (a : Int32) : ∃ k d, k ≤ 200 ∧ d ≤ 1 ∧ x_keysIn (RS s σ.1 n) a = (nI k, RS s σ.1 (n + d)) ∧ (∀ j, j < nh → a = nI j → k = (K j).length) ∧ ((a < 0 ∨ nI nh ≤ a) → k = 0) := by
  obtain ⟨h8, -, hH⟩ := XI_nh h
  rcases pk_ix a (n := nh) (by omega) with ha | ha | ⟨j, hj, rfl⟩
  · refine ⟨0, 0, by omega, by omega, ?_, fun j hj e => ?_, fun _ => rfl⟩
    · unfold x_keysIn
      rw [ex_no (σ := RS s σ.1 n) (nh := nh) (hs.trans hH) (Or.inl ha), if_pos rfl, nI_0]
      rfl
    · rw [e] at ha
      exact absurd ha (nI_pos (by omega))
  · refine ⟨0, 0, by omega, by omega, ?_, fun j hj e => ?_, fun _ => rfl⟩
    · unfold x_keysIn
      rw [ex_no (σ := RS s σ.1 n) (nh := nh) (hs.trans hH) (Or.inr ha), if_pos rfl, nI_0]
      rfl
    · rw [e] at ha
      exact absurd ha (nI_ge hj (by omega))
  · obtain ⟨hl200, hsz⟩ := XI_len h (show j < 8 by omega)
    refine ⟨(K j).length, 1, hl200, by omega, ?_, fun i hi e => ?_, fun hb => ?_⟩
    · unfold x_keysIn
      rw [ex_yes (σ := RS s σ.1 n) (nh := nh) (hs.trans hH) h8 hj, if_neg (by decide), ad_sz, RS_read (by omega), hsz]
    · rw [nI_inj (by omega) (by omega) e]
    · exfalso
      rcases hb with hb | hb
      · exact nI_pos (by omega) hb
      · exact nI_ge hj (by omega) hb
theorem beginBoth_RS {σ : Sx} {nh u : Nat} {K : Nat → List Int32} (h : XI σ nh u K) (a b : Int32) : ∃ L d, x_beginOnBoth σ a b = RS (x_sL (x_sS σ 0) (nI (200 * (2 + L)))) σ.1 d ∧ d ≤ 2 ∧ L ≤ 30 ∧ ∀ i j, i < nh → j < nh → a = nI i → b = nI j → ∀ r, r ≤ 30 → 2 ^ r ≤ (K i).length + (K j).length + 1 → r ≤ L := by
  obtain ⟨k1, d1, x1, x2, x3, x4, -⟩ := keysIn_any (s := x_sS σ 0) (n := 0) h rfl a
  obtain ⟨k2, d2, y1, y2, y3, y4, -⟩ := keysIn_any (s := x_sS σ 0) (n := 0 + d1) h rfl b
  obtain ⟨L, e, h1, h2⟩ := lim_ge (k := k1 + k2) (by omega)
  have e0 : RS (x_sS σ 0) σ.1 0 = x_sS σ 0 := RS_0 (x_sS σ 0)
  rw [e0] at x3
  refine ⟨L, 0 + d1 + d2, ?_, by omega, h1, fun i j hi hj ei ej r hr hp => h2 r hr (by rw [x4 i hi ei, y4 j hj ej]; exact hp)⟩
  unfold x_beginOnBoth
  rw [x3]
  simp only
  rw [y3]
  simp only
  rw [nI_add, e]
  rfl
theorem op_meld_no {σ : Sx} {nh u : Nat} {K : Nat → List Int32} {a b : Int32} (h : XI σ nh u K) (hab : (a < 0 ∨ nI nh ≤ a) ∨ (b < 0 ∨ nI nh ≤ b) ∨ a = b) : (x_meld σ a b).1 = -1 ∧ XI (x_meld σ a b).2 nh u K ∧ XF (x_meld σ a b).2 := by
  obtain ⟨h8, -, hH⟩ := XI_nh h
  obtain ⟨L, d, e, hd, hL, -⟩ := beginBoth_RS h a b
  have hX : XI (x_beginOnBoth σ a b) nh u K := by rw [e]; exact XI_eq h rfl rfl rfl rfl
  have hF : XF (x_beginOnBoth σ a b) := by rw [e]; exact XF_of (L := 200 * (2 + L)) rfl rfl (by omega) (by omega)
  have hH2 : (x_beginOnBoth σ a b).2.1 = nI nh := by rw [e]; exact hH
  have key : x_meld σ a b = (-1, x_beginOnBoth σ a b) := by
    unfold x_meld
    simp only
    split
    · rfl
    · split
      · rfl
      · rename_i h1 h2
        rcases hab with ha | hb | hab
        · exact absurd (ex_no hH2 ha) h1
        · exact absurd (ex_no hH2 hb) h2
        · rw [if_pos hab]
  rw [key]
  exact ⟨rfl, hX, hF⟩
theorem op_meld {σ : Sx} {nh u i j : Nat} {K : Nat → List Int32} (h : XI σ nh u K) (hi : i < nh) (hj : j < nh) (hij : i ≠ j) : (x_meld σ (nI i) (nI j)).1 = nI ((K i).length + (K j).length) ∧ XI (x_meld σ (nI i) (nI j)).2 nh u (kup (kup K i (K i ++ K j)) j []) ∧ XF (x_meld σ (nI i) (nI j)).2 := by
  obtain ⟨h8, -, hH⟩ := XI_nh h
  obtain ⟨hl1, hsz1⟩ := XI_len h (show i < 8 by omega)
  obtain ⟨hl2, hsz2⟩ := XI_len h (show j < 8 by omega)
  obtain ⟨L, d, e, hd, hL, hLr⟩ := beginBoth_RS h (nI i) (nI j)
  have hLr := hLr i j hi hj rfl rfl
  obtain ⟨TT, fl, a1, a2, a3, a4, a5, a6, a7, a8, a9, a10⟩ := id h
  have hi8 : i < 8 := by omega
  have hj8 : j < 8 := by omega
  obtain ⟨s0, es0⟩ : ∃ s0, s0 = x_sL (x_sS σ 0) (nI (200 * (2 + L))) := ⟨_, rfl⟩
  rw [← es0] at e
  have eh : s0.2.1 = nI nh := by rw [es0]; exact hH
  have hne : ¬ nI i = nI j := fun q => hij (nI_inj (by omega) (by omega) q)
  unfold x_meld
  simp only
  rw [e, ex_yes (σ := RS s0 σ.1 d) (nh := nh) eh h8 hi, ex_yes (σ := RS s0 σ.1 d) (nh := nh) eh h8 hj, if_neg (by decide), if_neg (by decide), if_neg hne, x_cutTwin_RS hi8]
  simp only
  obtain ⟨g1, n1, T1, b1, b2, b3, b4, b5, b6, b7, b8, b9⟩ := mv_RS (σ := s0) (n := d) hi8 (show 64 + i < 72 by omega) a1
  rw [b1, x_cutTwin_RS hj8]
  simp only
  obtain ⟨g2, n2, T2, c1, c2, c3, c4, c5, c6, c7, c8, c9⟩ := mv_RS (σ := s0) (n := n1) hi8 (show 64 + j < 72 by omega) b4
  rw [c1]
  have hT2j : T2 (64 + j) = none := by rw [c7 _ (by omega)]; exact up_s
  obtain ⟨g3, n3, T3, d1, d2, d3, d4, d5, d6, d7, d8, d9, d10, d11⟩ := me_L (σ := s0) hi8 hj8 hij 8 0 g2 n2 T2 (by omega) c4 hT2j (fun r hr => by omega)
  rw [show y_meL (nI i) (nI j) 9 (RS s0 g2 n2) 0 = RS s0 g3 n3 by rw [← nI_0, meL_eq (nI i) (nI j) 8 0 _ (by omega)]; exact d1]
  unfold x_meldT
  rw [ad_sz, RS_read (by omega)]
  simp only
  have z2 : g3 (1072 + j) = nI (K j).length := by rw [d11 _ (by omega), c9 _ (by omega), b9 _ (by omega)]; exact hsz2
  have z1 : g3 (1072 + i) = nI (K i).length := by rw [d11 _ (by omega), c9 _ (by omega), b9 _ (by omega)]; exact hsz1
  rw [z2, resize_RS hj8]
  simp only
  rw [ad_sz, RS_read (by omega), pk_un (by omega), z1]
  simp only
  rw [nI_add, resize_RS hi8]
  -- the cells
  have p1 := hc_twin (TT := TT) (o := none) hi8
  have u1 : hc (up TT (64 + i) none) j = hc TT j := hc_eq hj8 (up_n (by omega)) (fun r hr => up_n (by omega))
  have v1 : hc T1 j = hc TT j := (hc_eq hj8 (b7 _ (by omega)) (fun r hr => b7 _ (by omega))).trans u1
  have p2 := hc_twin (TT := T1) (o := none) hj8
  have u2 : hc (up T1 (64 + j) none) i = hc T1 i := hc_eq hi8 (up_n (by omega)) (fun r hr => up_n (by omega))
  have v2 : hc T2 j = hc (up T1 (64 + j) none) j := hc_eq hj8 (c7 _ (by omega)) (fun r hr => c7 _ (by omega))
  have e0 : oc (none : Option Tr) = [] := rfl
  rw [e0] at p1 p2
  rw [u2] at c6
  rw [← v2, v1] at p2
  have hperm : (hc T3 i).Perm (hc TT i ++ hc TT j) := by
    refine List.perm_iff_count.mpr fun x => ?_
    have q1 := p1.count_eq x
    have q2 := p2.count_eq x
    have q3 := b6.count_eq x
    have q4 := c6.count_eq x
    have q5 := d6.count_eq x
    simp only [List.count_append, List.nil_append] at q1 q2 q3 q4 q5 ⊢
    omega
  have k1 : (hc TT i).length = (K i).length := by have := (a10 i hi8).length_eq; rw [List.length_map] at this; exact this
  have k2 : (hc TT j).length = (K j).length := by have := (a10 j hj8).length_eq; rw [List.length_map] at this; exact this
  have l1 := p1.length_eq
  have l2 := p2.length_eq
  simp only [List.length_append, List.nil_append] at l1 l2
  have htt : ∀ k, k ≠ 64 + i → k ≠ 64 + j → (k < 8 * i ∨ 8 * i + 8 ≤ k) → (k < 8 * j ∨ 8 * j + 8 ≤ k) → T3 k = TT k := fun k q1 q2 q3 q4 => by
    rw [d9 k q3 q4, c7 k q3, up_n q2, b7 k q3, up_n q1]
  have htwi : T3 (64 + i) = none := by rw [d9 _ (by omega) (by omega), c7 _ (by omega), up_n (by omega), b7 _ (by omega)]; exact up_s
  obtain ⟨hP4, hag4⟩ := PI_size (k := 1072 + j) (v := 0) d4 (by omega)
  obtain ⟨hP5, hag5⟩ := PI_size (k := 1072 + i) (v := nI ((K i).length + (K j).length)) hP4 (by omega)
  have hlt3 := PI_lt d4
  simp only [List.flatMap_nil, List.nil_append] at hlt3
  have hkeys : ∀ x, x < 200 → upd (upd g3 (1072 + j) 0) (1072 + i) (nI ((K i).length + (K j).length)) x = σ.1 x := fun x hx => by
    rw [pk_un (by omega), pk_un (by omega), d10 x hx, c8 x hx, b8 x hx]
  refine ⟨rfl, ⟨T3, fl, hP5, ?_, ?_, a4, ?_, a6, ?_, ?_, ?_, ?_⟩, ?_⟩
  · show flc (upd (upd g3 (1072 + j) 0) (1072 + i) (nI ((K i).length + (K j).length))) fl s0.2.2.2.1
    have : s0.2.2.2.1 = σ.2.2.2.1 := by rw [es0]; rfl
    rw [this]
    exact flc_agr _ _ (agr_tr (agr_tr (agr_tr (agr_tr b5 c5) d5) hag4) hag5) a2
  · show s0.2.2.1 = _
    rw [es0]
    exact a3
  · show s0.2.1 = _
    rw [eh]
  · intro h' hh'
    by_cases q1 : h' = i
    · subst q1
      intro t ht
      rw [htwi] at ht
      cases ht
    · by_cases q2 : h' = j
      · subst q2
        intro t ht
        rw [d8] at ht
        cases ht
      · intro t ht
        rw [htt _ (by omega) (by omega) (by omega) (by omega)] at ht
        obtain ⟨t1, ⟨t', t2⟩, t3⟩ := a7 h' hh' t ht
        exact ⟨t1, ⟨t', by rw [htt _ (by omega) (by omega) (by omega) (by omega)]; exact t2⟩, fun r hr => by rw [htt _ (by omega) (by omega) (by omega) (by omega)]; exact t3 r hr⟩
  · intro h' hh'
    show upd (upd g3 (1072 + j) 0) (1072 + i) _ (1072 + h') = _
    by_cases q1 : h' = i
    · subst q1
      rw [pk_us, hperm.length_eq, List.length_append, k1, k2]
    · rw [pk_un (by omega)]
      by_cases q2 : h' = j
      · subst q2
        rw [pk_us, d7, List.length_nil, nI_0]
      · rw [pk_un (by omega), d11 _ (by omega), c9 _ (by omega), b9 _ (by omega), a8 h' hh', hc_eq (TT' := T3) (TT := TT) hh' (htt _ (by omega) (by omega) (by omega) (by omega)) (fun r hr => htt _ (by omega) (by omega) (by omega) (by omega))]
  · intro h' hh' hh2
    rw [kup_n (by omega), kup_n (by omega)]
    exact a9 h' hh' hh2
  · intro h' hh'
    show ((hc T3 h').map (upd (upd g3 (1072 + j) 0) (1072 + i) _)).Perm _
    rw [List.map_congr_left (fun x hx => hkeys x (hlt3 x (hc_tcs hh' hx)))]
    by_cases q2 : h' = j
    · subst q2
      rw [kup_s, d7]
      exact List.Perm.refl _
    · rw [kup_n q2]
      by_cases q1 : h' = i
      · subst q1
        rw [kup_s]
        refine (hperm.map σ.1).trans ?_
        rw [List.map_append]
        exact (a10 h' hh').append (a10 j hj8)
      · rw [kup_n q1, hc_eq (TT' := T3) (TT := TT) hh' (htt _ (by omega) (by omega) (by omega) (by omega)) (fun r hr => htt _ (by omega) (by omega) (by omega) (by omega))]
        exact a10 h' hh'
  · refine XF_of (L := 200 * (2 + L)) (by rw [es0]; rfl) (by rw [es0]; rfl) (by omega) ?_
    have r1 := hLr 1 (by omega)
    have r2 := hLr 2 (by omega)
    by_cases q0 : (K i).length + (K j).length = 0
    · omega
    · by_cases q1 : (K i).length + (K j).length ≤ 2
      · have := r1 (by omega)
        omega
      · have := r2 (by omega)
        omega
theorem op_size {σ : Sx} {nh u : Nat} {K : Nat → List Int32} (h : XI σ nh u K) (a : Int32) : ((a < 0 ∨ nI nh ≤ a) → (x_size σ a).1 = -1) ∧ (∀ j, j < nh → a = nI j → (x_size σ a).1 = nI (K j).length) ∧ XI (x_size σ a).2 nh u K ∧ XF (x_size σ a).2 := by
  obtain ⟨h8, -, hH⟩ := XI_nh h
  have hH2 : (x_begin σ 2147483647).2.1 = nI nh := hH
  unfold x_size
  simp only
  rcases pk_ix a (n := nh) (by omega) with ha | ha | ⟨j, hj, rfl⟩
  · rw [ex_no hH2 (Or.inl ha), if_pos rfl]
    exact ⟨fun _ => rfl, fun j hj e => by rw [e] at ha; exact absurd ha (nI_pos (by omega)), XI_begin h _, XF_max σ⟩
  · rw [ex_no hH2 (Or.inr ha), if_pos rfl]
    exact ⟨fun _ => rfl, fun j hj e => by rw [e] at ha; exact absurd ha (nI_ge hj (by omega)), XI_begin h _, XF_max σ⟩
  · obtain ⟨hl200, hsz⟩ := XI_len h (show j < 8 by omega)
    rw [ex_yes hH2 h8 hj, if_neg (by decide), ad_sz, R0_read (by omega)]
    refine ⟨fun hb => ?_, fun i hi e => ?_, XI_eq h rfl rfl rfl rfl, RS_max rfl⟩
    · exfalso
      rcases hb with hb | hb
      · exact nI_pos (by omega) hb
      · exact nI_ge hj (by omega) hb
    · rw [← nI_inj (by omega) (by omega) e]
      exact hsz
theorem XI_list {σ s : Sx} {g : Nat → Int32} {n nh u : Nat} {K : Nat → List Int32} (h : XI σ nh u K) (hg : ∀ k, (k < 800 ∨ 1000 ≤ k) → g k = σ.1 k) (h2 : s.2.1 = σ.2.1) (h3 : s.2.2.1 = σ.2.2.1) (h4 : s.2.2.2.1 = σ.2.2.2.1) : XI (RS s g n) nh u K := by
  obtain ⟨TT, fl, a1, a2, a3, a4, a5, a6, a7, a8, a9, a10⟩ := h
  obtain ⟨b1, b2⟩ := PI_list a1 hg
  have hlt := PI_lt a1
  refine ⟨TT, fl, b1, by show flc g fl s.2.2.2.1; rw [h4]; exact flc_agr _ _ b2 a2, by show s.2.2.1 = _; rw [h3]; exact a3, a4, by show s.2.1 = _; rw [h2]; exact a5, a6, a7, fun j hj => by show g _ = _; rw [hg _ (by omega)]; exact a8 j hj, a9, fun j hj => ?_⟩
  show ((hc TT j).map g).Perm _
  rw [List.map_congr_left (fun x hx => hg x (by have := hlt x (List.mem_append_right _ (hc_tcs hj hx)); omega))]
  exact a10 j hj
/-- a heap's keys, listed -/
theorem listed {σ s : Sx} {nh u n j : Nat} {K : Nat → List Int32} (h : XI σ nh u K) (hj : j < 8) (h2 : s.2.1 = σ.2.1) (h3 : s.2.2.1 = σ.2.2.1) (h4 : s.2.2.2.1 = σ.2.2.2.1) : ∃ g n' L, x_listCells (RS s σ.1 n) (nI j) = (nI L.length, RS s g n') ∧ Lst g L ∧ L.length ≤ 200 ∧ (∀ c ∈ L, c < 200) ∧ (L.map g).Perm (K j) ∧ ∀ n'', XI (RS s g n'') nh u K := by
  obtain ⟨TT, fl, a1, a2, a3, a4, a5, a6, a7, a8, a9, a10⟩ := id h
  obtain ⟨g, n', L, e, hp, hl, hg⟩ := listCells_RS (σ := s) (n := n) hj a1
  have hlt := PI_lt a1
  have hlen := hc_len hj a1
  have hL : ∀ c ∈ L, c < 200 := fun c hc1 => hlt c (List.mem_append_right _ (hc_tcs hj (hp.mem_iff.mp hc1)))
  refine ⟨g, n', L, by rw [e, hp.length_eq], hl, by rw [hp.length_eq]; omega, hL, ?_, fun n'' => XI_list h hg h2 h3 h4⟩
  rw [List.map_congr_left (fun x hx => hg x (by have := hL x hx; omega))]
  exact (hp.map σ.1).trans (a10 j hj)
theorem op_sum {σ : Sx} {nh u : Nat} {K : Nat → List Int32} (h : XI σ nh u K) (a : Int32) : ((a < 0 ∨ nI nh ≤ a) → (x_sum σ a).1 = 0) ∧ (∀ j, j < nh → a = nI j → (x_sum σ a).1 = lsum (K j)) ∧ XI (x_sum σ a).2 nh u K ∧ XF (x_sum σ a).2 := by
  obtain ⟨h8, -, hH⟩ := XI_nh h
  have hH2 : (x_begin σ 2147483647).2.1 = nI nh := hH
  unfold x_sum
  simp only
  rcases pk_ix a (n := nh) (by omega) with ha | ha | ⟨j, hj, rfl⟩
  · rw [ex_no hH2 (Or.inl ha), if_pos rfl]
    exact ⟨fun _ => rfl, fun j hj e => by rw [e] at ha; exact absurd ha (nI_pos (by omega)), XI_begin h _, XF_max σ⟩
  · rw [ex_no hH2 (Or.inr ha), if_pos rfl]
    exact ⟨fun _ => rfl, fun j hj e => by rw [e] at ha; exact absurd ha (nI_ge hj (by omega)), XI_begin h _, XF_max σ⟩
  · rw [ex_yes hH2 h8 hj, if_neg (by decide)]
    obtain ⟨g, n', L, e, hl, hL, hc0, hp, hX⟩ := listed (s := x_begin σ 2147483647) (n := 0) h (show j < 8 by omega) rfl rfl rfl
    have e0 : RS (x_begin σ 2147483647) σ.1 0 = x_begin σ 2147483647 := RS_0 (x_begin σ 2147483647)
    rw [e0] at e
    rw [e]
    simp only
    obtain ⟨n2, e2⟩ := sum_L (σ := x_begin σ 2147483647) hl hL hc0 L [] n' 0 rfl
    have e3 : y_sumL (nI L.length) ((nI L.length).toInt.toNat + 1) (RS (x_begin σ 2147483647) g n') 0 0 = (0 + lsum (L.map g), RS (x_begin σ 2147483647) g n2) := by
      rw [nI_toInt (by omega), Int.toNat_natCast]
      have := sumL_eq L.length (by omega) L.length 0 (RS (x_begin σ 2147483647) g n') 0 (by omega)
      rw [← nI_0]
      exact this.trans e2
    rw [e3]
    refine ⟨fun hb => ?_, fun i hi e => ?_, hX n2, RS_max rfl⟩
    · exfalso
      rcases hb with hb | hb
      · exact nI_pos (by omega) hb
      · exact nI_ge hj (by omega) hb
    · rw [← nI_inj (by omega) (by omega) e, Int64.zero_add, lsum_perm hp]
theorem cle_perm {S S' : List Int32} (h : S.Perm S') (v : Int) : cle S v = cle S' v := h.countP_eq _
theorem op_key {σ : Sx} {nh u : Nat} {K : Nat → List Int32} (h : XI σ nh u K) (a k : Int32) : XI (x_key σ a k).2 nh u K ∧ XF (x_key σ a k).2 ∧ ((k < 0 ∨ a < 0 ∨ nI nh ≤ a ∨ ∃ j, j < nh ∧ a = nI j ∧ nI (K j).length ≤ k) → (x_key σ a k).1 = -9223372036854775808) ∧ ∀ j i, j < nh → a = nI j → i < (K j).length → k = nI i → cle (K j) ((x_key σ a k).1.toInt - 1) ≤ i ∧ i < cle (K j) (x_key σ a k).1.toInt := by
  obtain ⟨h8, -, hH⟩ := XI_nh h
  unfold x_key
  simp only
  by_cases hk : k < 0
  · rw [if_pos hk]
    refine ⟨XI_begin h _, XF_max σ, fun _ => rfl, fun j i hj _ hi e => ?_⟩
    have := (XI_len h (show j < 8 by omega)).1
    rw [e] at hk
    exact absurd hk (nI_pos (by omega))
  · rw [if_neg hk]
    obtain ⟨z, d, z1, z2, z3, z4, z5⟩ := keysIn_any (s := x_begin σ 2147483647) (n := 0) h rfl a
    have e0 : RS (x_begin σ 2147483647) σ.1 0 = x_begin σ 2147483647 := RS_0 (x_begin σ 2147483647)
    rw [e0] at z3
    rw [z3]
    simp only
    obtain ⟨i, hi, rfl⟩ := nI_of hk
    by_cases hlt : i < z
    · rw [if_pos (nI_lt hlt (by omega))]
      -- the heap is there
      have hj : ∃ j, j < nh ∧ a = nI j := by
        rcases pk_ix a (n := nh) (by omega) with ha | ha | hj
        · have := z5 (Or.inl ha); omega
        · have := z5 (Or.inr ha); omega
        · exact hj
      obtain ⟨j, hj, rfl⟩ := hj
      have hz := z4 j hj rfl
      obtain ⟨g, n', L, e, hl, hL, hc0, hp, hX⟩ := listed (s := x_begin σ 2147483647) (n := 0 + d) h (show j < 8 by omega) rfl rfl rfl
      rw [e]
      simp only
      have hlen := hp.length_eq
      rw [List.length_map] at hlen
      have hlo : cle (L.map g) ((-2147483648 : Int64).toInt - 1) ≤ i := by
        have : cle (L.map g) ((-2147483648 : Int64).toInt - 1) = 0 := by
          unfold cle
          rw [List.countP_eq_zero]
          intro x _
          have h1 := Int32.le_toInt x
          rw [show (-2147483648 : Int64).toInt = -2147483648 from rfl]
          simp
          omega
        omega
      have hhi : i < cle (L.map g) (2147483647 : Int64).toInt := by
        have : cle (L.map g) (2147483647 : Int64).toInt = (L.map g).length := by
          unfold cle
          rw [List.countP_eq_length]
          intro x _
          have h1 := Int32.toInt_lt x
          rw [show (2147483647 : Int64).toInt = 2147483647 from rfl]
          simp
          omega
        rw [this, List.length_map]
        omega
      obtain ⟨v, n2, e2, v1, v2, v3, v4⟩ := kth_L (σ := x_begin σ 2147483647) (k := i) hl hL hc0 hi 32 n' (-2147483648) 2147483647 (by omega) (by decide) (by decide) (by decide) (by decide) hlo hhi
      have e3 : x_kthListed (RS (x_begin σ 2147483647) g n') (nI L.length) (nI i) = (v, RS (x_begin σ 2147483647) g n2) := by
        unfold x_kthListed
        rw [← nI_0, kthL_eq (nI L.length) (nI i) 32 0 _ _ _ (by omega)]
        exact e2
      rw [e3]
      refine ⟨hX n2, RS_max rfl, fun hb => ?_, fun j' i' hj' e' hi' ei => ?_⟩
      · exfalso
        rcases hb with hb | hb | hb | ⟨j', hj', e', hb⟩
        · exact hk hb
        · exact nI_pos (by omega) hb
        · exact nI_ge hj (by omega) hb
        · have := nI_inj (by omega) (by omega) e'
          subst this
          exact nI_ge (show i < (K j).length by omega) (by omega) hb
      · have := nI_inj (by omega) (by omega) e'
        subst this
        have hKl := (XI_len h (show j < 8 by omega)).1
        have := nI_inj (by omega) (by omega) ei
        subst this
        rw [cle_perm hp] at v1 v2
        exact ⟨v1, v2⟩
    · rw [if_neg (nI_nlt (by omega) (by omega))]
      refine ⟨XI_eq h rfl rfl rfl rfl, RS_max rfl, fun _ => rfl, fun j i' hj e hi' ei => ?_⟩
      exfalso
      have hz := z4 j hj e
      have hKl := (XI_len h (show j < 8 by omega)).1
      have := nI_inj (by omega) (by omega) ei
      omega
theorem op_free {σ : Sx} {nh u : Nat} {K : Nat → List Int32} (h : XI σ nh u K) : (x_free σ).1 = nI (200 - u) ∧ XI (x_free σ).2 nh u K ∧ XF (x_free σ).2 := by
  refine ⟨?_, XI_begin h _, XF_max σ⟩
  obtain ⟨TT, fl, a1, a2, a3, a4, -⟩ := h
  show σ.2.2.1 = _
  rw [a3]
  congr 1
  omega
theorem op_few {σ : Sx} {nh u : Nat} {K : Nat → List Int32} (h : XI σ nh u K) (hf : XF σ) : (x_few σ).1 = 1 ∧ XI (x_few σ).2 nh u K ∧ XF (x_few σ).2 := by
  refine ⟨?_, XI_begin h _, XF_max σ⟩
  show (if σ.2.2.2.2.2 < σ.2.2.2.2.1 then (0 : Int32) else 1) = 1
  rw [if_neg hf]
