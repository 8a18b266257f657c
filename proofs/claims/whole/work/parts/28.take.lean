/-! take and meld -/
theorem op_take {σ : Sx} {nh u j : Nat} {K : Nat → List Int32} (h : XI σ nh u K) (hj : j < nh) (hk : K j ≠ []) : ∃ v, v ∈ K j ∧ (∀ x ∈ K j, v ≤ x) ∧ (x_take σ (nI j)).1 = v.toInt64 ∧ XF (x_take σ (nI j)).2 ∧ ∀ l, (K j).Perm (v :: l) → XI (x_take σ (nI j)).2 nh (u - 1) (kup K j l) := by
  obtain ⟨h8, -, hH⟩ := XI_nh h
  obtain ⟨hl200, hsz⟩ := XI_len h (show j < 8 by omega)
  obtain ⟨L, eb, hL, hLr⟩ := beginOn_RS h hj
  obtain ⟨TT, fl, a1, a2, a3, a4, a5, a6, a7, a8, a9, a10⟩ := id h
  have hj8 : j < 8 := by omega
  have hs0 : ∃ s0, s0 = x_sL (x_sS σ 0) (nI (200 * (2 + L))) := ⟨_, rfl⟩
  obtain ⟨s0, es0⟩ := hs0
  rw [← es0] at eb
  obtain ⟨b, n1, e, hn1, hb⟩ := leastRoot_RS (σ := s0) (n := 1) hj h8 (by rw [es0]; exact hH) a1
  have hp := a10 j hj8
  rcases hb with ⟨-, hb⟩ | ⟨i, t, hi, ht, rfl, hb⟩
  · exfalso
    rw [lr_none (f := σ.1) hj8 hb] at hp
    exact hk (List.nil_perm.mp hp)
  · have hi72 : i < 72 := by omega
    have htk := (PI_some a1 hi72 ht).2.1
    have hlt := htk.1
    have hmin := lr_min hj8 a1 hb
    have hm : t.2.1 ∈ hc TT j := hc_in hj8 hi ht List.mem_cons_self
    refine ⟨σ.1 t.2.1, hp.mem_iff.mp (List.mem_map.mpr ⟨_, hm, rfl⟩), fun x hx => ?_, ?_⟩
    · obtain ⟨c, hc1, rfl⟩ := List.mem_map.mp (hp.mem_iff.mpr hx)
      exact hmin c hc1
    · unfold x_take
      simp only [eb, e]
      rw [if_neg (nI_ne_m1 (by omega)), ad_0, RS_read (by omega)]
      simp only
      obtain ⟨g, n2, TT', b1, b2, b3, b4, b5, b6, b7, b8, b9⟩ := cutRoot_RS (σ := s0) (n := n1 + 1) hj8 a1 hi ht
      rw [b1]
      -- the children
      have htg := b3.2.1 t List.mem_cons_self
      have hPc : PI g TT' [] (fcells t.2.2 ++ (t.2.1 :: fl)) := by
        have hN : NL ((fcells t.2.2 ++ (t.2.1 :: fl)) ++ (([] : List Tr).flatMap tc ++ tcs TT')) := by
          refine NL_perm ?_ (PI_NL b3)
          refine List.perm_iff_count.mpr fun x => ?_
          simp only [List.flatMap_cons, List.flatMap_nil, tc, List.count_append, List.count_cons, List.count_nil]
          omega
        refine ⟨b3.1, fun t' ht' => by simp at ht', hN.1, hN.2, fun x hx => ?_⟩
        rcases List.mem_append.mp hx with hx | hx
        · exact tok_lt htg x (List.mem_cons_of_mem _ hx)
        · rcases List.mem_cons.mp hx with rfl | hx
          · exact hlt
          · exact a1.2.2.2.2 x hx
      have hlen : flen t.2.2 ≤ 200 := by
        have h1 := hPc.2.2.2.1
        have h2 := (kids_perm t.2.2).length_eq
        have h3 := kids_len t.2.2
        simp only [List.length_append, List.length_map] at h1 h2
        omega
      obtain ⟨g2, n3, TT2, c1, c2, c3, c4, c5, c6, c7, c8⟩ := pc_L (σ := s0) hj8 t.2.2 200 g (n2 + 1) TT' (g (400 + t.2.1)) (g t.2.1) hPc htg.2.2.2.2 hlen
      have epc : x_placeChildren (RS s0 g n2) (nI j) (nI t.2.1) = RS s0 g2 n3 := by
        unfold x_placeChildren
        rw [ad_400, RS_read (by omega)]
        simp only
        rw [← nI_0, pcL_eq (nI j) 200 0 _ _ (by omega)]
        exact c1
      rw [epc, giveBack_RS hlt, ad_sz, RS_read (by omega)]
      simp only
      have esz : upd g2 (600 + t.2.1) s0.2.2.2.1 (1072 + j) = nI (K j).length := by
        rw [pk_un (by omega), c8 _ (by omega), b9 _ (by omega)]
        exact hsz
      rw [esz, resize_RS hj8]
      have hrank : t.1 < 8 := PI_rank b3
      have hcl := htk.2.2.2.1
      have hKlen : (hc TT j).length = (K j).length := by have := hp.length_eq; rw [List.length_map] at this; exact this
      have hb5 := b5.length_eq
      rw [List.length_append] at hb5
      have htcl : (tc t).length = (fcells t.2.2).length + 1 := rfl
      refine ⟨trivial, ?_, fun l hl => ?_⟩
      · refine XF_of (L := 200 * (2 + L)) (by rw [es0]; rfl) (by rw [es0]; rfl) (by omega) ?_
        have h1 := hLr t.1 (by omega) (by omega)
        have h2 := htk.2.2.1
        omega
      · have hKpos : 0 < (K j).length := List.length_pos_iff.mpr hk
        have hK1 : nI (K j).length - 1 = nI ((K j).length - 1) := by
          obtain ⟨m, hm2⟩ : ∃ m, (K j).length = m + 1 := ⟨(K j).length - 1, by omega⟩
          rw [hm2, nI_pred]
          rfl
        rw [hK1]
        have ef : s0.2.2.2.1 = σ.2.2.2.1 := by rw [es0]; rfl
        have eu : s0.2.2.1 = σ.2.2.1 := by rw [es0]; rfl
        have eh : s0.2.1 = σ.2.1 := by rw [es0]; rfl
        have hnd := c3.2.2.1
        have hroot : t.2.1 ∉ fl ∧ t.2.1 ∉ tcs TT2 := by
          simp only [List.flatMap_nil, List.nil_append, List.cons_append, List.nodup_cons, List.mem_append, not_or] at hnd
          exact hnd.1
        have hlt2 := PI_lt c3
        simp only [List.flatMap_nil, List.nil_append] at hlt2
        have hflt : ∀ x ∈ fl, x < 200 := a1.2.2.2.2
        have ag : ∀ Z : List Nat, t.2.1 ∉ Z → (∀ x ∈ Z, x < 200) → agr Z g2 (upd g2 (600 + t.2.1) s0.2.2.2.1) := fun Z hZ hZ2 x hx => by
          have h1 := hZ2 x hx
          have h2 : x ≠ t.2.1 := fun q => hZ (q ▸ hx)
          refine ⟨?_, ?_, ?_, ?_⟩ <;> rw [pk_un (by omega)]
        have hP3 : PI (upd g2 (600 + t.2.1) s0.2.2.2.1) TT2 [] (t.2.1 :: fl) :=
          PI_chg (ts := []) (ts' := []) (hand := []) c3 (by simpa using ag _ hroot.2 hlt2) (fun i hi => pk_un (by omega)) (fun t ht => by simp at ht) (List.Perm.refl _)
        obtain ⟨hP4, hag4⟩ := PI_size (k := 1072 + j) (v := nI ((K j).length - 1)) hP3 (by omega)
        have htt : ∀ k, k ≠ 64 + j → (k < 8 * j ∨ 8 * j + 8 ≤ k) → TT2 k = TT k := fun k hk1 hk2 => (c6 k hk2).trans (b7 k hk1 hk2)
        have htw : TT2 (64 + j) = none := (c6 _ (by omega)).trans b6
        have hkeys : ∀ x, x < 200 → upd (upd g2 (600 + t.2.1) s0.2.2.2.1) (1072 + j) (nI ((K j).length - 1)) x = σ.1 x := fun x hx => by
          rw [pk_un (by omega), pk_un (by omega), c7 x hx, b8 x hx]
        have hc5 := c5.length_eq
        rw [List.length_append] at hc5
        refine ⟨TT2, t.2.1 :: fl, hP4, ?_, ?_, ?_, ?_, a6, ?_, ?_, ?_, ?_⟩
        · show flc _ (t.2.1 :: fl) (nI t.2.1)
          refine ⟨rfl, ?_⟩
          show flc (upd (upd g2 (600 + t.2.1) s0.2.2.2.1) (1072 + j) (nI ((K j).length - 1))) fl (upd (upd g2 (600 + t.2.1) s0.2.2.2.1) (1072 + j) (nI ((K j).length - 1)) (600 + t.2.1))
          have e7 : upd (upd g2 (600 + t.2.1) s0.2.2.2.1) (1072 + j) (nI ((K j).length - 1)) (600 + t.2.1) = σ.2.2.2.1 := by rw [pk_un (by omega), pk_us, ef]
          rw [e7]
          refine flc_agr _ _ (agr_tr (agr_tr (agr_tr b4 (agr_sub c4 (fun x hx => List.mem_cons_of_mem _ hx))) ?_) (agr_sub hag4 (fun x hx => List.mem_cons_of_mem _ hx))) a2
          exact ag fl hroot.1 hflt
        · show s0.2.2.1 + 1 = _
          rw [eu, a3, nI_1]
          rfl
        · have : 0 < u := by
            have h1 := a1.2.2.2.1
            have h2 := fm_le (List.range 72) List.nodup_range [i] (fun k => oc (TT k)) (by simp) (fun k hk => by simp at hk; subst hk; exact List.mem_range.mpr hi72)
            have h3 : (oc (TT i)).length = (fcells t.2.2).length + 1 := by rw [ht]; rfl
            simp only [List.flatMap_cons, List.flatMap_nil, List.append_nil, List.nil_append, List.length_append] at h1 h2
            unfold tcs at h1
            omega
          simp only [List.length_cons]
          omega
        · show s0.2.1 = _
          rw [eh]
          exact a5
        · intro h' hh'
          by_cases hne : h' = j
          · subst hne
            intro t' ht'
            rw [htw] at ht'
            cases ht'
          · intro t' ht'
            rw [htt _ (by omega) (by omega)] at ht'
            obtain ⟨t1, ⟨t'', t2⟩, t3⟩ := a7 h' hh' t' ht'
            exact ⟨t1, ⟨t'', by rw [htt _ (by omega) (by omega)]; exact t2⟩, fun r hr => by rw [htt _ (by omega) (by omega)]; exact t3 r hr⟩
        · intro h' hh'
          show upd _ (1072 + j) _ (1072 + h') = _
          by_cases hne : h' = j
          · subst hne
            rw [pk_us]
            congr 1
            omega
          · rw [pk_un (by omega), pk_un (by omega), c8 _ (by omega), b9 _ (by omega), a8 h' hh', hc_eq (TT' := TT2) (TT := TT) hh' (htt _ (by omega) (by omega)) (fun r hr => htt _ (by omega) (by omega))]
        · intro h' hh' hh2
          rw [kup_n (by omega)]
          exact a9 h' hh' hh2
        · intro h' hh'
          show ((hc TT2 h').map (upd (upd g2 (600 + t.2.1) s0.2.2.2.1) (1072 + j) _)).Perm _
          rw [List.map_congr_left (fun x hx => hkeys x (hlt2 x (hc_tcs hh' hx)))]
          by_cases hne : h' = j
          · subst hne
            rw [kup_s]
            have p1 := b5.map σ.1
            have p2 := c5.map σ.1
            refine List.perm_iff_count.mpr fun x => ?_
            have q1 := p1.count_eq x
            have q2 := p2.count_eq x
            have q3 := hp.count_eq x
            have q4 := hl.count_eq x
            simp only [tc, List.map_append, List.map_cons, List.count_append, List.count_cons] at q1 q2 q3 q4 ⊢
            omega
          · rw [kup_n hne, hc_eq (TT' := TT2) (TT := TT) hh' (htt _ (by omega) (by omega)) (fun r hr => htt _ (by omega) (by omega))]
            exact a10 h' hh'
/-- a tree is cut out of its place and placed in the heap 'to' -/
theorem mv_RS {σ : Sx} {f : Nat → Int32} {n i to : Nat} {TT : Nat → Option Tr} {Z : List Nat} (ht8 : to < 8) (hi : i < 72) (hP : PI f TT [] Z) :
    ∃ (g : Nat → Int32) (n' : Nat) (TT' : Nat → Option Tr), x_place (RS σ (upd f (1000 + i) (-1)) (n + 2)) (nI to) (f (1000 + i)) = RS σ g n' ∧ n' ≤ n + 75 ∧ n' ≤ n + 2 + 73 * (oc (TT i)).length ∧ PI g TT' [] Z ∧ agr Z f g ∧ (hc TT' to).Perm (oc (TT i) ++ hc (up TT i none) to) ∧ (∀ k, k < 8 * to ∨ 8 * to + 8 ≤ k → TT' k = up TT i none k) ∧ (∀ k, k < 200 → g k = f k) ∧ ∀ k, 1072 ≤ k → g k = f k := by
  cases ht : TT i with
  | none =>
    have e := PI_none hP hi ht
    have eu : up TT i none = TT := by
      funext k
      by_cases hk : k = i
      · subst hk; rw [up_s, ht]
      · rw [up_n hk]
    rw [e, place_nil, upd_same e, eu]
    exact ⟨f, n + 2, TT, rfl, by omega, by simp [oc], hP, agr_rf, by simp [oc], fun _ _ => rfl, fun _ _ => rfl, fun _ _ => rfl⟩
  | some t =>
    obtain ⟨e, htk, -⟩ := PI_some hP hi ht
    rw [e]
    obtain ⟨g, n', TT', b1, b2, b3, b4, b5, b6, b7, b8⟩ := place_RS (σ := σ) (n := n + 2) ht8 (PI_cut hP hi ht)
    refine ⟨g, n', TT', b1, by omega, ?_, b3, agr_tr (agr_hi hP.2.2.2.2 (by omega)) b4, b5, b6, fun k hk => by rw [b7 k hk, pk_un (by omega)], fun k hk => by rw [b8 k (by omega), pk_un (by omega)]⟩
    have : 1 ≤ (oc (some t)).length := by simp [oc, tc]
    omega
/-- meld's loop, without its counter -/
def x_meL (to fr : Int32) : Nat → Sx → Int32 → Sx
  | 0, σ, _ => σ
  | n + 1, σ, rank =>
    let q := x_cutTop σ fr rank
    x_meL to fr n (x_place q.2 to q.1) (rank + 1)
theorem meL_eq (to fr : Int32) : ∀ (m i : Nat) (σ : Sx), i + m = 8 → y_meL to fr (m + 1) σ (nI i) = x_meL to fr m σ (nI i) := by
  intro m
  induction m with
  | zero =>
    intro i σ hi
    unfold y_meL x_meL
    rw [if_pos (show (8 : Int32) ≤ nI i from nI_le (a := 8) (by omega) (by omega))]
  | succ m ih =>
    intro i σ hi
    unfold y_meL x_meL
    rw [if_neg (show ¬ (8 : Int32) ≤ nI i from nI_ge (b := 8) (by omega) (by omega))]
    simp only
    rw [nI_1]
    exact ih (i + 1) _ (by omega)
theorem me_L {σ : Sx} {to fr : Nat} {Z : List Nat} (h1 : to < 8) (h2 : fr < 8) (hne : to ≠ fr) : ∀ (m r : Nat) (f : Nat → Int32) (n : Nat) (TT : Nat → Option Tr), r + m = 8 → PI f TT [] Z → TT (64 + fr) = none → (∀ r', r' < r → TT (8 * fr + r') = none) →
    ∃ (g : Nat → Int32) (n' : Nat) (TT' : Nat → Option Tr), x_meL (nI to) (nI fr) m (RS σ f n) (nI r) = RS σ g n' ∧ n' ≤ n + 75 * m ∧ n' ≤ n + 2 * m + 73 * (hc TT fr).length ∧ PI g TT' [] Z ∧ agr Z f g ∧ (hc TT' to).Perm (hc TT fr ++ hc TT to) ∧ hc TT' fr = [] ∧ TT' (64 + fr) = none ∧ (∀ k, (k < 8 * to ∨ 8 * to + 8 ≤ k) → (k < 8 * fr ∨ 8 * fr + 8 ≤ k) → TT' k = TT k) ∧ (∀ k, k < 200 → g k = f k) ∧ ∀ k, 1072 ≤ k → g k = f k := by
  intro m
  induction m with
  | zero =>
    intro r f n TT hr hP htw hlow
    have hnil : hc TT fr = [] := by
      refine lr_none (f := f) h2 (fun k hk => ?_)
      rcases hk with rfl | hk
      · exact htw
      · have := hlow (k - 8 * fr) (by omega)
        rwa [show 8 * fr + (k - 8 * fr) = k by omega] at this
    exact ⟨f, n, TT, rfl, by omega, by omega, hP, agr_rf, by rw [hnil]; exact List.Perm.refl _, hnil, htw, fun _ _ _ => rfl, fun _ _ => rfl, fun _ _ => rfl⟩
  | succ m ih =>
    intro r f n TT hr hP htw hlow
    unfold x_meL
    rw [x_cutTop_RS h2 (by omega)]
    simp only
    obtain ⟨g, n', TT', b1, b2, b3, b4, b5, b6, b7, b8, b9⟩ := mv_RS (σ := σ) (n := n) h1 (show 8 * fr + r < 72 by omega) hP
    rw [b1, nI_1]
    have hup : hc (up TT (8 * fr + r) none) to = hc TT to := hc_eq h1 (up_n (by omega)) (fun k hk => up_n (by omega))
    have hfr : hc TT' fr = hc (up TT (8 * fr + r) none) fr := hc_eq h2 (b7 _ (by omega)) (fun k hk => b7 _ (by omega))
    have hcut := hc_top (TT := TT) (o := none) h2 (show r < 8 by omega)
    have hcl := hcut.length_eq
    have e0 : oc (none : Option Tr) = [] := rfl
    rw [e0] at hcl
    simp only [List.length_append, List.nil_append] at hcl
    rw [hup] at b6
    obtain ⟨g2, n2, TT2, c1, c2, c3, c4, c5, c6, c7, c8, c9, c10, c11⟩ := ih (r + 1) g n' TT' (by omega) b4 (by rw [b7 _ (by omega), up_n (by omega)]; exact htw) (fun r' hr' => by
      rw [b7 _ (by omega)]
      by_cases hrr : r' = r
      · subst hrr; exact up_s
      · rw [up_n (by omega)]; exact hlow r' (by omega))
    refine ⟨g2, n2, TT2, c1, by omega, ?_, c4, agr_tr b5 c5, ?_, c7, c8, fun k hk1 hk2 => by rw [c9 k hk1 hk2, b7 k hk1, up_n (by omega)], fun k hk => (c10 k hk).trans (b8 k hk), fun k hk => (c11 k hk).trans (b9 k hk)⟩
    · have : (hc TT' fr).length + (oc (TT (8 * fr + r))).length = (hc TT fr).length := by rw [hfr]; omega
      omega
    · rw [hfr] at c6
      refine List.perm_iff_count.mpr fun x => ?_
      have q1 := c6.count_eq x
      have q2 := b6.count_eq x
      have q3 := hcut.count_eq x
      simp only [List.count_append, oc, List.count_nil] at q1 q2 q3 ⊢
      omega
