/-! what the reference's methods do, in terms of the keys of each heap -/
def MK (μ : Sm) (u : Nat) (h : Int32) : List Int32 := (List.range u).flatMap (fun i => if μ.2.2.1 i = h then [μ.2.2.2.1 i] else [])
def MI (μ : Sm) (nh u : Nat) (K : Nat → List Int32) : Prop := μ.1 = nI nh ∧ nh ≤ 8 ∧ μ.2.1 = nI u ∧ u ≤ 200 ∧ ∀ h, h < 8 → (MK μ u (nI h)).Perm (K h)
theorem MI_ok {μ : Sm} {nh u : Nat} {K : Nat → List Int32} (h : MI μ nh u K) : Mok μ := by
  obtain ⟨-, -, e, hu, -⟩ := h
  unfold Mok
  rw [e, nI_toInt (by omega)]
  omega
theorem is_yes {μ : Sm} {nh j : Nat} (h : μ.1 = nI nh) (hn : nh ≤ 8) (hj : j < nh) : z_is μ (nI j) = 1 := by
  unfold z_is
  rw [if_neg (nI_pos (by omega)), h, if_neg (nI_ge hj (by omega))]
theorem is_no {μ : Sm} {nh : Nat} {a : Int32} (h : μ.1 = nI nh) (ha : a < 0 ∨ nI nh ≤ a) : z_is μ a = 0 := by
  unfold z_is
  rcases ha with ha | ha
  · rw [if_pos ha]
  · split
    · rfl
    · rw [h, if_pos ha]
theorem sz_L {μ : Sm} {h : Int32} {u : Nat} (hu : u ≤ 200) (e : μ.2.1 = nI u) : ∀ (m i n : Nat), i + m = u → z_szL μ h (m + 1) (nI n) (nI i) = nI (n + ((List.range' i m).flatMap (fun i => if μ.2.2.1 i = h then [μ.2.2.2.1 i] else [])).length) := by
  intro m
  induction m with
  | zero =>
    intro i n hi
    unfold z_szL
    rw [e, if_pos (nI_le (by omega) (by omega))]
    simp
  | succ m ih =>
    intro i n hi
    unfold z_szL
    rw [e, if_neg (nI_ge (by omega) (by omega)), nI_clamp (by omega), List.range'_succ, List.flatMap_cons]
    by_cases ho : μ.2.2.1 i = h
    · rw [if_pos ho, nI_1, nI_1, ih (i + 1) (n + 1) (by omega), if_pos ho]
      congr 1
      simp only [List.length_append, List.length_cons, List.length_nil]
      omega
    · rw [if_neg ho, nI_1, Int32.add_zero, ih (i + 1) n (by omega), if_neg ho]
      simp
theorem sz_sem {μ : Sm} {h : Int32} {u : Nat} (hu : u ≤ 200) (e : μ.2.1 = nI u) : z_size μ h = nI (MK μ u h).length := by
  unfold z_size
  rw [e, nI_toInt (by omega), Int.toNat_natCast, ← nI_0, sz_L hu e u 0 0 (by omega), Nat.zero_add]
  unfold MK
  rw [List.range_eq_range']
theorem m_heap {μ : Sm} {nh u : Nat} {K : Nat → List Int32} (h : MI μ nh u K) : (nh = 8 → (z_heap μ).1 = -1 ∧ MI (z_heap μ).2 nh u K) ∧ (nh < 8 → (z_heap μ).1 = nI nh ∧ MI (z_heap μ).2 (nh + 1) u K) := by
  obtain ⟨a1, a2, a3, a4, a5⟩ := id h
  unfold z_heap
  refine ⟨fun h1 => ?_, fun h1 => ?_⟩
  · rw [if_pos (by rw [a1, h1]; rfl)]
    exact ⟨rfl, h⟩
  · rw [if_neg (by rw [a1]; exact fun q => by have := nI_inj (b := 8) (by omega) (by omega) q; omega)]
    refine ⟨?_, ?_, by omega, a3, a4, a5⟩
    · show μ.1 + 1 - 1 = _
      rw [a1, nI_1, nI_pred]
    · show μ.1 + 1 = _
      rw [a1, nI_1]
theorem m_add_no {μ : Sm} {nh u : Nat} {K : Nat → List Int32} {a key : Int32} (h : MI μ nh u K) (ha : a < 0 ∨ nI nh ≤ a) : z_add μ a key = (-1, μ) := by
  unfold z_add
  rw [is_no h.1 ha, if_pos rfl]
theorem m_add_full {μ : Sm} {nh u j : Nat} {K : Nat → List Int32} {key : Int32} (h : MI μ nh u K) (hj : j < nh) (hu : u = 200) : z_add μ (nI j) key = (-2, μ) := by
  unfold z_add
  rw [is_yes h.1 h.2.1 hj, if_neg (by decide), if_pos (by rw [h.2.2.1, hu]; rfl)]
theorem m_add_yes {μ : Sm} {nh u j : Nat} {K : Nat → List Int32} {key : Int32} (h : MI μ nh u K) (hj : j < nh) (hu : u < 200) : (z_add μ (nI j) key).1 = nI ((K j).length + 1) ∧ MI (z_add μ (nI j) key).2 nh (u + 1) (kup K j (key :: K j)) := by
  obtain ⟨a1, a2, a3, a4, a5⟩ := id h
  unfold z_add
  rw [is_yes a1 a2 hj, if_neg (by decide), if_neg (by rw [a3]; exact fun q => by have := nI_inj (b := 200) (by omega) (by omega) q; omega)]
  simp only
  obtain ⟨m3, em⟩ : ∃ m3, m3 = z_sU (z_sK (z_sO μ μ.2.1 (nI j)) (z_sO μ μ.2.1 (nI j)).2.1 key) ((z_sK (z_sO μ μ.2.1 (nI j)) (z_sO μ μ.2.1 (nI j)).2.1 key).2.1 + 1) := ⟨_, rfl⟩
  rw [← em]
  have eu : m3.2.1 = nI (u + 1) := by
    rw [em]
    show μ.2.1 + 1 = _
    rw [a3, nI_1]
  have eo : m3.2.2.1 = upd μ.2.2.1 u (nI j) := by
    rw [em]
    show upd μ.2.2.1 μ.2.1.toNatClampNeg (nI j) = _
    rw [a3, nI_clamp (by omega)]
  have ek : m3.2.2.2.1 = upd μ.2.2.2.1 u key := by
    rw [em]
    show upd μ.2.2.2.1 μ.2.1.toNatClampNeg key = _
    rw [a3, nI_clamp (by omega)]
  have e1 : m3.1 = nI nh := by rw [em]; exact a1
  have eM : ∀ h, MK m3 (u + 1) h = MK μ u h ++ (if nI j = h then [key] else []) := fun h => by
    unfold MK
    rw [List.range_succ, List.flatMap_append, eo, ek]
    congr 1
    · apply fm_congr
      intro i hi
      have := List.mem_range.mp hi
      rw [pk_un (by omega), pk_un (by omega)]
    · simp [pk_us]
  have hP : ∀ h, h < 8 → (MK m3 (u + 1) (nI h)).Perm (kup K j (key :: K j) h) := fun h hh => by
    rw [eM]
    by_cases hne : h = j
    · subst hne
      rw [kup_s, if_pos rfl]
      refine List.perm_append_comm.trans ?_
      exact (a5 h hh).cons key
    · rw [kup_n hne, if_neg (fun q => hne (nI_inj (by omega) (by omega) q).symm), List.append_nil]
      exact a5 h hh
  refine ⟨?_, e1, a2, eu, by omega, hP⟩
  rw [sz_sem (by omega) eu, (hP j (by omega)).length_eq, kup_s, List.length_cons]
theorem m_size {μ : Sm} {nh u : Nat} {K : Nat → List Int32} (h : MI μ nh u K) (a : Int32) : ((a < 0 ∨ nI nh ≤ a) → z_sizeM μ a = (-1, μ)) ∧ ∀ j, j < nh → a = nI j → z_sizeM μ a = (nI (K j).length, μ) := by
  obtain ⟨a1, a2, a3, a4, a5⟩ := id h
  unfold z_sizeM
  refine ⟨fun ha => by rw [is_no a1 ha, if_pos rfl], fun j hj e => ?_⟩
  subst e
  rw [is_yes a1 a2 hj, if_neg (by decide), sz_sem a4 a3, (a5 j (by omega)).length_eq]
/-- the places that placeOf may take -/
def cand (μ : Sm) (h : Int32) (j : Nat) : Prop := μ.2.2.1 j = h ∧ μ.2.2.2.2 j = 0
def plI (μ : Sm) (h : Int32) (i : Nat) (b : Int32) : Prop := (b = -1 ∧ ∀ j, j < i → ¬ cand μ h j) ∨ ∃ p, p < i ∧ cand μ h p ∧ b = nI p ∧ ∀ j, j < i → cand μ h j → μ.2.2.2.1 p ≤ μ.2.2.2.1 j
theorem pl_sem {μ : Sm} {h : Int32} {u : Nat} (hu : u ≤ 200) (e : μ.2.1 = nI u) : ∀ (m i : Nat) (b : Int32), i + m = u → plI μ h i b → plI μ h u (z_plL μ h (m + 1) b (nI i)) := by
  intro m
  induction m with
  | zero =>
    intro i b hi hb
    unfold z_plL
    rw [e, if_pos (nI_le (by omega) (by omega))]
    obtain rfl : i = u := by omega
    exact hb
  | succ m ih =>
    intro i b hi hb
    unfold z_plL
    rw [e, if_neg (nI_ge (by omega) (by omega)), nI_clamp (by omega), nI_1]
    have keep : ¬ cand μ h i → plI μ h (i + 1) b := fun hn => by
      rcases hb with ⟨hb, hb2⟩ | ⟨p, p1, p2, p3, p4⟩
      · exact Or.inl ⟨hb, fun j hj => by
          by_cases hji : j = i
          · subst hji; exact hn
          · exact hb2 j (by omega)⟩
      · exact Or.inr ⟨p, by omega, p2, p3, fun j hj hc1 => by
          by_cases hji : j = i
          · subst hji; exact absurd hc1 hn
          · exact p4 j (by omega) hc1⟩
    by_cases ho : μ.2.2.1 i = h
    · rw [if_pos ho]
      by_cases ht : μ.2.2.2.2 i = 0
      · rw [if_pos ht]
        rcases hb with ⟨rfl, hb2⟩ | ⟨p, p1, p2, rfl, p4⟩
        · rw [if_pos (by decide)]
          refine ih (i + 1) (nI i) (by omega) (Or.inr ⟨i, by omega, ⟨ho, ht⟩, rfl, fun j hj hc1 => ?_⟩)
          by_cases hji : j = i
          · subst hji; exact Int32.le_refl _
          · exact absurd hc1 (hb2 j (by omega))
        · rw [if_neg (nI_pos (by omega)), nI_clamp (by omega)]
          split
          · rename_i hle
            refine ih (i + 1) (nI p) (by omega) (Or.inr ⟨p, by omega, p2, rfl, fun j hj hc1 => ?_⟩)
            by_cases hji : j = i
            · subst hji; exact hle
            · exact p4 j (by omega) hc1
          · rename_i hle
            have hlt := Int32.not_le.mp hle
            refine ih (i + 1) (nI i) (by omega) (Or.inr ⟨i, by omega, ⟨ho, ht⟩, rfl, fun j hj hc1 => ?_⟩)
            by_cases hji : j = i
            · subst hji; exact Int32.le_refl _
            · exact Int32.le_trans (Int32.le_of_lt hlt) (p4 j (by omega) hc1)
      · rw [if_neg ht]
        exact ih (i + 1) b (by omega) (keep (fun q => ht q.2))
    · rw [if_neg ho]
      exact ih (i + 1) b (by omega) (keep (fun q => ho q.1))
theorem place_sem {μ : Sm} {h : Int32} {u : Nat} (hu : u ≤ 200) (e : μ.2.1 = nI u) : plI μ h u (z_place μ h) := by
  unfold z_place
  rw [e, nI_toInt (by omega), Int.toNat_natCast, ← nI_0]
  exact pl_sem hu e u 0 (-1) (by omega) (Or.inl ⟨rfl, fun j hj => by omega⟩)
theorem nar0 : vp_nar .boolean 0 = 0 := rfl
theorem nar1 : vp_nar .boolean 1 = 1 := rfl
theorem un_told : ∀ (m i : Nat) (μ : Sm), i + m = 200 → (∀ j, j < i → μ.2.2.2.2 j = 0) → ∀ j, j < 200 → (z_unL (m + 1) μ (nI i)).2.2.2.2 j = 0 := by
  intro m
  induction m with
  | zero =>
    intro i μ hi hb j hj
    unfold z_unL
    rw [if_pos (show (200 : Int32) ≤ nI i from nI_le (a := 200) (by omega) (by omega))]
    exact hb j (by omega)
  | succ m ih =>
    intro i μ hi hb j hj
    unfold z_unL
    rw [if_neg (show ¬ (200 : Int32) ≤ nI i from nI_ge (b := 200) (by omega) (by omega)), nI_1]
    refine ih (i + 1) (z_sT μ (nI i) 0) (by omega) (fun k hk => ?_) j hj
    show upd μ.2.2.2.2 (nI i).toNatClampNeg (vp_nar .boolean 0) k = 0
    rw [nI_clamp (by omega), nar0]
    by_cases hki : k = i
    · subst hki; exact pk_us
    · rw [pk_un hki]
      exact hb k (by omega)
theorem un_sem (μ : Sm) : (z_untell μ).1 = μ.1 ∧ (z_untell μ).2.1 = μ.2.1 ∧ (z_untell μ).2.2.1 = μ.2.2.1 ∧ (z_untell μ).2.2.2.1 = μ.2.2.2.1 ∧ ∀ j, j < 200 → (z_untell μ).2.2.2.2 j = 0 := by
  obtain ⟨a, b, c, d⟩ := un_L 201 μ 0
  refine ⟨a, b, c, d, fun j hj => ?_⟩
  have := un_told 200 0 μ (by omega) (fun j hj => by omega) j hj
  rw [nI_0] at this
  exact this
theorem MI_un {μ : Sm} {nh u : Nat} {K : Nat → List Int32} (h : MI μ nh u K) : MI (z_untell μ) nh u K := by
  obtain ⟨a, b, c, d, -⟩ := un_sem μ
  unfold MI MK
  rw [a, b, c, d]
  exact h
theorem MK_mem {μ : Sm} {u : Nat} {h x : Int32} : x ∈ MK μ u h ↔ ∃ i, i < u ∧ μ.2.2.1 i = h ∧ μ.2.2.2.1 i = x := by
  unfold MK
  rw [List.mem_flatMap]
  constructor
  · rintro ⟨i, hi, hx⟩
    by_cases ho : μ.2.2.1 i = h
    · rw [if_pos ho] at hx
      exact ⟨i, List.mem_range.mp hi, ho, (List.mem_singleton.mp hx).symm⟩
    · rw [if_neg ho] at hx
      simp at hx
  · rintro ⟨i, hi, ho, rfl⟩
    exact ⟨i, List.mem_range.mpr hi, by rw [if_pos ho]; exact List.mem_singleton.mpr rfl⟩
/-- after untell: the place of the least key, or none -/
theorem place_un {μ : Sm} {nh u j : Nat} {K : Nat → List Int32} (h : MI μ nh u K) (hj : j < 8) : (K j = [] → z_place (z_untell μ) (nI j) = -1) ∧ (K j ≠ [] → ∃ p, p < u ∧ μ.2.2.1 p = nI j ∧ z_place (z_untell μ) (nI j) = nI p ∧ μ.2.2.2.1 p ∈ K j ∧ ∀ x ∈ K j, μ.2.2.2.1 p ≤ x) := by
  obtain ⟨a1, a2, a3, a4, a5⟩ := id h
  obtain ⟨b1, b2, b3, b4, b5⟩ := un_sem μ
  have hp := place_sem (μ := z_untell μ) (h := nI j) a4 (b2.trans a3)
  have hc1 : ∀ i, i < u → (cand (z_untell μ) (nI j) i ↔ μ.2.2.1 i = nI j) := fun i hi => by
    unfold cand
    rw [b3, b5 i (by omega)]
    simp
  refine ⟨fun hk => ?_, fun hk => ?_⟩
  · rcases hp with hp | ⟨p, p1, p2, -⟩
    · exact hp.1
    · exfalso
      have h1 : μ.2.2.2.1 p ∈ MK μ u (nI j) := MK_mem.mpr ⟨p, p1, (hc1 p p1).mp p2, rfl⟩
      have h2 := (a5 j hj).mem_iff.mp h1
      rw [hk] at h2
      simp at h2
  · rcases hp with ⟨-, hp⟩ | ⟨p, p1, p2, p3, p4⟩
    · exfalso
      apply hk
      rw [List.eq_nil_iff_forall_not_mem]
      intro x hx
      obtain ⟨i, hi, ho, -⟩ := MK_mem.mp ((a5 j hj).mem_iff.mpr hx)
      exact hp i hi ((hc1 i hi).mpr ho)
    · have ho := (hc1 p p1).mp p2
      refine ⟨p, p1, ho, p3, (a5 j hj).mem_iff.mp (MK_mem.mpr ⟨p, p1, ho, rfl⟩), fun x hx => ?_⟩
      obtain ⟨i, hi, ho2, rfl⟩ := MK_mem.mp ((a5 j hj).mem_iff.mpr hx)
      have := p4 i hi ((hc1 i hi).mpr ho2)
      rw [b4] at this
      exact this
theorem m_least_no {μ : Sm} {nh u : Nat} {K : Nat → List Int32} {a : Int32} (h : MI μ nh u K) (ha : a < 0 ∨ nI nh ≤ a) : ((z_least μ a).1 = -9223372036854775808 ∧ MI (z_least μ a).2 nh u K) ∧ ((z_take μ a).1 = -9223372036854775808 ∧ MI (z_take μ a).2 nh u K) := by
  have e := is_no (μ := z_untell μ) ((un_sem μ).1.trans h.1) ha
  unfold z_least z_take
  simp only [e, if_true]
  exact ⟨⟨trivial, MI_un h⟩, trivial, MI_un h⟩
theorem m_least_nil {μ : Sm} {nh u j : Nat} {K : Nat → List Int32} (h : MI μ nh u K) (hj : j < nh) (hk : K j = []) : ((z_least μ (nI j)).1 = -9223372036854775808 ∧ MI (z_least μ (nI j)).2 nh u K) ∧ ((z_take μ (nI j)).1 = -9223372036854775808 ∧ MI (z_take μ (nI j)).2 nh u K) := by
  have h8 := h.2.1
  have e := is_yes (μ := z_untell μ) ((un_sem μ).1.trans h.1) h8 hj
  have e2 := (place_un h (show j < 8 by omega)).1 hk
  have hM := MI_un h
  unfold z_least z_take
  generalize z_untell μ = m1 at e e2 hM ⊢
  simp only [e, e2]
  rw [if_neg (by decide), if_neg (by decide), if_neg (by decide), if_neg (by decide)]
  exact ⟨⟨rfl, hM⟩, rfl, hM⟩
theorem m_least {μ : Sm} {nh u j : Nat} {K : Nat → List Int32} (h : MI μ nh u K) (hj : j < nh) (hk : K j ≠ []) : ∃ v, v ∈ K j ∧ (∀ x ∈ K j, v ≤ x) ∧ (z_least μ (nI j)).1 = v.toInt64 ∧ MI (z_least μ (nI j)).2 nh u K := by
  have h8 := h.2.1
  have hu := h.2.2.2.1
  have e := is_yes (μ := z_untell μ) ((un_sem μ).1.trans h.1) h8 hj
  obtain ⟨p, p1, p2, p3, p4, p5⟩ := (place_un h (show j < 8 by omega)).2 hk
  refine ⟨_, p4, p5, ?_⟩
  have hM := MI_un h
  have b4 := (un_sem μ).2.2.2.1
  unfold z_least
  generalize z_untell μ = m1 at e p3 hM b4 ⊢
  simp only [e, p3]
  rw [if_neg (by decide), if_pos (nI_pos' (by omega)), nI_clamp (by omega), b4]
  exact ⟨rfl, hM⟩
theorem m_take {μ : Sm} {nh u j : Nat} {K : Nat → List Int32} (h : MI μ nh u K) (hj : j < nh) (hk : K j ≠ []) : ∃ v l, v ∈ K j ∧ (∀ x ∈ K j, v ≤ x) ∧ (z_take μ (nI j)).1 = v.toInt64 ∧ (K j).Perm (v :: l) ∧ MI (z_take μ (nI j)).2 nh (u - 1) (kup K j l) := by
  obtain ⟨a1, a2, a3, a4, a5⟩ := id h
  obtain ⟨b1, b2, b3, b4, -⟩ := un_sem μ
  have e := is_yes (μ := z_untell μ) (b1.trans a1) a2 hj
  obtain ⟨p, p1, p2, p3, p4, p5⟩ := (place_un h (show j < 8 by omega)).2 hk
  have hu1 : nI u - 1 = nI (u - 1) := by
    obtain ⟨m, hm⟩ : ∃ m, u = m + 1 := ⟨u - 1, by omega⟩
    rw [hm, nI_pred]
    rfl
  unfold z_take
  generalize z_untell μ = m1 at b1 b2 b3 b4 e p3 ⊢
  simp only [e, p3]
  rw [if_neg (by decide), if_pos (nI_pos' (by omega)), nI_clamp (by omega), b4]
  obtain ⟨m4, em⟩ : ∃ m4, m4 = z_sK (z_sO (z_sU m1 (m1.2.1 - 1)) (nI p) ((z_sU m1 (m1.2.1 - 1)).2.2.1 (z_sU m1 (m1.2.1 - 1)).2.1.toNatClampNeg)) (nI p) ((z_sO (z_sU m1 (m1.2.1 - 1)) (nI p) ((z_sU m1 (m1.2.1 - 1)).2.2.1 (z_sU m1 (m1.2.1 - 1)).2.1.toNatClampNeg)).2.2.2.1 (z_sO (z_sU m1 (m1.2.1 - 1)) (nI p) ((z_sU m1 (m1.2.1 - 1)).2.2.1 (z_sU m1 (m1.2.1 - 1)).2.1.toNatClampNeg)).2.1.toNatClampNeg) := ⟨_, rfl⟩
  have eu' : m1.2.1 - 1 = nI (u - 1) := by rw [b2, a3, hu1]
  have eu : m4.2.1 = nI (u - 1) := by rw [em]; exact eu'
  have eo : m4.2.2.1 = upd μ.2.2.1 p (μ.2.2.1 (u - 1)) := by
    rw [em]
    show upd m1.2.2.1 (nI p).toNatClampNeg (m1.2.2.1 (m1.2.1 - 1).toNatClampNeg) = _
    rw [b3, eu', nI_clamp (by omega), nI_clamp (by omega)]
  have ek : m4.2.2.2.1 = upd μ.2.2.2.1 p (μ.2.2.2.1 (u - 1)) := by
    rw [em]
    show upd m1.2.2.2.1 (nI p).toNatClampNeg (m1.2.2.2.1 (m1.2.1 - 1).toNatClampNeg) = _
    rw [b4, eu', nI_clamp (by omega), nI_clamp (by omega)]
  have e1 : m4.1 = nI nh := by rw [em]; exact b1.trans a1
  have eM : ∀ hh : Int32, (MK m4 (u - 1) hh ++ (if μ.2.2.1 p = hh then [μ.2.2.2.1 p] else [])).Perm (MK μ u hh) := fun hh => by
    obtain ⟨m, hm⟩ : ∃ m, u = m + 1 := ⟨u - 1, by omega⟩
    subst hm
    simp only [Nat.add_sub_cancel] at eo ek ⊢
    unfold MK
    rw [List.range_succ, List.flatMap_append, eo, ek]
    by_cases hpm : p = m
    · subst hpm
      simp only [List.flatMap_cons, List.flatMap_nil, List.append_nil]
      have : (List.range p).flatMap (fun i => if upd μ.2.2.1 p (μ.2.2.1 p) i = hh then [upd μ.2.2.2.1 p (μ.2.2.2.1 p) i] else []) = (List.range p).flatMap (fun i => if μ.2.2.1 i = hh then [μ.2.2.2.1 i] else []) := by
        apply fm_congr
        intro i hi
        have := List.mem_range.mp hi
        rw [pk_un (by omega), pk_un (by omega)]
      rw [this]
    · have h1 := fm_up (fun i => if μ.2.2.1 i = hh then [μ.2.2.2.1 i] else []) (fun i => if upd μ.2.2.1 p (μ.2.2.1 m) i = hh then [upd μ.2.2.2.1 p (μ.2.2.2.1 m) i] else []) p (List.range m) List.nodup_range (List.mem_range.mpr (by omega)) (fun i _ hi => by simp only [pk_un hi])
      simp only [pk_us] at h1
      refine h1.trans ?_
      simp only [List.flatMap_cons, List.flatMap_nil, List.append_nil]
      exact List.perm_append_comm
  have hKj := eM (nI j)
  rw [if_pos p2] at hKj
  refine ⟨μ.2.2.2.1 p, MK m4 (u - 1) (nI j), p4, p5, rfl, ?_, ?_⟩
  · refine (a5 j (by omega)).symm.trans (hKj.symm.trans ?_)
    exact List.perm_append_comm
  · rw [← em]
    refine ⟨e1, a2, eu, by omega, fun h' hh' => ?_⟩
    by_cases hne : h' = j
    · subst hne
      rw [kup_s]
    · rw [kup_n hne]
      have h1 := eM (nI h')
      rw [if_neg (by rw [p2]; exact fun q => hne (nI_inj (by omega) (by omega) q).symm), List.append_nil] at h1
      exact h1.trans (a5 h' hh')
