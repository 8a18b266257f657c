/-! the reference's meld, key, sum -/
theorem me_sem {to fr : Nat} {u : Nat} (hu : u ≤ 200) (ht : to < 8) (hf : fr < 8) : ∀ (m i : Nat) (μ : Sm), i + m = u → μ.2.1 = nI u →
    (z_meL (nI to) (nI fr) (m + 1) μ (nI i)).1 = μ.1 ∧ (z_meL (nI to) (nI fr) (m + 1) μ (nI i)).2.1 = μ.2.1 ∧ (z_meL (nI to) (nI fr) (m + 1) μ (nI i)).2.2.2.1 = μ.2.2.2.1 ∧ (∀ j, j < i → (z_meL (nI to) (nI fr) (m + 1) μ (nI i)).2.2.1 j = μ.2.2.1 j) ∧ ∀ j, i ≤ j → j < u → (z_meL (nI to) (nI fr) (m + 1) μ (nI i)).2.2.1 j = if μ.2.2.1 j = nI fr then nI to else μ.2.2.1 j := by
  intro m
  induction m with
  | zero =>
    intro i μ hi e
    unfold z_meL
    rw [if_pos (by rw [e]; exact nI_le (by omega) (by omega))]
    exact ⟨rfl, rfl, rfl, fun _ _ => rfl, fun j h1 h2 => by omega⟩
  | succ m ih =>
    intro i μ hi e
    unfold z_meL
    rw [if_neg (by rw [e]; exact nI_ge (by omega) (by omega)), nI_1]
    have key : ∀ v : Int32, v = (if μ.2.2.1 i = nI fr then nI to else μ.2.2.1 i) →
        (z_meL (nI to) (nI fr) (m + 1) (z_sO μ (nI i) v) (nI (i + 1))).1 = μ.1 ∧ (z_meL (nI to) (nI fr) (m + 1) (z_sO μ (nI i) v) (nI (i + 1))).2.1 = μ.2.1 ∧ (z_meL (nI to) (nI fr) (m + 1) (z_sO μ (nI i) v) (nI (i + 1))).2.2.2.1 = μ.2.2.2.1 ∧ (∀ j, j < i → (z_meL (nI to) (nI fr) (m + 1) (z_sO μ (nI i) v) (nI (i + 1))).2.2.1 j = μ.2.2.1 j) ∧ ∀ j, i ≤ j → j < u → (z_meL (nI to) (nI fr) (m + 1) (z_sO μ (nI i) v) (nI (i + 1))).2.2.1 j = if μ.2.2.1 j = nI fr then nI to else μ.2.2.1 j := fun v hv => by
      obtain ⟨c1, c2, c3, c4, c5⟩ := ih (i + 1) (z_sO μ (nI i) v) (by omega) e
      have eo : ∀ j, (z_sO μ (nI i) v).2.2.1 j = upd μ.2.2.1 i v j := fun j => by
        show upd μ.2.2.1 (nI i).toNatClampNeg v j = _
        rw [nI_clamp (by omega)]
      refine ⟨c1, c2, c3, fun j hj => ?_, fun j h1 h2 => ?_⟩
      · rw [c4 j (by omega), eo, pk_un (by omega)]
      · by_cases hji : j = i
        · subst hji
          rw [c4 j (by omega), eo, pk_us, hv]
        · rw [c5 j (by omega) h2, eo, pk_un hji]
    by_cases ho : μ.2.2.1 (nI i).toNatClampNeg = nI fr
    · rw [if_pos ho]
      rw [nI_clamp (by omega)] at ho
      exact key (nI to) (by rw [if_pos ho])
    · rw [if_neg ho]
      rw [nI_clamp (by omega)] at ho ⊢
      exact key (μ.2.2.1 i) (by rw [if_neg ho])
theorem m_meld_no {μ : Sm} {nh u : Nat} {K : Nat → List Int32} {a b : Int32} (h : MI μ nh u K) (hab : (a < 0 ∨ nI nh ≤ a) ∨ (b < 0 ∨ nI nh ≤ b) ∨ a = b) : z_meld μ a b = (-1, μ) := by
  unfold z_meld
  split
  · rfl
  · split
    · rfl
    · rename_i h1 h2
      rcases hab with ha | hb | hab
      · exact absurd (is_no h.1 ha) h1
      · exact absurd (is_no h.1 hb) h2
      · rw [if_pos hab]
theorem m_meld {μ : Sm} {nh u i j : Nat} {K : Nat → List Int32} (h : MI μ nh u K) (hi : i < nh) (hj : j < nh) (hij : i ≠ j) : (z_meld μ (nI i) (nI j)).1 = nI ((K i).length + (K j).length) ∧ MI (z_meld μ (nI i) (nI j)).2 nh u (kup (kup K i (K i ++ K j)) j []) := by
  obtain ⟨a1, a2, a3, a4, a5⟩ := id h
  have hne : ¬ nI i = nI j := fun q => hij (nI_inj (by omega) (by omega) q)
  unfold z_meld
  rw [is_yes a1 a2 hi, is_yes a1 a2 hj, if_neg (by decide), if_neg (by decide), if_neg hne]
  simp only
  obtain ⟨c1, c2, c3, c4, c5⟩ := me_sem (to := i) (fr := j) a4 (by omega) (by omega) u 0 μ (by omega) a3
  have ef : μ.2.1.toInt.toNat + 1 = u + 1 := by rw [a3, nI_toInt (by omega), Int.toNat_natCast]
  rw [ef, ← nI_0]
  generalize z_meL (nI i) (nI j) (u + 1) μ (nI 0) = m1 at c1 c2 c3 c4 c5 ⊢
  have eu : m1.2.1 = nI u := c2.trans a3
  have eM : ∀ h', (MK m1 u h').Perm (if h' = nI i then MK μ u (nI i) ++ MK μ u (nI j) else if h' = nI j then [] else MK μ u h') := fun h' => by
    have e1 : MK m1 u h' = (List.range u).flatMap (fun k => if (if μ.2.2.1 k = nI j then nI i else μ.2.2.1 k) = h' then [μ.2.2.2.1 k] else []) := by
      unfold MK
      rw [c3]
      apply fm_congr
      intro k hk
      rw [c5 k (by omega) (List.mem_range.mp hk)]
    rw [e1]
    unfold MK
    generalize List.range u = l
    induction l with
    | nil => split <;> simp
    | cons k l ih =>
      simp only [List.flatMap_cons]
      by_cases q1 : h' = nI i
      · subst q1
        rw [if_pos rfl] at ih ⊢
        refine List.perm_iff_count.mpr fun x => ?_
        have := ih.count_eq x
        simp only [List.count_append] at this ⊢
        by_cases o1 : μ.2.2.1 k = nI j
        · simp only [o1, if_true, if_neg (fun q => hne (Eq.symm q) : ¬ nI j = nI i)]
          simp only [List.count_cons, List.count_nil] at this ⊢
          omega
        · by_cases o2 : μ.2.2.1 k = nI i
          · simp only [o2, if_neg hne, if_true]
            simp only [List.count_cons, List.count_nil] at this ⊢
            omega
          · simp only [o1, o2, if_false]
            simp only [List.count_nil] at this ⊢
            omega
      · rw [if_neg q1] at ih ⊢
        by_cases q2 : h' = nI j
        · subst q2
          rw [if_pos rfl] at ih ⊢
          have hz : (if (if μ.2.2.1 k = nI j then nI i else μ.2.2.1 k) = nI j then [μ.2.2.2.1 k] else []) = [] := by
            by_cases o1 : μ.2.2.1 k = nI j
            · rw [if_pos o1, if_neg hne]
            · rw [if_neg o1, if_neg o1]
          rw [hz, List.nil_append]
          exact ih
        · rw [if_neg q2] at ih ⊢
          have hz : (if (if μ.2.2.1 k = nI j then nI i else μ.2.2.1 k) = h' then [μ.2.2.2.1 k] else []) = (if μ.2.2.1 k = h' then [μ.2.2.2.1 k] else []) := by
            by_cases o1 : μ.2.2.1 k = nI j
            · rw [if_pos o1, if_neg (fun q => q1 q.symm), if_neg (fun q => q2 (q.symm.trans o1))]
            · rw [if_neg o1]
          rw [hz]
          exact ih.append_left _
  have hP : ∀ h', h' < 8 → (MK m1 u (nI h')).Perm (kup (kup K i (K i ++ K j)) j [] h') := fun h' hh' => by
    refine (eM (nI h')).trans ?_
    by_cases q2 : h' = j
    · subst q2
      rw [kup_s, if_neg (fun q => hne q.symm), if_pos rfl]
    · rw [kup_n q2]
      by_cases q1 : h' = i
      · subst q1
        rw [kup_s, if_pos rfl]
        exact (a5 h' hh').append (a5 j (by omega))
      · rw [kup_n q1, if_neg (fun q => q1 (nI_inj (by omega) (by omega) q)), if_neg (fun q => q2 (nI_inj (by omega) (by omega) q))]
        exact a5 h' hh'
  refine ⟨?_, c1.trans a1, a2, eu, a4, hP⟩
  rw [sz_sem a4 eu, (hP i (by omega)).length_eq, kup_n hij, kup_s, List.length_append]
theorem su_no {μ : Sm} {h : Int32} {u : Nat} (hu : u ≤ 200) (e : μ.2.1 = nI u) (hi : z_is μ h = 0) : ∀ (m i : Nat) (t : Int64), i + m = u → z_suL μ h (m + 1) t (nI i) = t := by
  intro m
  induction m with
  | zero =>
    intro i t hi2
    unfold z_suL
    rw [if_pos (by rw [e]; exact nI_le (by omega) (by omega))]
  | succ m ih =>
    intro i t hi2
    unfold z_suL
    rw [if_neg (by rw [e]; exact nI_ge (by omega) (by omega)), if_pos hi, nI_1, Int64.add_zero]
    exact ih (i + 1) t (by omega)
theorem su_yes {μ : Sm} {h : Int32} {u : Nat} (hu : u ≤ 200) (e : μ.2.1 = nI u) (hi : z_is μ h = 1) : ∀ (m i : Nat) (t : Int64), i + m = u → z_suL μ h (m + 1) t (nI i) = t + lsum ((List.range' i m).flatMap (fun i => if μ.2.2.1 i = h then [μ.2.2.2.1 i] else [])) := by
  intro m
  induction m with
  | zero =>
    intro i t hi2
    unfold z_suL
    rw [if_pos (by rw [e]; exact nI_le (by omega) (by omega))]
    simp [lsum]
  | succ m ih =>
    intro i t hi2
    unfold z_suL
    rw [if_neg (by rw [e]; exact nI_ge (by omega) (by omega)), if_neg (by rw [hi]; decide), nI_clamp (by omega), nI_1, List.range'_succ, List.flatMap_cons]
    by_cases ho : μ.2.2.1 i = h
    · rw [if_pos ho, ih (i + 1) _ (by omega), if_pos ho]
      simp [lsum, Int64.add_assoc]
    · rw [if_neg ho, ih (i + 1) _ (by omega), if_neg ho]
      simp
theorem m_sum {μ : Sm} {nh u : Nat} {K : Nat → List Int32} (h : MI μ nh u K) (a : Int32) : ((a < 0 ∨ nI nh ≤ a) → z_sum μ a = (0, μ)) ∧ ∀ j, j < nh → a = nI j → z_sum μ a = (lsum (K j), μ) := by
  obtain ⟨a1, a2, a3, a4, a5⟩ := id h
  have ef : μ.2.1.toInt.toNat + 1 = u + 1 := by rw [a3, nI_toInt (by omega), Int.toNat_natCast]
  unfold z_sum
  rw [ef, ← nI_0]
  refine ⟨fun ha => by rw [su_no a4 a3 (is_no a1 ha) u 0 0 (by omega)], fun j hj e => ?_⟩
  subst e
  rw [su_yes a4 a3 (is_yes a1 a2 hj) u 0 0 (by omega), Int64.zero_add, ← List.range_eq_range', ← lsum_perm (a5 j (by omega))]
  rfl
theorem m_free {μ : Sm} {nh u : Nat} {K : Nat → List Int32} (h : MI μ nh u K) : z_free μ = (nI (200 - u), μ) := by
  obtain ⟨a1, a2, a3, a4, a5⟩ := id h
  unfold z_free
  rw [a3]
  show (nI 200 - nI u, μ) = _
  rw [pk_sub (by omega)]
/-- the keys that are told, and those that are not -/
def TK (μ : Sm) (u : Nat) (h : Int32) : List Int32 := (List.range u).flatMap (fun i => if μ.2.2.1 i = h ∧ ¬ μ.2.2.2.2 i = 0 then [μ.2.2.2.1 i] else [])
def UK (μ : Sm) (u : Nat) (h : Int32) : List Int32 := (List.range u).flatMap (fun i => if μ.2.2.1 i = h ∧ μ.2.2.2.2 i = 0 then [μ.2.2.2.1 i] else [])
theorem TU_perm (μ : Sm) (u : Nat) (h : Int32) : (TK μ u h ++ UK μ u h).Perm (MK μ u h) := by
  unfold TK UK MK
  generalize List.range u = l
  induction l with
  | nil => simp
  | cons k l ih =>
    simp only [List.flatMap_cons]
    refine List.perm_iff_count.mpr fun x => ?_
    have := ih.count_eq x
    simp only [List.count_append] at this ⊢
    by_cases o1 : μ.2.2.1 k = h
    · by_cases o2 : μ.2.2.2.2 k = 0
      · rw [if_neg (fun q => q.2 o2), if_pos ⟨o1, o2⟩, if_pos o1]
        simp only [List.count_nil] at this ⊢
        omega
      · rw [if_pos ⟨o1, o2⟩, if_neg (fun q => o2 q.2), if_pos o1]
        simp only [List.count_nil] at this ⊢
        omega
    · rw [if_neg (fun q => o1 q.1), if_neg (fun q => o1 q.1), if_neg o1]
      simp only [List.count_nil] at this ⊢
      omega
/-- k of a heap's keys are told, the least ones -/
def keI (μ : Sm) (u : Nat) (h : Int32) (k : Nat) : Prop := (TK μ u h).length = k ∧ ∀ x ∈ TK μ u h, ∀ y ∈ UK μ u h, x ≤ y
theorem UK_mem {μ : Sm} {u : Nat} {h x : Int32} : x ∈ UK μ u h ↔ ∃ i, i < u ∧ cand μ h i ∧ μ.2.2.2.1 i = x := by
  unfold UK cand
  rw [List.mem_flatMap]
  constructor
  · rintro ⟨i, hi, hx⟩
    by_cases ho : μ.2.2.1 i = h ∧ μ.2.2.2.2 i = 0
    · rw [if_pos ho] at hx
      exact ⟨i, List.mem_range.mp hi, ho, (List.mem_singleton.mp hx).symm⟩
    · rw [if_neg ho] at hx
      simp at hx
  · rintro ⟨i, hi, ho, rfl⟩
    exact ⟨i, List.mem_range.mpr hi, by rw [if_pos ho]; exact List.mem_singleton.mpr rfl⟩
/-- where a key is left untold, placeOf finds the least of them; telling it keeps the order -/
theorem ke_step {μ : Sm} {u k : Nat} {h : Int32} (hu : u ≤ 200) (e : μ.2.1 = nI u) (hI : keI μ u h k) (hk : k < (MK μ u h).length) : ∃ p, p < u ∧ z_place μ h = nI p ∧ μ.2.2.2.1 p ∈ UK μ u h ∧ (∀ y ∈ UK μ u h, μ.2.2.2.1 p ≤ y) ∧ keI (z_sT μ (nI p) 1) u h (k + 1) := by
  have hlen := (TU_perm μ u h).length_eq
  rw [List.length_append, hI.1] at hlen
  rcases place_sem (h := h) hu e with ⟨-, hp⟩ | ⟨p, p1, p2, p3, p4⟩
  · exfalso
    have : UK μ u h = [] := by
      rw [List.eq_nil_iff_forall_not_mem]
      intro x hx
      obtain ⟨i, hi, hc1, -⟩ := UK_mem.mp hx
      exact hp i hi hc1
    rw [this] at hlen
    simp at hlen
    omega
  · have hmin : ∀ y ∈ UK μ u h, μ.2.2.2.1 p ≤ y := fun y hy => by
      obtain ⟨i, hi, hc1, rfl⟩ := UK_mem.mp hy
      exact p4 i hi hc1
    have hpU : μ.2.2.2.1 p ∈ UK μ u h := UK_mem.mpr ⟨p, p1, p2, rfl⟩
    have et : (z_sT μ (nI p) 1).2.2.2.2 = upd μ.2.2.2.2 p 1 := by
      show upd μ.2.2.2.2 (nI p).toNatClampNeg (vp_nar .boolean 1) = _
      rw [nI_clamp (by omega), nar1]
    have eo : (z_sT μ (nI p) 1).2.2.1 = μ.2.2.1 := rfl
    have ek : (z_sT μ (nI p) 1).2.2.2.1 = μ.2.2.2.1 := rfl
    have hT : (TK (z_sT μ (nI p) 1) u h).Perm (μ.2.2.2.1 p :: TK μ u h) := by
      unfold TK
      rw [et, eo, ek]
      have h1 := fm_up (fun i => if μ.2.2.1 i = h ∧ ¬ μ.2.2.2.2 i = 0 then [μ.2.2.2.1 i] else []) (fun i => if μ.2.2.1 i = h ∧ ¬ upd μ.2.2.2.2 p 1 i = 0 then [μ.2.2.2.1 i] else []) p (List.range u) List.nodup_range (List.mem_range.mpr p1) (fun i _ hi => by simp only [pk_un hi])
      simp only [pk_us, p2.1, p2.2] at h1
      simpa using h1
    have hU : (μ.2.2.2.1 p :: UK (z_sT μ (nI p) 1) u h).Perm (UK μ u h) := by
      unfold UK
      rw [et, eo, ek]
      have h1 := fm_up (fun i => if μ.2.2.1 i = h ∧ μ.2.2.2.2 i = 0 then [μ.2.2.2.1 i] else []) (fun i => if μ.2.2.1 i = h ∧ upd μ.2.2.2.2 p 1 i = 0 then [μ.2.2.2.1 i] else []) p (List.range u) List.nodup_range (List.mem_range.mpr p1) (fun i _ hi => by simp only [pk_un hi])
      simp only [pk_us, p2.1, p2.2] at h1
      refine (List.perm_append_comm (l₁ := [μ.2.2.2.1 p])).trans ?_
      have h2 : ((List.range u).flatMap (fun i => if μ.2.2.1 i = h ∧ upd μ.2.2.2.2 p 1 i = 0 then [μ.2.2.2.1 i] else []) ++ [μ.2.2.2.1 p]).Perm ((List.range u).flatMap (fun i => if μ.2.2.1 i = h ∧ μ.2.2.2.2 i = 0 then [μ.2.2.2.1 i] else [])) := by simpa using h1
      exact h2
    refine ⟨p, p1, p3, hpU, hmin, ?_, fun x hx y hy => ?_⟩
    · rw [hT.length_eq, List.length_cons, hI.1]
    · have hy2 : y ∈ UK μ u h := hU.mem_iff.mp (List.mem_cons_of_mem _ hy)
      rcases List.mem_cons.mp (hT.mem_iff.mp hx) with rfl | hx
      · exact hmin y hy2
      · exact hI.2 x hx y hy2
theorem ke_L {h : Int32} {u k : Nat} (hu : u ≤ 200) (hk2 : k < 2 ^ 31) : ∀ (m i : Nat) (μ : Sm), i + m = k → μ.2.1 = nI u → keI μ u h i → k < (MK μ u h).length →
    z_keOk h (nI k) (m + 1) μ (nI i) ∧ ∃ m1, z_keL h (nI k) (m + 1) μ (nI i) = m1 ∧ m1.1 = μ.1 ∧ m1.2.1 = μ.2.1 ∧ m1.2.2.1 = μ.2.2.1 ∧ m1.2.2.2.1 = μ.2.2.2.1 ∧ keI m1 u h k := by
  intro m
  induction m with
  | zero =>
    intro i μ hi e hI hk
    obtain rfl : i = k := by omega
    obtain ⟨p, p1, p2, -⟩ := ke_step hu e hI hk
    unfold z_keOk z_keL
    rw [if_pos (Int32.le_refl _), p2]
    exact ⟨⟨vp_in_nI (by omega) (by omega), Or.inl (Int32.le_refl _)⟩, μ, rfl, rfl, rfl, rfl, rfl, hI⟩
  | succ m ih =>
    intro i μ hi e hI hk
    obtain ⟨p, p1, p2, p3, p4, p5⟩ := ke_step hu e hI (by omega)
    unfold z_keOk z_keL
    rw [if_neg (nI_ge (by omega) (by omega)), p2, nI_1]
    obtain ⟨c1, m1, c2, c3, c4, c5, c6, c7⟩ := ih (i + 1) (z_sT μ (nI p) 1) (by omega) e p5 hk
    exact ⟨⟨vp_in_nI (by omega) (by omega), Or.inr c1⟩, m1, c2, c3, c4, c5, c6, c7⟩
theorem ke_0 {μ : Sm} {u : Nat} (h : Int32) (hu : u ≤ 200) (ht : ∀ j, j < 200 → μ.2.2.2.2 j = 0) : keI μ u h 0 := by
  have : TK μ u h = [] := by
    unfold TK
    rw [List.flatMap_eq_nil_iff]
    intro i hi
    have := List.mem_range.mp hi
    rw [if_neg (fun q => q.2 (ht i (by omega)))]
  unfold keI
  rw [this]
  exact ⟨rfl, fun x hx => by simp at hx⟩
theorem MK_len (μ : Sm) (u : Nat) (a : Int32) : (MK μ u a).length ≤ u := by
  unfold MK
  rw [List.length_flatMap]
  have : ∀ l : List Nat, (l.map (fun i => (if μ.2.2.1 i = a then [μ.2.2.2.1 i] else []).length)).sum ≤ l.length := fun l => by
    induction l with
    | nil => simp
    | cons x l ih =>
      simp only [List.map_cons, List.sum_cons, List.length_cons]
      have : (if μ.2.2.1 x = a then [μ.2.2.2.1 x] else []).length ≤ 1 := by split <;> simp
      omega
  have := this (List.range u)
  rw [List.length_range] at this
  exact this
/-- what key's places need; what key answers -/
theorem m_key_ok {μ : Sm} {nh u : Nat} {K : Nat → List Int32} (h : MI μ nh u K) (a k : Int32) : ¬ z_is μ a = 0 → ¬ k < 0 → k < z_size μ a → z_keOk a k (k.toInt.toNat + 1) (z_untell μ) 0 := by
  intro h1 h2 h3
  obtain ⟨a1, a2, a3, a4, a5⟩ := id h
  obtain ⟨b1, b2, b3, b4, b5⟩ := un_sem μ
  obtain ⟨i, hi, rfl⟩ := nI_of h2
  rw [sz_sem a4 a3] at h3
  have hlen := MK_len μ u a
  have h3 := (nI_ltI hi (by omega)).mp h3
  have hmk : MK (z_untell μ) u a = MK μ u a := by unfold MK; rw [b3, b4]
  rw [nI_toInt hi, Int.toNat_natCast, ← nI_0]
  exact (ke_L a4 hi i 0 (z_untell μ) (by omega) (b2.trans a3) (ke_0 a a4 b5) (by rw [hmk]; exact h3)).1
theorem m_key {μ : Sm} {nh u : Nat} {K : Nat → List Int32} (h : MI μ nh u K) (a k : Int32) : MI (z_key μ a k).2 nh u K ∧ ((k < 0 ∨ a < 0 ∨ nI nh ≤ a ∨ ∃ j, j < nh ∧ a = nI j ∧ nI (K j).length ≤ k) → (z_key μ a k).1 = -9223372036854775808) ∧ ∀ j i, j < nh → a = nI j → i < (K j).length → k = nI i → cle (K j) ((z_key μ a k).1.toInt - 1) ≤ i ∧ i < cle (K j) (z_key μ a k).1.toInt := by
  obtain ⟨a1, a2, a3, a4, a5⟩ := id h
  obtain ⟨b1, b2, b3, b4, b5⟩ := un_sem μ
  have hmk : ∀ a, MK (z_untell μ) u a = MK μ u a := fun a => by unfold MK; rw [b3, b4]
  have hun := MI_un h
  unfold z_key
  generalize z_untell μ = m0 at b1 b2 b3 b4 b5 hmk hun ⊢
  rcases pk_ix a (n := nh) (by omega) with ha | ha | ⟨j, hj, rfl⟩
  · rw [is_no a1 (Or.inl ha), if_pos rfl]
    exact ⟨h, fun _ => rfl, fun j i hj e => by rw [e] at ha; exact absurd ha (nI_pos (by omega))⟩
  · rw [is_no a1 (Or.inr ha), if_pos rfl]
    exact ⟨h, fun _ => rfl, fun j i hj e => by rw [e] at ha; exact absurd ha (nI_ge hj (by omega))⟩
  · have hKl := (a5 j (by omega)).length_eq
    have hlen := MK_len μ u (nI j)
    rw [is_yes a1 a2 hj, if_neg (by decide)]
    by_cases hk : k < 0
    · rw [if_pos hk]
      refine ⟨h, fun _ => rfl, fun j' i _ e1 hi e => ?_⟩
      exfalso
      have := nI_inj (by omega) (by omega) e1
      subst this
      rw [e] at hk
      exact nI_pos (by omega) hk
    · rw [if_neg hk, sz_sem a4 a3, hKl]
      obtain ⟨i, hi, rfl⟩ := nI_of hk
      by_cases hlt : i < (K j).length
      · rw [if_pos (nI_lt hlt (by omega))]
        have ef : (nI i).toInt.toNat + 1 = i + 1 := by rw [nI_toInt hi, Int.toNat_natCast]
        rw [ef, ← nI_0]
        obtain ⟨-, m1, c2, c3, c4, c5, c6, c7⟩ := ke_L (h := nI j) a4 hi i 0 m0 (by omega) (b2.trans a3) (ke_0 (nI j) a4 b5) (by rw [hmk, hKl]; exact hlt)
        rw [c2]
        have hmk1 : ∀ a, MK m1 u a = MK μ u a := fun a => by rw [← hmk a]; unfold MK; rw [c5, c6]
        obtain ⟨p, p1, p2, p3, p4, -⟩ := ke_step a4 (c4.trans (b2.trans a3)) c7 (by rw [hmk1, hKl]; exact hlt)
        simp only
        rw [p2, nI_clamp (by omega)]
        refine ⟨⟨c3.trans (b1.trans a1), a2, c4.trans (b2.trans a3), a4, fun h' hh' => by rw [hmk1]; exact a5 h' hh'⟩, fun hb => ?_, fun j' i' _ e1 hi' e2 => ?_⟩
        · exfalso
          rcases hb with hb | hb | hb | ⟨j', _, e1, hb⟩
          · exact hk hb
          · exact nI_pos (by omega) hb
          · exact nI_ge hj (by omega) hb
          · have := nI_inj (by omega) (by omega) e1
            subst this
            exact nI_ge hlt (by omega) hb
        · have := nI_inj (by omega) (by omega) e1
          subst this
          have := nI_inj (by omega) (by omega) e2
          subst this
          have hp := (TU_perm m1 u (nI j)).trans ((by rw [hmk1] : (MK m1 u (nI j)).Perm (MK μ u (nI j))).trans (a5 j (by omega)))
          rw [Int32.toInt_toInt64, ← cle_perm hp, ← cle_perm hp]
          unfold cle
          rw [List.countP_append, List.countP_append]
          have q1 : (UK m1 u (nI j)).countP (fun x => decide (x.toInt ≤ (m1.2.2.2.1 p).toInt - 1)) = 0 := by
            rw [List.countP_eq_zero]
            intro x hx
            have := Int32.le_iff_toInt_le.mp (p4 x hx)
            simp
            omega
          have q2 : (TK m1 u (nI j)).countP (fun x => decide (x.toInt ≤ (m1.2.2.2.1 p).toInt)) = (TK m1 u (nI j)).length := by
            rw [List.countP_eq_length]
            intro x hx
            have := Int32.le_iff_toInt_le.mp (c7.2 x hx _ p3)
            simp
            exact this
          have q3 : 0 < (UK m1 u (nI j)).countP (fun x => decide (x.toInt ≤ (m1.2.2.2.1 p).toInt)) := by
            rw [List.countP_pos_iff]
            exact ⟨_, p3, by simp⟩
          have q4 := List.countP_le_length (p := fun x : Int32 => decide (x.toInt ≤ (m1.2.2.2.1 p).toInt - 1)) (l := TK m1 u (nI j))
          have q5 := c7.1
          omega
      · rw [if_neg (nI_nlt (by omega) (by omega))]
        refine ⟨h, fun _ => rfl, fun j' i' _ e1 hi' e2 => ?_⟩
        exfalso
        have := nI_inj (by omega) (by omega) e1
        subst this
        have := nI_inj (by omega) (by omega) e2
        omega
