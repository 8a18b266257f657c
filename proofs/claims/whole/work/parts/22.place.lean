/-! a heap's cells; place, least root, the cut of a root, the placing of children -/
def hc (TT : Nat → Option Tr) (h : Nat) : List Nat := oc (TT (64 + h)) ++ (List.range 8).flatMap (fun r => oc (TT (8 * h + r)))
theorem hc_top {TT : Nat → Option Tr} {h r : Nat} {o : Option Tr} (hh : h < 8) (hr : r < 8) : (hc (up TT (8 * h + r) o) h ++ oc (TT (8 * h + r))).Perm (oc o ++ hc TT h) := by
  have h1 := fm_up (fun j => oc (TT (8 * h + j))) (fun j => oc (up TT (8 * h + r) o (8 * h + j))) r (List.range 8) List.nodup_range (List.mem_range.mpr hr) (fun j _ hj => by rw [up_n (by omega)])
  simp only [up_s] at h1
  unfold hc
  rw [up_n (by omega)]
  refine List.perm_iff_count.mpr fun a => ?_
  have h2 := h1.count_eq a
  simp only [List.count_append] at h2 ⊢
  omega
theorem hc_twin {TT : Nat → Option Tr} {h : Nat} {o : Option Tr} (hh : h < 8) : (hc (up TT (64 + h) o) h ++ oc (TT (64 + h))).Perm (oc o ++ hc TT h) := by
  unfold hc
  rw [up_s]
  have e : (List.range 8).flatMap (fun r => oc (up TT (64 + h) o (8 * h + r))) = (List.range 8).flatMap (fun r => oc (TT (8 * h + r))) := by
    apply fm_congr
    intro r hr
    have := List.mem_range.mp hr
    rw [up_n (by omega)]
  rw [e]
  refine List.perm_iff_count.mpr fun a => ?_
  simp only [List.count_append]
  omega
theorem hc_eq {TT TT' : Nat → Option Tr} {h : Nat} (hh : h < 8) (h1 : TT' (64 + h) = TT (64 + h)) (h2 : ∀ r, r < 8 → TT' (8 * h + r) = TT (8 * h + r)) : hc TT' h = hc TT h := by
  unfold hc
  rw [h1]
  congr 1
  apply fm_congr
  intro r hr
  rw [h2 r (List.mem_range.mp hr)]
theorem hc_mem {TT : Nat → Option Tr} {h c : Nat} (hh : h < 8) (hc0 : c ∈ hc TT h) : ∃ i t, i < 72 ∧ (i = 64 + h ∨ (8 * h ≤ i ∧ i < 8 * h + 8)) ∧ TT i = some t ∧ c ∈ tc t := by
  rcases List.mem_append.mp hc0 with h1 | h1
  · cases h2 : TT (64 + h) with
    | none => rw [h2] at h1; simp [oc] at h1
    | some t => rw [h2] at h1; exact ⟨64 + h, t, by omega, Or.inl rfl, h2, h1⟩
  · obtain ⟨r, hr, h1⟩ := List.mem_flatMap.mp h1
    have hr := List.mem_range.mp hr
    cases h2 : TT (8 * h + r) with
    | none => rw [h2] at h1; simp [oc] at h1
    | some t => rw [h2] at h1; exact ⟨8 * h + r, t, by omega, Or.inr ⟨by omega, by omega⟩, h2, h1⟩
theorem hc_in {TT : Nat → Option Tr} {h c i : Nat} {t : Tr} (hh : h < 8) (hi : i = 64 + h ∨ (8 * h ≤ i ∧ i < 8 * h + 8)) (ht : TT i = some t) (hc0 : c ∈ tc t) : c ∈ hc TT h := by
  rcases hi with rfl | hi
  · exact List.mem_append_left _ (by rw [ht]; exact hc0)
  · refine List.mem_append_right _ (List.mem_flatMap.mpr ⟨i - 8 * h, List.mem_range.mpr (by omega), ?_⟩)
    rw [show 8 * h + (i - 8 * h) = i by omega, ht]
    exact hc0
theorem hc_tcs {TT : Nat → Option Tr} {h c : Nat} (hh : h < 8) (hc0 : c ∈ hc TT h) : c ∈ tcs TT := by
  obtain ⟨i, t, hi, -, ht, hm⟩ := hc_mem hh hc0
  exact tcs_mem hi ht c hm
theorem x_cutTop_RS {σ : Sx} {f : Nat → Int32} {n h r : Nat} (hh : h < 8) (hr : r < 8) : x_cutTop (RS σ f n) (nI h) (nI r) = (f (1000 + (8 * h + r)), RS σ (upd f (1000 + (8 * h + r)) (-1)) (n + 2)) := by
  unfold x_cutTop
  simp only [ad_top, RS_read (show 1000 + (8 * h + r) < 1080 by omega), RS_write (show 1000 + (8 * h + r) < 1080 by omega)]
theorem x_cutTwin_RS {σ : Sx} {f : Nat → Int32} {n h : Nat} (hh : h < 8) : x_cutTwin (RS σ f n) (nI h) = (f (1000 + (64 + h)), RS σ (upd f (1000 + (64 + h)) (-1)) (n + 2)) := by
  unfold x_cutTwin
  simp only [ad_tw, RS_read (show 1064 + h < 1080 by omega), RS_write (show 1064 + h < 1080 by omega)]
  rw [show 1064 + h = 1000 + (64 + h) by omega]
theorem upd_same {f : Nat → Int32} {k : Nat} {v : Int32} (h : f k = v) : upd f k v = f := by
  funext j
  by_cases hj : j = k
  · subst hj; rw [pk_us, h]
  · rw [pk_un hj]
theorem PI_none {f : Nat → Int32} {TT : Nat → Option Tr} {hand : List Tr} {Z : List Nat} {i : Nat} (h : PI f TT hand Z) (hi : i < 72) (ht : TT i = none) : f (1000 + i) = -1 := by
  have := h.1 i hi
  rw [ht] at this
  exact this
theorem PI_some {f : Nat → Int32} {TT : Nat → Option Tr} {hand : List Tr} {Z : List Nat} {i : Nat} {t : Tr} (h : PI f TT hand Z) (hi : i < 72) (ht : TT i = some t) : f (1000 + i) = nI t.2.1 ∧ tok f t ∧ (i < 64 → t.1 = i % 8) := by
  have := h.1 i hi
  rw [ht] at this
  exact this
theorem place_L {σ : Sx} {h : Nat} {hand : List Tr} {Z : List Nat} (hh : h < 8) : ∀ (m : Nat) (f : Nat → Int32) (n : Nat) (TT : Nat → Option Tr) (t : Tr), PI f TT (t :: hand) Z → 8 < t.1 + m →
    ∃ (g : Nat → Int32) (n' : Nat) (TT' : Nat → Option Tr), x_placeL (nI h) m (RS σ f n) (nI t.2.1) (nI t.1) = RS σ g n' ∧ n' ≤ n + 9 * (8 - t.1) ∧ PI g TT' hand Z ∧ agr Z f g ∧ (hc TT' h).Perm (tc t ++ hc TT h) ∧ (∀ i, i < 8 * h ∨ 8 * h + 8 ≤ i → TT' i = TT i) ∧ (∀ k, k < 200 → g k = f k) ∧ ∀ k, 1064 ≤ k → g k = f k := by
  intro m
  induction m with
  | zero =>
    intro f n TT t h1 h2
    have := PI_rank h1
    omega
  | succ m ih =>
    intro f n TT t h1 h2
    have hr := PI_rank h1
    unfold x_placeL
    rw [if_neg (show ¬ (8 : Int32) ≤ nI t.1 from nI_ge (b := 8) hr (by omega)), x_cutTop_RS hh hr]
    simp only
    have hi : 8 * h + t.1 < 72 := by omega
    cases ht : TT (8 * h + t.1) with
    | none =>
      have e := PI_none h1 hi ht
      rw [if_pos e, upd_same e, ad_top, RS_write (by omega)]
      refine ⟨_, _, up TT (8 * h + t.1) (some t), rfl, by omega, PI_put h1 hi ht (fun _ => by omega), agr_hi h1.2.2.2.2 (by omega), ?_, fun i hi2 => up_n (by omega), fun k hk => pk_un (by omega), fun k hk => pk_un (by omega)⟩
      have h3 := hc_top (TT := TT) (o := some t) hh hr
      rw [ht] at h3
      simpa [oc] using h3
    | some t2 =>
      obtain ⟨e, htok, hrk⟩ := PI_some h1 hi ht
      have hrk2 : t2.1 = t.1 := by have := hrk (by omega); omega
      rw [if_neg (by rw [e]; exact nI_ne_m1 (by have := htok.1; omega)), e]
      have h3 := PI_cut h1 hi ht
      have h4 : PI (upd f (1000 + (8 * h + t.1)) (-1)) (up TT (8 * h + t.1) none) (t :: t2 :: hand) Z := by
        have hN : NL (Z ++ ((t :: t2 :: hand).flatMap tc ++ tcs (up TT (8 * h + t.1) none))) := by
          refine NL_perm ?_ (PI_NL h3)
          refine List.perm_iff_count.mpr fun a => ?_
          simp only [List.flatMap_cons, List.count_append]
          omega
        exact ⟨h3.1, fun x hx => h3.2.1 x (by simp only [List.mem_cons] at hx ⊢; rcases hx with rfl | rfl | hx <;> simp_all), hN.1, hN.2, h3.2.2.2.2⟩
      obtain ⟨g, t', el, hPI, hag, hrk3, hperm, -, hk1, hk2⟩ := PI_link (σ := σ) (n := n + 2) h4 hrk2.symm
      rw [el]
      simp only
      rw [nI_1, ← hrk3]
      obtain ⟨g', n', TT', e2, hn', hPI', hag', hperm', hout, hk1', hk2'⟩ := ih g (n + 2 + 7) _ t' hPI (by omega)
      refine ⟨g', n', TT', e2, by omega, hPI', agr_tr (agr_tr (agr_hi h1.2.2.2.2 (by omega)) hag) hag', ?_, fun i hi2 => (hout i hi2).trans (up_n (by omega)), fun k hk => by rw [hk1' k hk, hk1 k hk, pk_un (by omega)], fun k hk => by rw [hk2' k hk, hk2 k (by omega), pk_un (by omega)]⟩
      have h5 := hc_top (TT := TT) (o := none) hh hr
      rw [ht] at h5
      refine List.perm_iff_count.mpr fun a => ?_
      have c1 := hperm'.count_eq a
      have c2 := hperm.count_eq a
      have c3 := h5.count_eq a
      simp only [List.count_append, oc, List.count_nil] at c1 c2 c3 ⊢
      omega
theorem place_RS {σ : Sx} {f : Nat → Int32} {n h : Nat} {TT : Nat → Option Tr} {hand : List Tr} {Z : List Nat} {t : Tr} (hh : h < 8) (h1 : PI f TT (t :: hand) Z) :
    ∃ (g : Nat → Int32) (n' : Nat) (TT' : Nat → Option Tr), x_place (RS σ f n) (nI h) (nI t.2.1) = RS σ g n' ∧ n' ≤ n + 73 ∧ PI g TT' hand Z ∧ agr Z f g ∧ (hc TT' h).Perm (tc t ++ hc TT h) ∧ (∀ i, i < 8 * h ∨ 8 * h + 8 ≤ i → TT' i = TT i) ∧ (∀ k, k < 200 → g k = f k) ∧ ∀ k, 1064 ≤ k → g k = f k := by
  have htok := h1.2.1 t List.mem_cons_self
  have hlt := htok.1
  have hr := PI_rank h1
  unfold x_place
  rw [if_neg (nI_ne_m1 (by omega)), ad_200, RS_read (by omega)]
  simp only
  rw [htok.2.1]
  have e : (8 - (nI t.1).toInt).toNat + 1 = 9 - t.1 := by rw [nI_toInt (by omega)]; omega
  rw [e]
  obtain ⟨g, n', TT', a1, a2, a3⟩ := place_L (σ := σ) hh (9 - t.1) f (n + 1) TT t h1 (by omega)
  exact ⟨g, n', TT', a1, by omega, a3⟩
theorem place_nil {σ : Sx} {h : Int32} : x_place σ h (-1) = σ := by
  unfold x_place
  rw [if_pos rfl]
