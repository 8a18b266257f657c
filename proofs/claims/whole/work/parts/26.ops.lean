/-! what holds between calls, and what the calls of SkewMelds do, in terms of the keys of each heap -/
def flc (f : Nat → Int32) : List Nat → Int32 → Prop
  | [], p => p = -1
  | c :: l, p => p = nI c ∧ flc f l (f (600 + c))
theorem flc_agr {f g : Nat → Int32} : ∀ (l : List Nat) (p : Int32), agr l f g → flc f l p → flc g l p := by
  intro l
  induction l with
  | nil => intro p _ h; exact h
  | cons c l ih =>
    intro p hz h
    refine ⟨h.1, ?_⟩
    rw [(hz c List.mem_cons_self).2.2.2]
    exact ih _ (agr_sub hz (fun x hx => List.mem_cons_of_mem _ hx)) h.2
def XI (σ : Sx) (nh u : Nat) (K : Nat → List Int32) : Prop :=
  ∃ (TT : Nat → Option Tr) (fl : List Nat), PI σ.1 TT [] fl ∧ flc σ.1 fl σ.2.2.2.1 ∧ σ.2.2.1 = nI fl.length ∧ fl.length + u = 200 ∧ σ.2.1 = nI nh ∧ nh ≤ 8 ∧ (∀ h, h < 8 → TW TT h) ∧ (∀ h, h < 8 → σ.1 (1072 + h) = nI (hc TT h).length) ∧ (∀ h, h < 8 → nh ≤ h → K h = []) ∧ ∀ h, h < 8 → ((hc TT h).map σ.1).Perm (K h)
/-- the latest call took few steps -/
def XF (σ : Sx) : Prop := ¬ σ.2.2.2.2.2 < σ.2.2.2.2.1
theorem XI_eq {σ σ' : Sx} {nh u : Nat} {K : Nat → List Int32} (h : XI σ nh u K) (h1 : σ'.1 = σ.1) (h2 : σ'.2.1 = σ.2.1) (h3 : σ'.2.2.1 = σ.2.2.1) (h4 : σ'.2.2.2.1 = σ.2.2.2.1) : XI σ' nh u K := by
  unfold XI at h ⊢
  rw [h1, h2, h3, h4]
  exact h
theorem XI_nh {σ : Sx} {nh u : Nat} {K : Nat → List Int32} (h : XI σ nh u K) : nh ≤ 8 ∧ u ≤ 200 ∧ σ.2.1 = nI nh := by
  obtain ⟨TT, fl, -, -, -, a, b, c, -⟩ := h
  exact ⟨c, by omega, b⟩
theorem XI_len {σ : Sx} {nh u : Nat} {K : Nat → List Int32} {j : Nat} (h : XI σ nh u K) (hj : j < 8) : (K j).length ≤ 200 ∧ σ.1 (1072 + j) = nI (K j).length := by
  obtain ⟨TT, fl, hP, -, -, -, -, -, -, hs, -, hk⟩ := h
  have h1 := (hk j hj).length_eq
  rw [List.length_map] at h1
  have h2 := hc_len hj hP
  exact ⟨by omega, by rw [hs j hj, h1]⟩
theorem ex_yes {σ : Sx} {nh j : Nat} (h : σ.2.1 = nI nh) (hn : nh ≤ 8) (hj : j < nh) : x_ex σ (nI j) = 1 := by
  unfold x_ex
  rw [if_neg (nI_pos (by omega)), h, if_neg (nI_ge hj (by omega))]
theorem ex_no {σ : Sx} {nh : Nat} {a : Int32} (h : σ.2.1 = nI nh) (ha : a < 0 ∨ nI nh ≤ a) : x_ex σ a = 0 := by
  unfold x_ex
  rcases ha with ha | ha
  · rw [if_pos ha]
  · split
    · rfl
    · rw [h, if_pos ha]
theorem XF_max (σ : Sx) : XF (x_begin σ 2147483647) := by
  show ¬ (2147483647 : Int32) < 0
  decide
theorem XF_of {σ : Sx} {f : Nat → Int32} {n L : Nat} (h0 : σ.2.2.2.2.1 = 0) (hl : σ.2.2.2.2.2 = nI L) (hL : L < 2 ^ 31) (hn : n ≤ L) : XF (RS σ f n) := by
  unfold XF
  show ¬ σ.2.2.2.2.2 < σ.2.2.2.2.1 + nI n
  rw [h0, hl, Int32.zero_add]
  exact nI_nlt hn hL
theorem RS_max {σ : Sx} {f : Nat → Int32} {n : Nat} (hl : σ.2.2.2.2.2 = 2147483647) : XF (RS σ f n) := by
  unfold XF
  show ¬ σ.2.2.2.2.2 < σ.2.2.2.2.1 + nI n
  rw [hl]
  exact fun h => by
    have h1 := Int32.lt_iff_toInt_lt.mp h
    have h2 := Int32.toInt_lt (σ.2.2.2.2.1 + nI n)
    rw [show (2147483647 : Int32).toInt = 2147483647 from rfl] at h1
    omega
theorem XI_begin {σ : Sx} {nh u : Nat} {K : Nat → List Int32} (h : XI σ nh u K) (m : Int32) : XI (x_begin σ m) nh u K := XI_eq h rfl rfl rfl rfl
/-- the limit of a heap of k keys -/
theorem s_l31 : ∀ n, n < 32 → ((nI n &&& 31).toBitVec.smod 32).toNat = n := by decide
theorem pow_ge {k : Nat} (hk : k < 2 ^ 20) : ∀ (n p : Nat), p + n = 31 → p ≤ 30 → ∃ L, x_pow (nI k) n (nI p) = nI L ∧ L ≤ 30 ∧ ∀ r, r ≤ 30 → 2 ^ r ≤ k + 1 → r ≤ L := by
  intro n
  induction n with
  | zero => intro p h1 h2; omega
  | succ n ih =>
    intro p h1 h2
    unfold x_pow
    by_cases hp : p = 30
    · subst hp
      rw [if_pos (show (30 : Int32) ≤ nI 30 from Int32.le_refl _)]
      exact ⟨30, rfl, Nat.le_refl _, fun r hr _ => hr⟩
    · rw [if_neg (show ¬ (30 : Int32) ≤ nI p from nI_ge (b := 30) (by omega) (by omega))]
      have hpw : 2 ^ p ≤ 2 ^ 29 := Nat.pow_le_pow_right (by omega) (by omega)
      have e : (2 : Int32) <<< (nI p &&& 31) = nI (2 * 2 ^ p) := pk_shlN (n := 2) _ p (s_l31 p (by omega)) (by omega)
      rw [e, nI_1]
      split
      · rename_i hlt
        have hlt2 : k + 1 < 2 * 2 ^ p := (nI_ltI (by omega) (by omega)).mp hlt
        refine ⟨p, rfl, by omega, fun r _ hr => ?_⟩
        rcases Nat.lt_or_ge p r with h3 | h3
        · have := Nat.pow_le_pow_right (n := 2) (by omega) (show p + 1 ≤ r from h3)
          rw [Nat.pow_succ] at this
          omega
        · exact h3
      · rw [nI_1]
        exact ih (p + 1) (by omega) (by omega)
theorem lim_ge {k : Nat} (hk : k < 2 ^ 20) : ∃ L, x_limFor (nI k) = nI (200 * (2 + L)) ∧ L ≤ 30 ∧ ∀ r, r ≤ 30 → 2 ^ r ≤ k + 1 → r ≤ L := by
  obtain ⟨L, e, h1, h2⟩ := pow_ge hk 31 0 (by omega) (by omega)
  refine ⟨L, ?_, h1, h2⟩
  unfold x_limFor
  rw [← nI_0, e]
  show nI 200 * (nI 2 + nI L) = _
  rw [nI_add, pk_mul]
/-- a heap more -/
theorem op_heap {σ : Sx} {nh u : Nat} {K : Nat → List Int32} (h : XI σ nh u K) : (nh = 8 → (x_heap σ).1 = -1 ∧ XI (x_heap σ).2 nh u K) ∧ (nh < 8 → (x_heap σ).1 = nI nh ∧ XI (x_heap σ).2 (nh + 1) u K) ∧ XF (x_heap σ).2 := by
  obtain ⟨h8, -, hH⟩ := XI_nh h
  unfold x_heap
  have e : (x_begin σ 2147483647).2.1 = nI nh := hH
  simp only [e]
  refine ⟨fun h1 => ?_, fun h1 => ?_, ?_⟩
  · rw [if_neg (by subst h1; decide)]
    exact ⟨rfl, XI_begin h _⟩
  · rw [if_pos (show nI nh < (8 : Int32) from nI_lt (b := 8) h1 (by omega))]
    refine ⟨?_, ?_⟩
    · show (nI nh + 1) - 1 = nI nh
      rw [nI_1, nI_pred]
    · obtain ⟨TT, fl, a1, a2, a3, a4, a5, a6, a7, a8, a9, a10⟩ := h
      exact ⟨TT, fl, a1, a2, a3, a4, by show nI nh + 1 = _; rw [nI_1], by omega, a7, a8, fun j hj hj2 => a9 j hj (by omega), a10⟩
  · split
    · exact XF_max σ
    · exact XF_max σ
theorem R0_read {σ : Sx} {k : Nat} (h : k < 1080) : x_read σ (nI k) = (σ.1 k, RS σ σ.1 1) := by
  have := RS_read (σ := σ) (f := σ.1) (n := 0) h
  rw [RS_0] at this
  exact this
theorem newCell_RS {σ : Sx} {c : Nat} {key : Int32} (hc0 : c < 200) (hf : σ.2.2.2.1 = nI c) : x_newCell σ key = (nI c, RS (x_sU (x_sF σ (σ.1 (600 + c))) (σ.2.2.1 - 1)) (upd (upd (upd σ.1 c key) (200 + c) 0) (400 + c) (-1)) 4) := by
  unfold x_newCell
  rw [hf]
  simp only [ad_600, R0_read (show 600 + c < 1080 by omega)]
  have e : x_sU (x_sF (RS σ σ.1 1) (σ.1 (600 + c))) ((x_sF (RS σ σ.1 1) (σ.1 (600 + c))).2.2.1 - 1) = RS (x_sU (x_sF σ (σ.1 (600 + c))) (σ.2.2.1 - 1)) σ.1 1 := rfl
  rw [e, ad_0, RS_write (by omega), ad_200, RS_write (by omega), ad_400, RS_write (by omega)]
theorem giveBack_RS {σ : Sx} {f : Nat → Int32} {n c : Nat} (hc0 : c < 200) : x_giveBack (RS σ f n) (nI c) = RS (x_sU (x_sF σ (nI c)) (σ.2.2.1 + 1)) (upd f (600 + c) σ.2.2.2.1) (n + 1) := by
  unfold x_giveBack
  simp only [ad_600, RS_write (show 600 + c < 1080 by omega)]
  rfl
/-- a change of the sizes alone -/
theorem PI_size {f : Nat → Int32} {TT : Nat → Option Tr} {hand : List Tr} {Z : List Nat} {k : Nat} {v : Int32} (h : PI f TT hand Z) (hk : 1072 ≤ k) : PI (upd f k v) TT hand Z ∧ agr Z f (upd f k v) :=
  ⟨PI_chg (ts := []) (ts' := []) (hand := hand) h (agr_hi (PI_lt h) (by omega)) (fun i hi => pk_un (by omega)) (fun t ht => by simp at ht) (List.Perm.refl _), agr_hi h.2.2.2.2 (by omega)⟩
theorem resize_RS {σ : Sx} {f : Nat → Int32} {n j : Nat} {k : Int32} (hj : j < 8) : x_resize (RS σ f n) (nI j) k = (k, RS σ (upd f (1072 + j) k) (n + 1)) := by
  unfold x_resize
  rw [ad_sz, RS_write (by omega)]
