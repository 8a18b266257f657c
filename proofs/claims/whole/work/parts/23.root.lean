/-! the loops of the code, without their counters -/
def x_pcL (h : Int32) : Nat → Sx → Int32 → Sx
  | 0, σ, _ => σ
  | n + 1, σ, child =>
    if child = -1 then σ else
      let q := x_read σ (600 + child)
      x_pcL h n (x_place q.2 h child) q.1
def x_lrL (h : Int32) : Nat → Sx → Int32 → Int32 → Int32 × Sx
  | 0, σ, best, _ => (best, σ)
  | n + 1, σ, best, rank =>
    let q := x_read σ (x_topAt h rank)
    let q2 := x_lesserRoot q.2 best q.1
    x_lrL h n q2.2 q2.1 (rank + 1)
theorem pcL_eq (h : Int32) : ∀ (m i : Nat) (σ : Sx) (ch : Int32), i + m = 200 → y_pcL h (m + 1) σ ch (nI i) = x_pcL h m σ ch := by
  intro m
  induction m with
  | zero =>
    intro i σ ch hi
    unfold y_pcL x_pcL
    rw [if_pos (show (200 : Int32) ≤ nI i from nI_le (a := 200) (by omega) (by omega))]
  | succ m ih =>
    intro i σ ch hi
    unfold y_pcL x_pcL
    rw [if_neg (show ¬ (200 : Int32) ≤ nI i from nI_ge (b := 200) (by omega) (by omega))]
    split
    · rfl
    · simp only
      rw [nI_1]
      exact ih (i + 1) _ _ (by omega)
theorem lrL_eq (h : Int32) : ∀ (m i : Nat) (σ : Sx) (b : Int32), i + m = 8 → y_lrL h (m + 1) σ b (nI i) = x_lrL h m σ b (nI i) := by
  intro m
  induction m with
  | zero =>
    intro i σ b hi
    unfold y_lrL x_lrL
    rw [if_pos (show (8 : Int32) ≤ nI i from nI_le (a := 8) (by omega) (by omega))]
  | succ m ih =>
    intro i σ b hi
    unfold y_lrL x_lrL
    rw [if_neg (show ¬ (8 : Int32) ≤ nI i from nI_ge (b := 8) (by omega) (by omega))]
    simp only
    rw [nI_1]
    exact ih (i + 1) _ _ (by omega)
/-- what leastRoot knows of the places that it has seen -/
def lrI (f : Nat → Int32) (TT : Nat → Option Tr) (V : Nat → Prop) (best : Int32) : Prop :=
  (best = -1 ∧ ∀ j, V j → TT j = none) ∨ ∃ i t, V i ∧ TT i = some t ∧ best = nI t.2.1 ∧ ∀ j t', V j → TT j = some t' → f t.2.1 ≤ f t'.2.1
theorem lr_step {σ : Sx} {f : Nat → Int32} {n i : Nat} {TT : Nat → Option Tr} {hand : List Tr} {Z : List Nat} {V : Nat → Prop} {best : Int32} (h : PI f TT hand Z) (hV : ∀ j, V j → j < 72) (hi : i < 72) (hb : lrI f TT V best) :
    ∃ b' n', x_lesserRoot (RS σ f n) best (f (1000 + i)) = (b', RS σ f n') ∧ n' ≤ n + 2 ∧ lrI f TT (fun j => V j ∨ j = i) b' := by
  unfold x_lesserRoot
  rcases hb with ⟨rfl, hb⟩ | ⟨j, t, hj, ht, rfl, hb⟩
  · rw [if_pos rfl]
    refine ⟨_, n, rfl, by omega, ?_⟩
    cases hti : TT i with
    | none => exact Or.inl ⟨PI_none h hi hti, fun k hk => by rcases hk with hk | rfl; exact hb k hk; exact hti⟩
    | some t => exact Or.inr ⟨i, t, Or.inr rfl, hti, (PI_some h hi hti).1, fun k t' hk ht' => by
        rcases hk with hk | rfl
        · rw [hb k hk] at ht'; cases ht'
        · rw [hti] at ht'; cases ht'; exact Int32.le_refl _⟩
  · have hj2 := hV j hj
    have htj := (PI_some h hj2 ht).2.1.1
    rw [if_neg (nI_ne_m1 (by omega))]
    cases hti : TT i with
    | none =>
      rw [PI_none h hi hti, if_pos rfl]
      exact ⟨_, n, rfl, by omega, Or.inr ⟨j, t, Or.inl hj, ht, rfl, fun k t' hk ht' => by
        rcases hk with hk | rfl
        · exact hb k t' hk ht'
        · rw [hti] at ht'; cases ht'⟩⟩
    | some t2 =>
      obtain ⟨e, htok, -⟩ := PI_some h hi hti
      have h2 := htok.1
      rw [e, if_neg (nI_ne_m1 (by omega)), ad_0, ad_0, RS_read (by omega)]
      simp only
      rw [RS_read (by omega)]
      simp only
      split
      · rename_i hlt
        refine ⟨_, _, rfl, by omega, Or.inr ⟨i, t2, Or.inr rfl, hti, rfl, fun k t' hk ht' => ?_⟩⟩
        rcases hk with hk | rfl
        · exact Int32.le_trans (Int32.le_of_lt hlt) (hb k t' hk ht')
        · rw [hti] at ht'; cases ht'; exact Int32.le_refl _
      · rename_i hlt
        refine ⟨_, _, rfl, by omega, Or.inr ⟨j, t, Or.inl hj, ht, rfl, fun k t' hk ht' => ?_⟩⟩
        rcases hk with hk | rfl
        · exact hb k t' hk ht'
        · rw [hti] at ht'; cases ht'; exact Int32.not_lt.mp hlt
theorem lr_L {σ : Sx} {f : Nat → Int32} {h : Nat} {TT : Nat → Option Tr} {hand : List Tr} {Z : List Nat} (hh : h < 8) (hP : PI f TT hand Z) : ∀ (m r n : Nat) (best : Int32), r + m = 8 → lrI f TT (fun j => j = 64 + h ∨ (8 * h ≤ j ∧ j < 8 * h + r)) best →
    ∃ b' n', x_lrL (nI h) m (RS σ f n) best (nI r) = (b', RS σ f n') ∧ n' ≤ n + 3 * m ∧ lrI f TT (fun j => j = 64 + h ∨ (8 * h ≤ j ∧ j < 8 * h + 8)) b' := by
  intro m
  induction m with
  | zero =>
    intro r n best hr hb
    obtain rfl : r = 8 := by omega
    exact ⟨best, n, rfl, by omega, hb⟩
  | succ m ih =>
    intro r n best hr hb
    unfold x_lrL
    rw [ad_top, RS_read (by omega)]
    simp only
    obtain ⟨b1, n1, e1, h1, hb1⟩ := lr_step (σ := σ) (n := n + 1) (i := 8 * h + r) hP (fun j hj => by omega) (by omega) hb
    rw [e1]
    simp only
    rw [nI_1]
    obtain ⟨b2, n2, e2, h2, hb2⟩ := ih (r + 1) n1 b1 (by omega) (by
      have ev : (fun j => (j = 64 + h ∨ (8 * h ≤ j ∧ j < 8 * h + r)) ∨ j = 8 * h + r) = (fun j => j = 64 + h ∨ (8 * h ≤ j ∧ j < 8 * h + (r + 1))) := by
        funext j
        apply propext
        omega
      rw [← ev]
      exact hb1)
    exact ⟨b2, n2, e2, by omega, hb2⟩
/-- the least root of a heap that is there -/
theorem leastRoot_RS {σ : Sx} {f : Nat → Int32} {n h nh : Nat} {TT : Nat → Option Tr} {hand : List Tr} {Z : List Nat} (hh : h < nh) (hnh : nh ≤ 8) (hH : σ.2.1 = nI nh) (hP : PI f TT hand Z) :
    ∃ b' n', x_leastRoot (RS σ f n) (nI h) = (b', RS σ f n') ∧ n' ≤ n + 25 ∧ lrI f TT (fun j => j = 64 + h ∨ (8 * h ≤ j ∧ j < 8 * h + 8)) b' := by
  unfold x_leastRoot
  have hex : x_ex (RS σ f n) (nI h) = 1 := by
    unfold x_ex
    rw [if_neg (nI_pos (by omega))]
    show (if σ.2.1 ≤ nI h then _ else _) = _
    rw [hH, if_neg (nI_ge hh (by omega))]
  rw [hex, if_neg (by decide), ad_tw, RS_read (by omega)]
  simp only
  have h0 : lrI f TT (fun j => j = 64 + h ∨ (8 * h ≤ j ∧ j < 8 * h + 0)) (f (1064 + h)) := by
    rw [show 1064 + h = 1000 + (64 + h) by omega]
    cases ht : TT (64 + h) with
    | none => exact Or.inl ⟨PI_none hP (by omega) ht, fun j hj => by obtain rfl : j = 64 + h := by omega
                                                                     exact ht⟩
    | some t => exact Or.inr ⟨64 + h, t, Or.inl rfl, ht, (PI_some hP (by omega) ht).1, fun j t' hj ht' => by
        obtain rfl : j = 64 + h := by omega
        rw [ht] at ht'; cases ht'; exact Int32.le_refl _⟩
  obtain ⟨b, n', e, hn, hb⟩ := lr_L (σ := σ) (by omega) hP 8 0 (n + 1) _ (by omega) h0
  rw [← nI_0, lrL_eq (nI h) 8 0 _ _ (by omega)]
  exact ⟨b, n', e, by omega, hb⟩
/-- nothing is in a heap without roots; the least root's key is the heap's least -/
theorem lr_none {f : Nat → Int32} {TT : Nat → Option Tr} {h : Nat} (hh : h < 8) (hb : ∀ j, (j = 64 + h ∨ (8 * h ≤ j ∧ j < 8 * h + 8)) → TT j = none) : hc TT h = [] := by
  rw [List.eq_nil_iff_forall_not_mem]
  intro c hc0
  obtain ⟨i, t, -, hi, ht, -⟩ := hc_mem hh hc0
  rw [hb i hi] at ht
  cases ht
theorem lr_min {f : Nat → Int32} {TT : Nat → Option Tr} {hand : List Tr} {Z : List Nat} {h : Nat} {t : Tr} (hh : h < 8) (hP : PI f TT hand Z) (hb : ∀ j t', (j = 64 + h ∨ (8 * h ≤ j ∧ j < 8 * h + 8)) → TT j = some t' → f t.2.1 ≤ f t'.2.1) : ∀ c ∈ hc TT h, f t.2.1 ≤ f c := by
  intro c hc0
  obtain ⟨i, t', hi2, hi, ht, hm⟩ := hc_mem hh hc0
  have h1 := hb i t' hi ht
  have h2 := (PI_some hP hi2 ht).2.1
  rcases List.mem_cons.mp hm with rfl | hm
  · exact h1
  · exact Int32.le_trans h1 (fok_min _ _ _ h2.2.2.2.2 c hm)
/-- trees at different places share no cell -/
theorem PI_apart {f : Nat → Int32} {TT : Nat → Option Tr} {hand : List Tr} {Z : List Nat} {i j : Nat} {t t' : Tr} (hP : PI f TT hand Z) (hi : i < 72) (hj : j < 72) (hij : i ≠ j) (ht : TT i = some t) (ht' : TT j = some t') : ∀ c ∈ tc t, c ∉ tc t' := by
  intro c h1 h2
  have h3 := PI_NL (PI_cut hP hi ht)
  have h4 : up TT i none j = some t' := by rw [up_n (Ne.symm hij)]; exact ht'
  have h5 := (List.nodup_append.mp (List.nodup_append.mp h3.1).2.1).2.2 c (by simp only [List.flatMap_cons]; exact List.mem_append_left _ h1) c (tcs_mem hj h4 c h2)
  exact h5 rfl
/-- the root goes out of the table; a twin that stays is placed -/
theorem cutRoot_RS {σ : Sx} {f : Nat → Int32} {n h i : Nat} {TT : Nat → Option Tr} {hand : List Tr} {Z : List Nat} {t : Tr} (hh : h < 8) (hP : PI f TT hand Z) (hi : i = 64 + h ∨ (8 * h ≤ i ∧ i < 8 * h + 8)) (ht : TT i = some t) :
    ∃ (g : Nat → Int32) (n' : Nat) (TT' : Nat → Option Tr), x_cutRoot (RS σ f n) (nI h) (nI t.2.1) = RS σ g n' ∧ n' ≤ n + 78 ∧ PI g TT' (t :: hand) Z ∧ agr Z f g ∧ (hc TT' h ++ tc t).Perm (hc TT h) ∧ TT' (64 + h) = none ∧ (∀ j, j ≠ 64 + h → (j < 8 * h ∨ 8 * h + 8 ≤ j) → TT' j = TT j) ∧ (∀ k, k < 200 → g k = f k) ∧ ∀ k, 1072 ≤ k → g k = f k := by
  have hi72 : i < 72 := by omega
  obtain ⟨e1, htok, hrk⟩ := PI_some hP hi72 ht
  have hlt := htok.1
  unfold x_cutRoot
  rw [x_cutTwin_RS hh]
  simp only
  by_cases hiw : i = 64 + h
  · subst hiw
    rw [if_pos e1]
    refine ⟨_, _, up TT (64 + h) none, rfl, by omega, PI_cut hP hi72 ht, agr_hi hP.2.2.2.2 (by omega), ?_, up_s, fun j hj _ => up_n hj, fun k hk => pk_un (by omega), fun k hk => pk_un (by omega)⟩
    have h1 := hc_twin (TT := TT) (o := none) hh
    rw [ht] at h1
    simpa [oc] using h1
  · have hr : t.1 < 8 ∧ i = 8 * h + t.1 := by have := hrk (by omega); omega
    obtain ⟨hr, hie⟩ := hr
    subst hie
    cases htw : TT (64 + h) with
    | none =>
      have e2 := PI_none hP (show 64 + h < 72 by omega) htw
      rw [e2, if_neg (fun e => nI_ne_m1 (show t.2.1 < 2 ^ 31 by omega) e.symm), ← e2, upd_same rfl, ad_200, RS_read (by omega)]
      simp only
      rw [htok.2.1, x_cutTop_RS hh hr, e2, place_nil]
      refine ⟨_, _, up TT (8 * h + t.1) none, rfl, by omega, PI_cut hP hi72 ht, agr_hi hP.2.2.2.2 (by omega), ?_, by rw [up_n (by omega)]; exact htw, fun j hj hj2 => up_n (by omega), fun k hk => pk_un (by omega), fun k hk => pk_un (by omega)⟩
      have h1 := hc_top (TT := TT) (o := none) hh hr
      rw [ht] at h1
      simpa [oc] using h1
    | some tw =>
      obtain ⟨e2, htok2, -⟩ := PI_some hP (show 64 + h < 72 by omega) htw
      have hlt2 := htok2.1
      have hne : ¬ nI tw.2.1 = nI t.2.1 := fun e => by
        have := nI_inj (by omega) (by omega) e
        exact PI_apart hP hi72 (by omega) hiw ht htw t.2.1 List.mem_cons_self (by rw [← this]; exact List.mem_cons_self)
      rw [e2, if_neg hne, ad_200, RS_read (by omega)]
      simp only
      rw [pk_un (by omega), htok.2.1, x_cutTop_RS hh hr]
      simp only
      have h3 := PI_cut hP (show 64 + h < 72 by omega) htw
      have h4 := PI_cut (t := t) h3 hi72 (by rw [up_n (by omega)]; exact ht)
      have h5 : PI (upd (upd f (1000 + (64 + h)) (-1)) (1000 + (8 * h + t.1)) (-1)) (up (up TT (64 + h) none) (8 * h + t.1) none) (tw :: t :: hand) Z := by
        have hN : NL (Z ++ ((tw :: t :: hand).flatMap tc ++ tcs (up (up TT (64 + h) none) (8 * h + t.1) none))) := by
          refine NL_perm ?_ (PI_NL h4)
          refine List.perm_iff_count.mpr fun a => ?_
          simp only [List.flatMap_cons, List.count_append]
          omega
        exact ⟨h4.1, fun x hx => h4.2.1 x (by simp only [List.mem_cons] at hx ⊢; rcases hx with rfl | rfl | hx <;> simp_all), hN.1, hN.2, h4.2.2.2.2⟩
      obtain ⟨g, n', TT', b1, b2, b3, b4, b5, b6, b7, b8⟩ := place_RS (σ := σ) (n := n + 2 + 1 + 2) hh h5
      rw [b1]
      refine ⟨g, n', TT', rfl, by omega, b3, agr_tr (agr_tr (agr_hi hP.2.2.2.2 (by omega)) (agr_hi hP.2.2.2.2 (by omega))) b4, ?_, by rw [b6 _ (by omega), up_n (by omega), up_s], fun j hj hj2 => by rw [b6 j hj2, up_n (by omega), up_n hj], fun k hk => by rw [b7 k hk, pk_un (by omega), pk_un (by omega)], fun k hk => by rw [b8 k (by omega), pk_un (by omega), pk_un (by omega)]⟩
      have c1 := hc_twin (TT := TT) (o := none) hh
      have c2 := hc_top (TT := up TT (64 + h) none) (o := none) hh hr
      rw [htw] at c1
      rw [up_n (show 8 * h + t.1 ≠ 64 + h by omega), ht] at c2
      refine List.perm_iff_count.mpr fun a => ?_
      have d1 := c1.count_eq a
      have d2 := c2.count_eq a
      have d3 := b5.count_eq a
      simp only [List.count_append, oc, List.count_nil] at d1 d2 d3 ⊢
      omega
/-- the children of a root that is out of the table are placed one after the other -/
theorem pc_L {σ : Sx} {h : Nat} {Z : List Nat} (hh : h < 8) : ∀ (b : Std.Format) (m : Nat) (f : Nat → Int32) (n : Nat) (TT : Nat → Option Tr) (q k : Int32), PI f TT [] (fcells b ++ Z) → fok f b q k → flen b ≤ m →
    ∃ (g : Nat → Int32) (n' : Nat) (TT' : Nat → Option Tr), x_pcL (nI h) m (RS σ f n) q = RS σ g n' ∧ n' ≤ n + 74 * flen b ∧ PI g TT' [] Z ∧ agr Z f g ∧ (hc TT' h).Perm (fcells b ++ hc TT h) ∧ (∀ j, (j < 8 * h ∨ 8 * h + 8 ≤ j) → TT' j = TT j) ∧ (∀ k, k < 200 → g k = f k) ∧ ∀ k, 1064 ≤ k → g k = f k := by
  intro b
  induction b using flen.induct with
  | case1 c a b ih =>
    intro m f n TT q k hP hf hm
    simp only [flen] at hm ⊢
    simp only [fok] at hf
    obtain ⟨rfl, hc0, -, ⟨r, hr1, hr2, hr3⟩, hfa, hfb⟩ := hf
    cases m with
    | zero => omega
    | succ m =>
      unfold x_pcL
      rw [if_neg (nI_ne_m1 (by omega)), ad_600, RS_read (by omega)]
      simp only
      have h1 : PI f TT [(r, c, a)] (fcells b ++ Z) := by
        have hN : NL ((fcells b ++ Z) ++ (([(r, c, a)] : List Tr).flatMap tc ++ tcs TT)) := by
          refine NL_perm ?_ (PI_NL hP)
          refine List.perm_iff_count.mpr fun x => ?_
          simp only [List.flatMap_cons, List.flatMap_nil, tc, fcells, List.count_append, List.count_cons, List.count_nil]
          omega
        refine ⟨hP.1, fun t ht => ?_, hN.1, hN.2, fun x hx => hP.2.2.2.2 x ?_⟩
        · rw [List.mem_singleton.mp ht]
          exact ⟨hc0, hr1, hr2, hr3, hfa⟩
        · simp only [fcells, List.cons_append, List.mem_cons, List.mem_append] at hx ⊢
          rcases hx with hx | hx
          · exact Or.inr (Or.inl (Or.inr hx))
          · exact Or.inr (Or.inr hx)
      obtain ⟨g, n', TT', b1, b2, b3, b4, b5, b6, b7, b8⟩ := place_RS (σ := σ) (n := n + 1) hh h1
      rw [b1]
      obtain ⟨g2, n2, TT2, d1, d2, d3, d4, d5, d6, d7, d8⟩ := ih m g n' TT' (f (600 + c)) k b3 (fok_agr _ _ _ (agr_sub b4 (fun x hx => List.mem_append_left _ hx)) hfb) (by omega)
      refine ⟨g2, n2, TT2, d1, by omega, d3, agr_tr (agr_sub b4 (fun x hx => List.mem_append_right _ hx)) d4, ?_, fun j hj => (d6 j hj).trans (b6 j hj), fun k hk => (d7 k hk).trans (b7 k hk), fun k hk => (d8 k hk).trans (b8 k hk)⟩
      refine List.perm_iff_count.mpr fun x => ?_
      have c1 := b5.count_eq x
      have c2 := d5.count_eq x
      simp only [tc, fcells, List.count_append, List.count_cons] at c1 c2 ⊢
      omega
  | case2 b hb =>
    intro m f n TT q k hP hf hm
    have e1 : fcells b = [] := by rw [fcells]; exact hb
    have e2 : q = -1 := by rw [fok] at hf; exact hf; exact hb
    have e3 : flen b = 0 := by rw [flen]; exact hb
    rw [e1] at hP ⊢
    subst e2
    refine ⟨f, n, TT, ?_, by omega, hP, agr_rf, List.Perm.refl _, fun _ _ => rfl, fun _ _ => rfl, fun _ _ => rfl⟩
    cases m with
    | zero => rfl
    | succ m => unfold x_pcL; rw [if_pos rfl]
