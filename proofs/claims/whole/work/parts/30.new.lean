/-! a new object -/
theorem in_L {σ : Sx} : ∀ (m i : Nat) (f : Nat → Int32) (n : Nat), i + m = 1072 → ∃ g n', y_inL (m + 1) (RS σ f n) (nI i) = RS σ g n' ∧ (∀ k, i ≤ k → k < 1072 → g k = -1) ∧ ∀ k, (k < i ∨ 1072 ≤ k) → g k = f k := by
  intro m
  induction m with
  | zero =>
    intro i f n hi
    unfold y_inL
    rw [if_pos (show (1072 : Int32) ≤ nI i from nI_le (a := 1072) (by omega) (by omega))]
    exact ⟨f, n, rfl, fun k h1 h2 => by omega, fun _ _ => rfl⟩
  | succ m ih =>
    intro i f n hi
    unfold y_inL
    rw [if_neg (show ¬ (1072 : Int32) ≤ nI i from nI_ge (b := 1072) (by omega) (by omega)), RS_write (by omega), nI_1]
    obtain ⟨g, n', e, h1, h2⟩ := ih (i + 1) (upd f i (-1)) (n + 1) (by omega)
    refine ⟨g, n', e, fun k h3 h4 => ?_, fun k h3 => ?_⟩
    · by_cases hk : k = i
      · subst hk
        rw [h2 k (by omega), pk_us]
      · exact h1 k (by omega) h4
    · rw [h2 k (by omega), pk_un (by omega)]
theorem gi_L : ∀ (m : Nat) (σ : Sx) (f : Nat → Int32) (n : Nat), m ≤ 200 → flc f (List.range' m (200 - m)) σ.2.2.2.1 → σ.2.2.1 = nI (200 - m) →
    ∃ σ' g n', y_giL (m + 1) (RS σ f n) (nI m + (-1)) = RS σ' g n' ∧ flc g (List.range' 0 200) σ'.2.2.2.1 ∧ σ'.2.2.1 = nI 200 ∧ σ'.2.1 = σ.2.1 ∧ ∀ k, 1000 ≤ k → g k = f k := by
  intro m
  induction m with
  | zero =>
    intro σ f n hm hf hu
    unfold y_giL
    rw [if_pos (by decide)]
    exact ⟨σ, f, n, rfl, hf, hu, rfl, fun _ _ => rfl⟩
  | succ m ih =>
    intro σ f n hm hf hu
    unfold y_giL
    rw [pk_m1, if_neg (nI_pos (by omega)), giveBack_RS (by omega)]
    obtain ⟨σ', g, n', e, h1, h2, h3, h4⟩ := ih (x_sU (x_sF σ (nI m)) (σ.2.2.1 + 1)) (upd f (600 + m) σ.2.2.2.1) (n + 1) (by omega) (by
      rw [show 200 - m = (200 - (m + 1)) + 1 by omega, List.range'_succ]
      refine ⟨rfl, ?_⟩
      rw [pk_us]
      refine flc_agr _ _ (fun x hx => ?_) hf
      have hx := List.mem_range'_1.mp hx
      refine ⟨?_, ?_, ?_, ?_⟩ <;> rw [pk_un (by omega)]) (by
      show σ.2.2.1 + 1 = _
      rw [hu, nI_1]
      congr 1
      omega)
    exact ⟨σ', g, n', e, h1, h2, h3, fun k hk => by rw [h4 k hk, pk_un (by omega)]⟩
theorem new_XI : XI x_new 0 0 (fun _ => []) ∧ XF x_new := by
  have ez : RS (fun _ => 0, 0, 0, 0, 0, 0) (fun _ => 0) 0 = (fun _ => 0, 0, 0, 0, 0, 0) := RS_0 (fun _ => 0, 0, 0, 0, 0, 0)
  obtain ⟨g1, n1, e1, a1, a2⟩ := in_L (σ := (fun _ => 0, 0, 0, 0, 0, 0)) 72 1000 (fun _ => 0) 0 (by omega)
  rw [ez] at e1
  obtain ⟨σ', g, n', e2, b1, b2, b3, b4⟩ := gi_L 200 (x_sF (fun _ => 0, 0, 0, 0, 0, 0) (-1)) g1 n1 (by omega) rfl rfl
  have ex : x_new = x_begin (RS σ' g n') 2147483647 := by
    unfold x_new
    show x_begin (y_giL 201 (x_sF (y_inL 73 (fun _ => 0, 0, 0, 0, 0, 0) 1000) (-1)) 199) 2147483647 = _
    have e1' : y_inL 73 (fun _ => 0, 0, 0, 0, 0, 0) 1000 = RS (fun _ => 0, 0, 0, 0, 0, 0) g1 n1 := e1
    rw [e1']
    exact congrArg (fun z => x_begin z 2147483647) e2
  rw [ex]
  refine ⟨XI_begin ?_ _, XF_max _⟩
  have hnil : ∀ h, hc (fun _ => none) h = [] := fun h => by simp [hc, oc]
  refine ⟨fun _ => none, List.range' 0 200, ⟨fun i hi => ?_, fun t ht => by simp at ht, ?_, ?_, fun c hc0 => ?_⟩, b1, by rw [List.length_range']; exact b2, by rw [List.length_range'], b3, by omega, fun h hh t ht => (by cases ht), fun h hh => ?_, fun _ _ _ => rfl, fun h hh => by rw [hnil]; exact List.Perm.refl _⟩
  · show g (1000 + i) = -1
    rw [b4 _ (by omega)]
    exact a1 _ (by omega) (by omega)
  · have : tcs (fun _ => none) = [] := by simp [tcs, oc]
    rw [this]
    simp [List.nodup_range']
  · have : tcs (fun _ => none) = [] := by simp [tcs, oc]
    rw [this]
    simp
  · have := List.mem_range'_1.mp hc0
    omega
  · show g (1072 + h) = _
    rw [b4 _ (by omega), a2 _ (by omega), hnil]
    rfl
