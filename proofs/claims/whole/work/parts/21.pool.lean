/-! trees in the table of places, trees in hand, and the cells Z of whatever else: what cutting, putting, linking and hanging do -/
theorem fm_up {α : Type} (g g' : Nat → List α) (i : Nat) : ∀ (l : List Nat), l.Nodup → i ∈ l → (∀ j ∈ l, j ≠ i → g' j = g j) → (l.flatMap g' ++ g i).Perm (g' i ++ l.flatMap g) := by
  intro l
  induction l with
  | nil => intro _ h; simp at h
  | cons x l ih =>
    intro hn hi hj
    simp only [List.flatMap_cons]
    by_cases hx : x = i
    · subst hx
      have : l.flatMap g' = l.flatMap g := by
        apply fm_congr
        intro j hj2
        exact hj j (List.mem_cons_of_mem _ hj2) (fun e => (List.nodup_cons.mp hn).1 (e ▸ hj2))
      rw [this]
      refine List.perm_append_comm.trans ?_
      rw [← List.append_assoc, ← List.append_assoc]
      exact List.perm_append_comm.append_right _
    · have hi2 : i ∈ l := by
        rcases List.mem_cons.mp hi with h | h
        · exact absurd h.symm hx
        · exact h
      have h1 := ih (List.nodup_cons.mp hn).2 hi2 (fun j h2 h3 => hj j (List.mem_cons_of_mem _ h2) h3)
      rw [hj x List.mem_cons_self hx, List.append_assoc]
      refine (h1.append_left _).trans ?_
      rw [← List.append_assoc, ← List.append_assoc]
      exact List.perm_append_comm.append_right _
def up (TT : Nat → Option Tr) (i : Nat) (o : Option Tr) : Nat → Option Tr := fun j => if j = i then o else TT j
theorem up_s {TT : Nat → Option Tr} {i : Nat} {o : Option Tr} : up TT i o i = o := by simp [up]
theorem up_n {TT : Nat → Option Tr} {i j : Nat} {o : Option Tr} (h : j ≠ i) : up TT i o j = TT j := by simp [up, h]
theorem tcs_up {TT : Nat → Option Tr} {i : Nat} {o : Option Tr} (hi : i < 72) : (tcs (up TT i o) ++ oc (TT i)).Perm (oc o ++ tcs TT) := by
  have h := fm_up (fun j => oc (TT j)) (fun j => oc (up TT i o j)) i (List.range 72) List.nodup_range (List.mem_range.mpr hi) (fun j _ h => by simp [up_n h])
  simpa [up_s, tcs] using h
theorem tcs_mem {TT : Nat → Option Tr} {i : Nat} {t : Tr} (hi : i < 72) (h : TT i = some t) : ∀ c ∈ tc t, c ∈ tcs TT := by
  intro c hc
  exact List.mem_flatMap.mpr ⟨i, List.mem_range.mpr hi, by rw [h]; exact hc⟩
def NL (L : List Nat) : Prop := L.Nodup ∧ L.length = 200
theorem NL_perm {L L' : List Nat} (h : L.Perm L') (hn : NL L) : NL L' := ⟨h.nodup_iff.mp hn.1, h.length_eq ▸ hn.2⟩
theorem PI_NL {f : Nat → Int32} {TT : Nat → Option Tr} {hand : List Tr} {Z : List Nat} (h : PI f TT hand Z) : NL (Z ++ (hand.flatMap tc ++ tcs TT)) := ⟨h.2.2.1, h.2.2.2.1⟩
theorem PI_lt {f : Nat → Int32} {TT : Nat → Option Tr} {hand : List Tr} {Z : List Nat} (h : PI f TT hand Z) : ∀ c ∈ hand.flatMap tc ++ tcs TT, c < 200 := by
  intro c hc
  rcases List.mem_append.mp hc with hc | hc
  · obtain ⟨t, ht, hc⟩ := List.mem_flatMap.mp hc
    exact tok_lt (h.2.1 t ht) c hc
  · obtain ⟨i, hi, hc⟩ := List.mem_flatMap.mp hc
    have hs := h.1 i (List.mem_range.mp hi)
    cases ht : TT i with
    | none => rw [ht] at hc; simp [oc] at hc
    | some t => rw [ht] at hc hs; exact tok_lt hs.2.1 c hc
theorem PI_chg {f g : Nat → Int32} {TT : Nat → Option Tr} {ts ts' hand : List Tr} {Z : List Nat} (h : PI f TT (ts ++ hand) Z) (ha : agr (hand.flatMap tc ++ tcs TT) f g) (hs : ∀ i, i < 72 → g (1000 + i) = f (1000 + i)) (ht : ∀ t ∈ ts', tok g t) (hp : (ts'.flatMap tc).Perm (ts.flatMap tc)) : PI g TT (ts' ++ hand) Z := by
  have hN : NL (Z ++ ((ts' ++ hand).flatMap tc ++ tcs TT)) := by
    refine NL_perm ?_ (PI_NL h)
    simp only [List.flatMap_append, List.append_assoc]
    exact (hp.symm.append_right _).append_left _
  refine ⟨fun i hi => ?_, fun t h1 => ?_, hN.1, hN.2, h.2.2.2.2⟩
  · have h1 := h.1 i hi
    cases h2 : TT i with
    | none => rw [h2] at h1; show g _ = _; rw [hs i hi]; exact h1
    | some t =>
      rw [h2] at h1
      exact ⟨by rw [hs i hi]; exact h1.1, tok_agr (agr_sub ha (fun c hc => List.mem_append_right _ (tcs_mem hi h2 c hc))) h1.2.1, h1.2.2⟩
  · rcases List.mem_append.mp h1 with h1 | h1
    · exact ht t h1
    · exact tok_agr (agr_sub ha (fun c hc => List.mem_append_left _ (List.mem_flatMap.mpr ⟨t, h1, hc⟩))) (h.2.1 t (List.mem_append_right _ h1))
theorem PI_cut {f : Nat → Int32} {TT : Nat → Option Tr} {hand : List Tr} {Z : List Nat} {i : Nat} {t : Tr} (h : PI f TT hand Z) (hi : i < 72) (ht : TT i = some t) : PI (upd f (1000 + i) (-1)) (up TT i none) (t :: hand) Z := by
  have hN : NL (Z ++ ((t :: hand).flatMap tc ++ tcs (up TT i none))) := by
    refine NL_perm ?_ (PI_NL h)
    have h1 := tcs_up (TT := TT) (o := none) hi
    rw [ht] at h1
    simp only [List.flatMap_cons]
    refine List.Perm.append_left _ (List.perm_iff_count.mpr fun a => ?_)
    have h2 := h1.count_eq a
    simp only [List.count_append, oc, List.count_nil] at h2 ⊢
    omega
  have hlt := PI_lt h
  refine ⟨fun j hj => ?_, fun t' h1 => ?_, hN.1, hN.2, h.2.2.2.2⟩
  · by_cases hji : j = i
    · subst hji
      rw [up_s]
      exact pk_us
    · rw [up_n hji]
      have h1 := h.1 j hj
      cases h2 : TT j with
      | none => rw [h2] at h1; show upd _ _ _ _ = _; rw [pk_un (by omega)]; exact h1
      | some t2 =>
        rw [h2] at h1
        exact ⟨by rw [pk_un (by omega)]; exact h1.1, tok_agr (agr_hi (tok_lt h1.2.1) (by omega)) h1.2.1, h1.2.2⟩
  · rcases List.mem_cons.mp h1 with rfl | h1
    · have h2 := h.1 i hi
      rw [ht] at h2
      exact tok_agr (agr_hi (tok_lt h2.2.1) (by omega)) h2.2.1
    · exact tok_agr (agr_hi (tok_lt (h.2.1 t' h1)) (by omega)) (h.2.1 t' h1)
theorem PI_put {f : Nat → Int32} {TT : Nat → Option Tr} {hand : List Tr} {Z : List Nat} {i : Nat} {t : Tr} (h : PI f TT (t :: hand) Z) (hi : i < 72) (ht : TT i = none) (hr : i < 64 → t.1 = i % 8) : PI (upd f (1000 + i) (nI t.2.1)) (up TT i (some t)) hand Z := by
  have hN : NL (Z ++ (hand.flatMap tc ++ tcs (up TT i (some t)))) := by
    refine NL_perm ?_ (PI_NL h)
    have h1 := tcs_up (TT := TT) (o := some t) hi
    rw [ht] at h1
    simp only [List.flatMap_cons]
    refine List.Perm.append_left _ (List.perm_iff_count.mpr fun a => ?_)
    have h2 := h1.count_eq a
    simp only [List.count_append, oc, List.count_nil] at h2 ⊢
    omega
  refine ⟨fun j hj => ?_, fun t' h1 => ?_, hN.1, hN.2, h.2.2.2.2⟩
  · by_cases hji : j = i
    · subst hji
      rw [up_s]
      have h2 := h.2.1 t List.mem_cons_self
      exact ⟨pk_us, tok_agr (agr_hi (tok_lt h2) (by omega)) h2, hr⟩
    · rw [up_n hji]
      have h1 := h.1 j hj
      cases h2 : TT j with
      | none => rw [h2] at h1; show upd _ _ _ _ = _; rw [pk_un (by omega)]; exact h1
      | some t2 =>
        rw [h2] at h1
        exact ⟨by rw [pk_un (by omega)]; exact h1.1, tok_agr (agr_hi (tok_lt h1.2.1) (by omega)) h1.2.1, h1.2.2⟩
  · have h2 := h.2.1 t' (List.mem_cons_of_mem _ h1)
    exact tok_agr (agr_hi (tok_lt h2) (by omega)) h2
/-- a tree has at most 200 cells, so its rank is below 8 -/
theorem PI_rank {f : Nat → Int32} {TT : Nat → Option Tr} {hand : List Tr} {Z : List Nat} {t : Tr} (h : PI f TT (t :: hand) Z) : t.1 < 8 := by
  have h1 := h.2.1 t List.mem_cons_self
  have h2 := h.2.2.2.1
  simp only [List.flatMap_cons, List.length_append, tc, List.length_cons] at h2
  have h3 : 2 ^ t.1 ≤ 200 := by have := h1.2.2.2.1; omega
  rcases Nat.lt_or_ge t.1 8 with h4 | h4
  · exact h4
  · have := Nat.pow_le_pow_right (n := 2) (by omega) h4
    omega
/-- two trees of one rank under one root -/
def lkT (root other : Tr) : Tr := (root.1 + 1, root.2.1, .append (.tag other.2.1 other.2.2) root.2.2)
def lkF (f : Nat → Int32) (root other : Tr) : Nat → Int32 := upd (upd (upd f (600 + other.2.1) (f (400 + root.2.1))) (400 + root.2.1) (nI other.2.1)) (200 + root.2.1) (nI (root.1 + 1))
theorem lkF_agr {f : Nat → Int32} {root other : Tr} {Z : List Nat} (hZ : ∀ c ∈ Z, c < 200) (h1 : root.2.1 < 200) (h2 : other.2.1 < 200) (hr : root.2.1 ∉ Z) (ho : other.2.1 ∉ Z) : agr Z f (lkF f root other) := by
  intro c hc
  have h3 := hZ c hc
  have h4 : c ≠ root.2.1 := fun e => hr (e ▸ hc)
  have h5 : c ≠ other.2.1 := fun e => ho (e ▸ hc)
  unfold lkF
  refine ⟨?_, ?_, ?_, ?_⟩ <;> rw [pk_un (by omega), pk_un (by omega), pk_un (by omega)]
theorem lk_tok {f : Nat → Int32} {root other : Tr} (h1 : tok f root) (h2 : tok f other) (hrk : root.1 = other.1) (hk : f root.2.1 ≤ f other.2.1) (hn : (tc root ++ tc other).Nodup) : tok (lkF f root other) (lkT root other) := by
  obtain ⟨a1, a2, a3, a4, a5⟩ := h1
  obtain ⟨b1, b2, b3, b4, b5⟩ := h2
  obtain ⟨n1, n2, n3⟩ := List.nodup_append.mp hn
  have hne : root.2.1 ≠ other.2.1 := n3 _ List.mem_cons_self _ List.mem_cons_self
  have ro : root.2.1 ∉ fcells other.2.2 := fun h => n3 _ List.mem_cons_self _ (List.mem_cons_of_mem _ h) rfl
  have rr : root.2.1 ∉ fcells root.2.2 := (List.nodup_cons.mp n1).1
  have oo : other.2.1 ∉ fcells other.2.2 := (List.nodup_cons.mp n2).1
  have orr : other.2.1 ∉ fcells root.2.2 := fun h => n3 _ (List.mem_cons_of_mem _ h) _ List.mem_cons_self rfl
  have e0r : lkF f root other root.2.1 = f root.2.1 := by unfold lkF; rw [pk_un (by omega), pk_un (by omega), pk_un (by omega)]
  have e0o : lkF f root other other.2.1 = f other.2.1 := by unfold lkF; rw [pk_un (by omega), pk_un (by omega), pk_un (by omega)]
  have e2o : lkF f root other (200 + other.2.1) = f (200 + other.2.1) := by unfold lkF; rw [pk_un (by omega), pk_un (by omega), pk_un (by omega)]
  have e4o : lkF f root other (400 + other.2.1) = f (400 + other.2.1) := by unfold lkF; rw [pk_un (by omega), pk_un (by omega), pk_un (by omega)]
  have e6o : lkF f root other (600 + other.2.1) = f (400 + root.2.1) := by unfold lkF; rw [pk_un (by omega), pk_un (by omega), pk_us]
  have e4r : lkF f root other (400 + root.2.1) = nI other.2.1 := by unfold lkF; rw [pk_un (by omega), pk_us]
  have e2r : lkF f root other (200 + root.2.1) = nI (root.1 + 1) := by unfold lkF; rw [pk_us]
  refine ⟨a1, e2r, ?_, ?_, ?_⟩
  · show flen root.2.2 + 1 ≤ 2 * (root.1 + 1)
    omega
  · show 2 ^ (root.1 + 1) ≤ 1 + (other.2.1 :: (fcells other.2.2 ++ fcells root.2.2)).length
    rw [Nat.pow_succ]
    rw [← hrk] at b4
    simp only [List.length_cons, List.length_append]
    omega
  · show fok (lkF f root other) (.append (.tag other.2.1 other.2.2) root.2.2) _ _
    simp only [fok]
    show lkF f root other (400 + root.2.1) = _ ∧ _
    rw [e4r]
    show _ ∧ _ ∧ lkF f root other root.2.1 ≤ _ ∧ _ ∧ _ ∧ fok _ _ _ (lkF f root other root.2.1)
    rw [e0r, e0o, e2o, e4o, e6o]
    refine ⟨rfl, b1, hk, ⟨other.1, b2, b3, b4⟩, fok_agr _ _ _ (lkF_agr (fok_lt _ _ _ b5) a1 b1 ro oo) b5, fok_agr _ _ _ (lkF_agr (fok_lt _ _ _ a5) a1 b1 rr orr) a5⟩
theorem x_hangTree_RS {σ : Sx} {f : Nat → Int32} {n a b : Nat} (ha : a < 200) (hb : b < 200) : x_hangTree (RS σ f n) (nI a) (nI b) = RS σ (upd (upd f (600 + b) (f (400 + a))) (400 + a) (nI b)) (n + 3) := by
  unfold x_hangTree
  simp only [ad_400, ad_600, RS_read (show 400 + a < 1080 by omega), RS_write (show 600 + b < 1080 by omega), RS_write (show 400 + a < 1080 by omega)]
theorem x_link_RS {σ : Sx} {f : Nat → Int32} {n : Nat} {t1 t2 : Tr} (h1 : tok f t1) (h2 : tok f t2) (hrk : t1.1 = t2.1) (hne : t1.2.1 ≠ t2.2.1) :
    x_link (RS σ f n) (nI t1.2.1) (nI t2.2.1) = if f t2.2.1 < f t1.2.1 then (nI t2.2.1, RS σ (lkF f t2 t1) (n + 7)) else (nI t1.2.1, RS σ (lkF f t1 t2) (n + 7)) := by
  have a1 := h1.1
  have b1 := h2.1
  unfold x_link
  simp only [ad_0, ad_200, RS_read (show t1.2.1 < 1080 by omega), RS_read (show t2.2.1 < 1080 by omega), x_hangTree_RS a1 b1, x_hangTree_RS b1 a1]
  split
  · rw [RS_read (show 200 + t2.2.1 < 1080 by omega), RS_write (show 200 + t2.2.1 < 1080 by omega)]
    simp only
    rw [pk_un (by omega), pk_un (by omega), h2.2.1, nI_1]
    rfl
  · rw [RS_read (show 200 + t1.2.1 < 1080 by omega), RS_write (show 200 + t1.2.1 < 1080 by omega)]
    simp only
    rw [pk_un (by omega), pk_un (by omega), h1.2.1, nI_1]
    rfl
theorem PI_link {σ : Sx} {f : Nat → Int32} {n : Nat} {TT : Nat → Option Tr} {hand : List Tr} {Z : List Nat} {t1 t2 : Tr} (h : PI f TT (t1 :: t2 :: hand) Z) (hrk : t1.1 = t2.1) :
    ∃ (g : Nat → Int32) (t : Tr), x_link (RS σ f n) (nI t1.2.1) (nI t2.2.1) = (nI t.2.1, RS σ g (n + 7)) ∧ PI g TT (t :: hand) Z ∧ agr Z f g ∧ t.1 = t1.1 + 1 ∧ (tc t).Perm (tc t1 ++ tc t2) ∧ flen t.2.2 ≤ 2 * t1.1 + 1 ∧ (∀ k, k < 200 → g k = f k) ∧ ∀ k, 800 ≤ k → g k = f k := by
  have h1 := h.2.1 t1 List.mem_cons_self
  have h2 := h.2.1 t2 (List.mem_cons_of_mem _ List.mem_cons_self)
  have hN := h.2.2.1
  simp only [List.flatMap_cons] at hN
  have hsub : ((tc t1 ++ tc t2) ++ (Z ++ (hand.flatMap tc ++ tcs TT))).Nodup := by
    refine List.Perm.nodup ?_ hN
    refine List.perm_iff_count.mpr fun a => ?_
    simp only [List.count_append]
    omega
  obtain ⟨hn, hn2, hn3⟩ := List.nodup_append.mp hsub
  have m1 : t1.2.1 ∈ tc t1 ++ tc t2 := List.mem_append_left _ List.mem_cons_self
  have m2 : t2.2.1 ∈ tc t1 ++ tc t2 := List.mem_append_right _ List.mem_cons_self
  have hne : t1.2.1 ≠ t2.2.1 := (List.nodup_append.mp hn).2.2 _ List.mem_cons_self _ List.mem_cons_self
  have out : ∀ c ∈ tc t1 ++ tc t2, c ∉ Z ∧ c ∉ hand.flatMap tc ++ tcs TT := fun c hc =>
    ⟨fun hz => hn3 c hc c (List.mem_append_left _ hz) rfl, fun hz => hn3 c hc c (List.mem_append_right _ hz) rfl⟩
  have hlt : ∀ c ∈ hand.flatMap tc ++ tcs TT, c < 200 := fun c hc => PI_lt h c (by
    rcases List.mem_append.mp hc with hc | hc
    · simp only [List.flatMap_cons]
      exact List.mem_append_left _ (List.mem_append_right _ (List.mem_append_right _ hc))
    · exact List.mem_append_right _ hc)
  rw [x_link_RS h1 h2 hrk hne]
  have hi : ∀ (a b : Tr) (k : Nat), a.2.1 < 200 → b.2.1 < 200 → (k < 200 ∨ 800 ≤ k) → lkF f a b k = f k := fun a b k ha hb hk => by
    unfold lkF
    rw [pk_un (by omega), pk_un (by omega), pk_un (by omega)]
  have pm : ∀ (a b : Tr), (tc (lkT a b)).Perm (tc a ++ tc b) := fun a b => by
    refine List.perm_iff_count.mpr fun x => ?_
    simp only [tc, lkT, fcells, List.count_append, List.count_cons]
    omega
  split
  · rename_i hlt2
    have hk : f t2.2.1 ≤ f t1.2.1 := Int32.le_of_lt hlt2
    have hn' : (tc t2 ++ tc t1).Nodup := List.Perm.nodup List.perm_append_comm hn
    refine ⟨lkF f t2 t1, lkT t2 t1, rfl, ?_, lkF_agr h.2.2.2.2 h2.1 h1.1 (out _ m2).1 (out _ m1).1, by show t2.1 + 1 = _; omega, (pm t2 t1).trans List.perm_append_comm, ?_, fun k hk => hi _ _ k h2.1 h1.1 (Or.inl hk), fun k hk => hi _ _ k h2.1 h1.1 (Or.inr hk)⟩
    · refine PI_chg (ts := [t1, t2]) (ts' := [lkT t2 t1]) (hand := hand) h (lkF_agr hlt h2.1 h1.1 (out _ m2).2 (out _ m1).2) (fun i _ => hi _ _ _ h2.1 h1.1 (Or.inr (by omega))) (fun t ht => ?_) ?_
      · rw [List.mem_singleton.mp ht]
        exact lk_tok h2 h1 hrk.symm hk hn'
      · simpa [List.flatMap_cons] using (pm t2 t1).trans List.perm_append_comm
    · show flen t2.2.2 + 1 ≤ _
      have := h2.2.2.1
      omega
  · rename_i hlt2
    have hk : f t1.2.1 ≤ f t2.2.1 := Int32.not_lt.mp hlt2
    refine ⟨lkF f t1 t2, lkT t1 t2, rfl, ?_, lkF_agr h.2.2.2.2 h1.1 h2.1 (out _ m1).1 (out _ m2).1, rfl, pm t1 t2, ?_, fun k hk => hi _ _ k h1.1 h2.1 (Or.inl hk), fun k hk => hi _ _ k h1.1 h2.1 (Or.inr hk)⟩
    · refine PI_chg (ts := [t1, t2]) (ts' := [lkT t1 t2]) (hand := hand) h (lkF_agr hlt h1.1 h2.1 (out _ m1).2 (out _ m2).2) (fun i _ => hi _ _ _ h1.1 h2.1 (Or.inr (by omega))) (fun t ht => ?_) ?_
      · rw [List.mem_singleton.mp ht]
        exact lk_tok h1 h2 hrk hk hn
      · simpa [List.flatMap_cons] using pm t1 t2
    · show flen t1.2.2 + 1 ≤ _
      have := h1.2.2.1
      omega
