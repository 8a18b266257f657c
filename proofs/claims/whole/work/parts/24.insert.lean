/-! a key is hung under a root; a cell is inserted -/
theorem PI_perm {f : Nat → Int32} {TT : Nat → Option Tr} {hand hand' : List Tr} {Z : List Nat} (hp : hand.Perm hand') (h : PI f TT hand Z) : PI f TT hand' Z := by
  have hN : NL (Z ++ (hand'.flatMap tc ++ tcs TT)) := NL_perm (((hp.flatMap_right tc).append_right _).append_left _) (PI_NL h)
  exact ⟨h.1, fun t ht => h.2.1 t (hp.mem_iff.mpr ht), hN.1, hN.2, h.2.2.2.2⟩
def hkF (f : Nat → Int32) (root c : Nat) (v1 v2 : Int32) : Nat → Int32 := upd (upd (upd (upd f root v1) c v2) (600 + c) (f (400 + root))) (400 + root) (nI c)
theorem hkF_agr {f : Nat → Int32} {root c : Nat} {v1 v2 : Int32} {Z : List Nat} (hZ : ∀ c ∈ Z, c < 200) (h1 : root < 200) (h2 : c < 200) (hr : root ∉ Z) (ho : c ∉ Z) : agr Z f (hkF f root c v1 v2) := by
  intro x hx
  have h3 := hZ x hx
  have h4 : x ≠ root := fun e => hr (e ▸ hx)
  have h5 : x ≠ c := fun e => ho (e ▸ hx)
  unfold hkF
  refine ⟨?_, ?_, ?_, ?_⟩ <;> rw [pk_un (by omega), pk_un (by omega), pk_un (by omega), pk_un (by omega)]
theorem hk_tok {f : Nat → Int32} {t : Tr} {c : Nat} {v1 v2 : Int32} (h1 : tok f t) (h2 : tok f (0, c, .nil)) (hl : flen t.2.2 + 1 ≤ 2 * t.1) (hv : v1 ≤ v2) (hv1 : v1 ≤ f t.2.1) (hn : (tc t ++ [c]).Nodup) : tok (hkF f t.2.1 c v1 v2) (t.1, t.2.1, .append (.tag c .nil) t.2.2) := by
  obtain ⟨a1, a2, a3, a4, a5⟩ := h1
  obtain ⟨b1, b2, b3, b4, b5⟩ := h2
  simp only at b1 b2 b5
  obtain ⟨n1, n2, n3⟩ := List.nodup_append.mp hn
  have hne : t.2.1 ≠ c := n3 _ List.mem_cons_self _ (List.mem_singleton.mpr rfl)
  have rr : t.2.1 ∉ fcells t.2.2 := (List.nodup_cons.mp n1).1
  have orr : c ∉ fcells t.2.2 := fun h => n3 _ (List.mem_cons_of_mem _ h) _ (List.mem_singleton.mpr rfl) rfl
  have e0r : hkF f t.2.1 c v1 v2 t.2.1 = v1 := by unfold hkF; rw [pk_un (by omega), pk_un (by omega), pk_un (by omega), pk_us]
  have e0o : hkF f t.2.1 c v1 v2 c = v2 := by unfold hkF; rw [pk_un (by omega), pk_un (by omega), pk_us]
  have e2o : hkF f t.2.1 c v1 v2 (200 + c) = f (200 + c) := by unfold hkF; rw [pk_un (by omega), pk_un (by omega), pk_un (by omega), pk_un (by omega)]
  have e2r : hkF f t.2.1 c v1 v2 (200 + t.2.1) = f (200 + t.2.1) := by unfold hkF; rw [pk_un (by omega), pk_un (by omega), pk_un (by omega), pk_un (by omega)]
  have e4o : hkF f t.2.1 c v1 v2 (400 + c) = f (400 + c) := by unfold hkF; rw [pk_un (by omega), pk_un (by omega), pk_un (by omega), pk_un (by omega)]
  have e6o : hkF f t.2.1 c v1 v2 (600 + c) = f (400 + t.2.1) := by unfold hkF; rw [pk_un (by omega), pk_us]
  have e4r : hkF f t.2.1 c v1 v2 (400 + t.2.1) = nI c := by unfold hkF; rw [pk_us]
  refine ⟨a1, by show hkF f t.2.1 c v1 v2 (200 + t.2.1) = _; rw [e2r]; exact a2, hl, ?_, ?_⟩
  · show 2 ^ t.1 ≤ 1 + (c :: ([] ++ fcells t.2.2)).length
    simp only [List.nil_append, List.length_cons]
    omega
  · show fok (hkF f t.2.1 c v1 v2) (.append (.tag c .nil) t.2.2) (hkF f t.2.1 c v1 v2 (400 + t.2.1)) (hkF f t.2.1 c v1 v2 t.2.1)
    rw [e4r, e0r]
    simp only [fok]
    rw [e0o, e2o, e4o, e6o]
    refine ⟨trivial, b1, hv, ⟨0, b2, by simp [flen], by simp [fcells]⟩, ?_, ?_⟩
    · simpa [fok] using b5
    · exact fok_mono _ _ _ _ hv1 (fok_agr _ _ _ (hkF_agr (fok_lt _ _ _ a5) a1 b1 rr orr) a5)
theorem x_hangKey_RS {σ : Sx} {f : Nat → Int32} {n root c : Nat} (h1 : root < 200) (h2 : c < 200) (hne : root ≠ c) : ∃ v1 v2 n', x_hangKey (RS σ f n) (nI root) (nI c) = RS σ (hkF f root c v1 v2) n' ∧ n' ≤ n + 7 ∧ v1 ≤ v2 ∧ v1 ≤ f root ∧ ([v1, v2] : List Int32).Perm [f root, f c] := by
  unfold x_hangKey
  simp only [ad_0, RS_read (show root < 1080 by omega), RS_read (show c < 1080 by omega)]
  split
  · rename_i hle
    refine ⟨f root, f c, n + 5, ?_, by omega, hle, Int32.le_refl _, List.Perm.refl _⟩
    rw [x_hangTree_RS h1 h2]
    unfold hkF
    rw [upd_same (f := f) rfl, upd_same (f := f) rfl]
  · rename_i hle
    have hlt : f c < f root := Int32.not_le.mp hle
    refine ⟨f c, f root, n + 7, ?_, by omega, Int32.le_of_lt hlt, Int32.le_of_lt hlt, List.Perm.swap _ _ _⟩
    rw [RS_write (show root < 1080 by omega), RS_write (show c < 1080 by omega), x_hangTree_RS h1 h2, pk_un (by omega), pk_un (by omega)]
    rfl
theorem PI_hang {σ : Sx} {f : Nat → Int32} {n c : Nat} {TT : Nat → Option Tr} {hand : List Tr} {Z : List Nat} {t : Tr} (h : PI f TT (t :: (0, c, .nil) :: hand) Z) (hl : flen t.2.2 + 1 ≤ 2 * t.1) :
    ∃ (g : Nat → Int32) (n' : Nat) (t' : Tr), x_hangKey (RS σ f n) (nI t.2.1) (nI c) = RS σ g n' ∧ n' ≤ n + 7 ∧ PI g TT (t' :: hand) Z ∧ agr Z f g ∧ t'.1 = t.1 ∧ t'.2.1 = t.2.1 ∧ (tc t').Perm (tc t ++ [c]) ∧ ((tc t').map g).Perm ((tc t ++ [c]).map f) ∧ (∀ x ∈ tcs TT, g x = f x) ∧ ∀ k, 800 ≤ k → g k = f k := by
  have h1 := h.2.1 t List.mem_cons_self
  have h2 := h.2.1 (0, c, .nil) (List.mem_cons_of_mem _ List.mem_cons_self)
  have ec : tc (0, c, .nil) = [c] := by simp [tc, fcells]
  have hsub : ((tc t ++ [c]) ++ (Z ++ (hand.flatMap tc ++ tcs TT))).Nodup := by
    refine List.Perm.nodup ?_ h.2.2.1
    refine List.perm_iff_count.mpr fun a => ?_
    simp only [List.flatMap_cons, ec, List.count_append]
    omega
  obtain ⟨hn, hn2, hn3⟩ := List.nodup_append.mp hsub
  have m1 : t.2.1 ∈ tc t ++ [c] := List.mem_append_left _ List.mem_cons_self
  have m2 : c ∈ tc t ++ [c] := List.mem_append_right _ (List.mem_singleton.mpr rfl)
  have hne : t.2.1 ≠ c := (List.nodup_append.mp hn).2.2 _ List.mem_cons_self _ (List.mem_singleton.mpr rfl)
  have out : ∀ x ∈ tc t ++ [c], x ∉ Z ∧ x ∉ hand.flatMap tc ++ tcs TT := fun x hx =>
    ⟨fun hz => hn3 x hx x (List.mem_append_left _ hz) rfl, fun hz => hn3 x hx x (List.mem_append_right _ hz) rfl⟩
  have hlt : ∀ x ∈ hand.flatMap tc ++ tcs TT, x < 200 := fun x hx => PI_lt h x (by
    rcases List.mem_append.mp hx with hx | hx
    · simp only [List.flatMap_cons]
      exact List.mem_append_left _ (List.mem_append_right _ (List.mem_append_right _ hx))
    · exact List.mem_append_right _ hx)
  have hc1 : t.2.1 < 200 := h1.1
  have hc2 : c < 200 := h2.1
  obtain ⟨v1, v2, n', e, hn', hv, hv1, hvp⟩ := x_hangKey_RS (σ := σ) (f := f) (n := n) hc1 hc2 hne
  have pm : (tc (t.1, t.2.1, Std.Format.append (.tag c .nil) t.2.2)).Perm (tc t ++ [c]) := by
    refine List.perm_iff_count.mpr fun x => ?_
    simp only [tc, fcells, List.nil_append, List.count_append, List.count_cons, List.count_nil]
    omega
  have ag := hkF_agr (v1 := v1) (v2 := v2) (f := f) hlt hc1 hc2 (out _ m1).2 (out _ m2).2
  refine ⟨_, n', (t.1, t.2.1, .append (.tag c .nil) t.2.2), e, hn', ?_, hkF_agr h.2.2.2.2 hc1 hc2 (out _ m1).1 (out _ m2).1, rfl, rfl, pm, ?_, fun x hx => (ag x (List.mem_append_right _ hx)).1, fun k hk => by unfold hkF; rw [pk_un (by omega), pk_un (by omega), pk_un (by omega), pk_un (by omega)]⟩
  · refine PI_chg (ts := [t, (0, c, .nil)]) (ts' := [(t.1, t.2.1, .append (.tag c .nil) t.2.2)]) (hand := hand) h ag (fun i _ => by unfold hkF; rw [pk_un (by omega), pk_un (by omega), pk_un (by omega), pk_un (by omega)]) (fun t' ht => ?_) ?_
    · rw [List.mem_singleton.mp ht]
      exact hk_tok h1 h2 hl hv hv1 hn
    · simpa [List.flatMap_cons, ec] using pm
  · have rr : t.2.1 ∉ fcells t.2.2 := (List.nodup_cons.mp (List.nodup_append.mp hn).1).1
    have orr : c ∉ fcells t.2.2 := fun hx => (List.nodup_append.mp hn).2.2 _ (List.mem_cons_of_mem _ hx) _ (List.mem_singleton.mpr rfl) rfl
    have em : (fcells t.2.2).map (hkF f t.2.1 c v1 v2) = (fcells t.2.2).map f := List.map_congr_left fun x hx => (hkF_agr (v1 := v1) (v2 := v2) (f := f) (fok_lt _ _ _ h1.2.2.2.2) hc1 hc2 rr orr x hx).1
    have e0r : hkF f t.2.1 c v1 v2 t.2.1 = v1 := by unfold hkF; rw [pk_un (by omega), pk_un (by omega), pk_un (by omega), pk_us]
    have e0o : hkF f t.2.1 c v1 v2 c = v2 := by unfold hkF; rw [pk_un (by omega), pk_un (by omega), pk_us]
    simp only [tc, fcells, List.nil_append, List.map_cons, List.map_append, List.map_nil, em, e0r, e0o]
    refine List.perm_iff_count.mpr fun x => ?_
    have := hvp.count_eq x
    simp only [List.count_append, List.count_cons, List.count_nil] at this ⊢
    omega
def TW (TT : Nat → Option Tr) (h : Nat) : Prop := ∀ t, TT (64 + h) = some t → t.1 < 8 ∧ (∃ t', TT (8 * h + t.1) = some t') ∧ ∀ r, r < t.1 → TT (8 * h + r) = none
theorem insTail_RS {σ : Sx} {f : Nat → Int32} {n h : Nat} {TT : Nat → Option Tr} {Z : List Nat} {t : Tr} (hh : h < 8) (hP : PI f TT [t] Z) (htw : TT (64 + h) = none) (hlow : ∀ r, r < t.1 → TT (8 * h + r) = none) :
    ∃ (g : Nat → Int32) (TT' : Nat → Option Tr), x_insTail (RS σ f n) (nI h) (nI t.2.1) = RS σ g (n + 3) ∧ PI g TT' [] Z ∧ agr Z f g ∧ (hc TT' h).Perm (tc t ++ hc TT h) ∧ TW TT' h ∧ (∀ j, j ≠ 64 + h → (j < 8 * h ∨ 8 * h + 8 ≤ j) → TT' j = TT j) ∧ (∀ k, k < 200 → g k = f k) ∧ ∀ k, 1072 ≤ k → g k = f k := by
  have hr := PI_rank hP
  have htok := hP.2.1 t List.mem_cons_self
  have hlt := htok.1
  unfold x_insTail
  rw [ad_200, RS_read (by omega)]
  simp only
  rw [htok.2.1, ad_top, RS_read (by omega)]
  simp only
  cases ht : TT (8 * h + t.1) with
  | none =>
    rw [if_pos (PI_none hP (by omega) ht), RS_write (by omega)]
    refine ⟨_, up TT (8 * h + t.1) (some t), rfl, PI_put hP (by omega) ht (fun _ => by omega), agr_hi hP.2.2.2.2 (by omega), ?_, fun t' ht' => ?_, fun j _ hj => up_n (by omega), fun k hk => pk_un (by omega), fun k hk => pk_un (by omega)⟩
    · have h3 := hc_top (TT := TT) (o := some t) hh hr
      rw [ht] at h3
      simpa [oc] using h3
    · rw [up_n (by omega), htw] at ht'
      cases ht'
  | some t2 =>
    obtain ⟨e, htok2, -⟩ := PI_some hP (show 8 * h + t.1 < 72 by omega) ht
    have := htok2.1
    rw [if_neg (by rw [e]; exact nI_ne_m1 (by omega)), ad_tw, RS_write (by omega)]
    rw [show 1064 + h = 1000 + (64 + h) by omega]
    refine ⟨_, up TT (64 + h) (some t), rfl, PI_put hP (by omega) htw (fun h2 => by omega), agr_hi hP.2.2.2.2 (by omega), ?_, fun t' ht' => ?_, fun j hj _ => up_n hj, fun k hk => pk_un (by omega), fun k hk => pk_un (by omega)⟩
    · have h3 := hc_twin (TT := TT) (o := some t) hh
      rw [htw] at h3
      simpa [oc] using h3
    · rw [up_s] at ht'
      cases ht'
      exact ⟨hr, ⟨t2, by rw [up_n (by omega)]; exact ht⟩, fun r hr2 => by rw [up_n (by omega)]; exact hlow r hr2⟩
theorem insert_RS {σ : Sx} {f : Nat → Int32} {n h c : Nat} {TT : Nat → Option Tr} {Z : List Nat} (hh : h < 8) (hP : PI f TT [(0, c, .nil)] Z) (hT : TW TT h) :
    ∃ (g : Nat → Int32) (n' : Nat) (TT' : Nat → Option Tr), x_insertCell (RS σ f n) (nI h) (nI c) = RS σ g n' ∧ n' ≤ n + 22 ∧ PI g TT' [] Z ∧ agr Z f g ∧ (hc TT' h).length = 1 + (hc TT h).length ∧ ((hc TT' h).map g).Perm (f c :: (hc TT h).map f) ∧ TW TT' h ∧ (∀ j, j ≠ 64 + h → (j < 8 * h ∨ 8 * h + 8 ≤ j) → TT' j = TT j) ∧ (∀ h', h' < 8 → h' ≠ h → ∀ x ∈ hc TT h', g x = f x) ∧ ∀ k, 1072 ≤ k → g k = f k := by
  unfold x_insertCell
  rw [x_cutTwin_RS hh]
  simp only
  cases htw : TT (64 + h) with
  | none =>
    have e := PI_none hP (show 64 + h < 72 by omega) htw
    rw [if_pos e, upd_same e]
    obtain ⟨g, TT', b1, b2, b3, b4, b5, b6, b7, b8⟩ := insTail_RS (σ := σ) (n := n + 2) hh hP htw (fun r hr => by simp at hr)
    have b1 : x_insTail (RS σ f (n + 2)) (nI h) (nI c) = _ := b1
    have hlt := PI_lt hP
    have hm : ∀ x ∈ tc (0, c, .nil) ++ hc TT h, g x = f x := fun x hx => b7 x (hlt x (by
      rcases List.mem_append.mp hx with hx | hx
      · exact List.mem_append_left _ (by simpa [List.flatMap_cons] using hx)
      · exact List.mem_append_right _ (hc_tcs hh hx)))
    refine ⟨g, n + 2 + 3, TT', b1, by omega, b2, b3, by rw [b4.length_eq]; simp [tc, fcells]; omega, ?_, b5, b6, fun h' hh' _ x hx => b7 x (hlt x (List.mem_append_right _ (hc_tcs hh' hx))), b8⟩
    have h1 := b4.map g
    rw [List.map_congr_left hm] at h1
    simpa [tc, fcells] using h1
  | some tw =>
    obtain ⟨hr, ⟨tp, htp⟩, hlow⟩ := hT tw htw
    obtain ⟨e, htokw, -⟩ := PI_some hP (show 64 + h < 72 by omega) htw
    have hltw := htokw.1
    rw [e, if_neg (nI_ne_m1 (by omega)), ad_200, RS_read (by omega)]
    simp only
    rw [pk_un (by omega), htokw.2.1, x_cutTop_RS hh hr]
    simp only
    have h1 := PI_cut hP (show 64 + h < 72 by omega) htw
    have htp1 : up TT (64 + h) none (8 * h + tw.1) = some tp := by rw [up_n (by omega)]; exact htp
    obtain ⟨e2, -, hrp⟩ := PI_some h1 (show 8 * h + tw.1 < 72 by omega) htp1
    have hrp : tp.1 = tw.1 := by have := hrp (by omega); omega
    rw [e2]
    have h2 := PI_cut h1 (show 8 * h + tw.1 < 72 by omega) htp1
    have h3 := PI_perm (hand' := [tw, tp, (0, c, .nil)]) (List.Perm.swap _ _ _) h2
    obtain ⟨g, t, a1, a2, a3, a4, a5, a6, a7, a8⟩ := PI_link (σ := σ) (n := n + 2 + 1 + 2) h3 hrp.symm
    rw [a1]
    simp only
    obtain ⟨g2, n2, t2, c1, c2, c3, c4, c5, c6, c7, c8, c9, c10⟩ := PI_hang (σ := σ) (n := n + 2 + 1 + 2 + 7) a2 (by omega)
    rw [c1, ← c6]
    have hno : ∀ r, r < t2.1 → up (up TT (64 + h) none) (8 * h + tw.1) none (8 * h + r) = none := fun r hr2 => by
      by_cases hrr : r = tw.1
      · subst hrr; exact up_s
      · rw [up_n (by omega), up_n (by omega)]
        exact hlow r (by omega)
    obtain ⟨g3, TT3, d1, d2, d3, d4, d5, d6, d7, d8⟩ := insTail_RS (σ := σ) (n := n2) hh c3 (by rw [up_n (by omega), up_s]) hno
    have p1 := hc_twin (TT := TT) (o := none) hh
    have p2 := hc_top (TT := up TT (64 + h) none) (o := none) hh hr
    rw [htw] at p1
    rw [htp1] at p2
    have hlt3 := PI_lt c3
    refine ⟨g3, n2 + 3, TT3, d1, by omega, d2, agr_tr (agr_tr (agr_tr (agr_tr (agr_hi hP.2.2.2.2 (by omega)) (agr_hi hP.2.2.2.2 (by omega))) a3) c4) d3, ?_, ?_, d5, fun j hj hj2 => by rw [d6 j hj hj2, up_n (by omega), up_n hj], ?_, fun k hk => by rw [d8 k hk, c10 k (by omega), a8 k (by omega), pk_un (by omega), pk_un (by omega)]⟩
    · have l1 := d4.length_eq
      have l2 := c7.length_eq
      have l3 := a5.length_eq
      have l4 := p1.length_eq
      have l5 := p2.length_eq
      simp only [List.length_append, oc, List.length_nil, List.length_cons] at l1 l2 l3 l4 l5 ⊢
      omega
    · -- the keys
      have hsub : ∀ x ∈ hc (up (up TT (64 + h) none) (8 * h + tw.1) none) h, x ∈ tcs (up (up TT (64 + h) none) (8 * h + tw.1) none) := fun x hx => hc_tcs hh hx
      have k1 : (tc t2 ++ hc (up (up TT (64 + h) none) (8 * h + tw.1) none) h).map g3 = (tc t2).map g2 ++ (hc (up (up TT (64 + h) none) (8 * h + tw.1) none) h).map g := by
        rw [List.map_append]
        congr 1
        · exact List.map_congr_left fun x hx => d7 x (hlt3 x (List.mem_append_left _ (by simpa [List.flatMap_cons] using hx)))
        · exact List.map_congr_left fun x hx => (d7 x (hlt3 x (List.mem_append_right _ (hsub x hx)))).trans (c9 x (hsub x hx))
      have hlt0 := PI_lt h2
      have hg : ∀ x, x < 200 → g x = f x := fun x hx => by rw [a7 x hx, pk_un (by omega), pk_un (by omega)]
      have k2 : (tc t ++ [c]).map g = (tc t ++ [c]).map f := List.map_congr_left fun x hx => hg x (by
        rcases List.mem_append.mp hx with hx | hx
        · have h9 := a5.mem_iff.mp hx
          refine hlt0 x (List.mem_append_left _ ?_)
          simp only [List.flatMap_cons, List.mem_append] at h9 ⊢
          rcases h9 with h9 | h9
          · exact Or.inr (Or.inl h9)
          · exact Or.inl h9
        · rw [List.mem_singleton.mp hx]
          exact (hP.2.1 _ List.mem_cons_self).1)
      have k3 : (hc (up (up TT (64 + h) none) (8 * h + tw.1) none) h).map g = (hc (up (up TT (64 + h) none) (8 * h + tw.1) none) h).map f := List.map_congr_left fun x hx => hg x (hlt0 x (List.mem_append_right _ (hsub x hx)))
      have m1 := d4.map g3
      rw [k1, k3] at m1
      have m2 := c8
      rw [k2] at m2
      have m3 := a5.map f
      have m4 := p1.map f
      have m5 := p2.map f
      refine List.perm_iff_count.mpr fun x => ?_
      have q1 := m1.count_eq x
      have q2 := m2.count_eq x
      have q3 := m3.count_eq x
      have q4 := m4.count_eq x
      have q5 := m5.count_eq x
      simp only [List.map_append, List.count_append, oc, List.map_nil, List.count_nil, List.map_cons, List.count_cons] at q1 q2 q3 q4 q5 ⊢
      omega
    · intro h' hh' hne x hx
      have e9 : hc (up (up TT (64 + h) none) (8 * h + tw.1) none) h' = hc TT h' := hc_eq hh' (by rw [up_n (by omega), up_n (by omega)]) (fun r hr2 => by rw [up_n (by omega), up_n (by omega)])
      rw [← e9] at hx
      have hx2 := hc_tcs hh' hx
      rw [d7 x (hlt3 x (List.mem_append_right _ hx2)), c9 x hx2, a7 x (hlt3 x (List.mem_append_right _ hx2)), pk_un (by have := hlt3 x (List.mem_append_right _ hx2); omega), pk_un (by have := hlt3 x (List.mem_append_right _ hx2); omega)]
