/-! the loops of the listing, without their counters -/
def x_lcL : Nat → Sx → Int32 → Int32 → Int32 × Sx
  | 0, σ, e, _ => (e, σ)
  | n + 1, σ, e, ce =>
    if ce = -1 then (e, σ) else if 200 ≤ e then (e, σ) else
      let q := x_read (x_write σ (800 + e) ce) (600 + ce)
      x_lcL n q.2 (e + 1) q.1
def x_lsT (h : Int32) : Nat → Sx → Int32 → Int32 → Int32 × Sx
  | 0, σ, count, _ => (count, σ)
  | n + 1, σ, count, rank =>
    let q := x_read σ (x_topAt h rank)
    let q2 := x_listChain q.2 count q.1 1
    x_lsT h n q2.2 q2.1 (rank + 1)
def x_lsC : Nat → Sx → Int32 → Int32 → Int32 × Sx
  | 0, σ, count, _ => (count, σ)
  | n + 1, σ, count, i =>
    if count ≤ i then (count, σ) else
      let q := x_read σ (800 + i)
      let q2 := x_read q.2 (400 + q.1)
      let q3 := x_listChain q2.2 count q2.1 200
      x_lsC n q3.2 q3.1 (i + 1)
def x_cuL (bound : Int64) : Nat → Sx → Int32 → Int32 → Int32 × Sx
  | 0, σ, found, _ => (found, σ)
  | n + 1, σ, found, i =>
    let q := x_listedKey σ i
    if bound < q.1.toInt64 then x_cuL bound n q.2 found (i + 1) else x_cuL bound n q.2 (found + 1) (i + 1)
def x_kthL (count k : Int32) : Nat → Sx → Int64 → Int64 → Int64 × Sx
  | 0, σ, low, _ => (low, σ)
  | n + 1, σ, low, high =>
    let q := x_countUpTo σ count ((low + high) >>> ((1 : Int32).toInt64 &&& 63))
    if q.1 ≤ k then x_kthL count k n q.2 ((low + high) >>> ((1 : Int32).toInt64 &&& 63) + 1) high else x_kthL count k n q.2 low ((low + high) >>> ((1 : Int32).toInt64 &&& 63))
def x_sumL : Nat → Sx → Int64 → Int32 → Int64 × Sx
  | 0, σ, total, _ => (total, σ)
  | n + 1, σ, total, i =>
    let q := x_listedKey σ i
    x_sumL n q.2 (total + q.1.toInt64) (i + 1)
theorem lcL_eq (M : Nat) (hM : M < 2 ^ 31) : ∀ (m i : Nat) (σ : Sx) (e ce : Int32), i + m = M → y_lcL (nI M) (m + 1) σ e ce (nI i) = x_lcL m σ e ce := by
  intro m
  induction m with
  | zero =>
    intro i σ e ce hi
    unfold y_lcL x_lcL
    rw [if_pos (nI_le (by omega) (by omega))]
  | succ m ih =>
    intro i σ e ce hi
    unfold y_lcL x_lcL
    rw [if_neg (nI_ge (by omega) (by omega))]
    split
    · rfl
    · split
      · rfl
      · simp only
        rw [nI_1]
        exact ih (i + 1) _ _ _ (by omega)
theorem lch_1 (σ : Sx) (c f : Int32) : x_listChain σ c f 1 = x_lcL 1 σ c f := by
  have h := lcL_eq 1 (by omega) 1 0 σ c f (by omega)
  exact h
theorem lch_200 (σ : Sx) (c f : Int32) : x_listChain σ c f 200 = x_lcL 200 σ c f := by
  have h := lcL_eq 200 (by omega) 200 0 σ c f (by omega)
  exact h
theorem lsT_eq (h : Int32) : ∀ (m i : Nat) (σ : Sx) (b : Int32), i + m = 8 → y_lsT h (m + 1) σ b (nI i) = x_lsT h m σ b (nI i) := by
  intro m
  induction m with
  | zero =>
    intro i σ b hi
    unfold y_lsT x_lsT
    rw [if_pos (show (8 : Int32) ≤ nI i from nI_le (a := 8) (by omega) (by omega))]
  | succ m ih =>
    intro i σ b hi
    unfold y_lsT x_lsT
    rw [if_neg (show ¬ (8 : Int32) ≤ nI i from nI_ge (b := 8) (by omega) (by omega))]
    simp only
    rw [nI_1]
    exact ih (i + 1) _ _ (by omega)
theorem lsC_eq : ∀ (m i : Nat) (σ : Sx) (b : Int32), i + m = 200 → y_lsC (m + 1) σ b (nI i) = x_lsC m σ b (nI i) := by
  intro m
  induction m with
  | zero =>
    intro i σ b hi
    unfold y_lsC x_lsC
    split
    · rfl
    · rw [if_pos (show (200 : Int32) ≤ nI i from nI_le (a := 200) (by omega) (by omega))]
  | succ m ih =>
    intro i σ b hi
    unfold y_lsC x_lsC
    split
    · rfl
    · rw [if_neg (show ¬ (200 : Int32) ≤ nI i from nI_ge (b := 200) (by omega) (by omega))]
      simp only
      rw [nI_1]
      exact ih (i + 1) _ _ (by omega)
theorem cuL_eq (bd : Int64) (M : Nat) (hM : M < 2 ^ 31) : ∀ (m i : Nat) (σ : Sx) (b : Int32), i + m = M → y_cuL bd (nI M) (m + 1) σ b (nI i) = x_cuL bd m σ b (nI i) := by
  intro m
  induction m with
  | zero =>
    intro i σ b hi
    unfold y_cuL x_cuL
    rw [if_pos (nI_le (by omega) (by omega))]
  | succ m ih =>
    intro i σ b hi
    unfold y_cuL x_cuL
    rw [if_neg (nI_ge (by omega) (by omega))]
    simp only
    split
    · rw [nI_1]
      exact ih (i + 1) _ _ (by omega)
    · rw [nI_1]
      exact ih (i + 1) _ _ (by omega)
theorem sumL_eq (M : Nat) (hM : M < 2 ^ 31) : ∀ (m i : Nat) (σ : Sx) (b : Int64), i + m = M → y_sumL (nI M) (m + 1) σ b (nI i) = x_sumL m σ b (nI i) := by
  intro m
  induction m with
  | zero =>
    intro i σ b hi
    unfold y_sumL x_sumL
    rw [if_pos (nI_le (by omega) (by omega))]
  | succ m ih =>
    intro i σ b hi
    unfold y_sumL x_sumL
    rw [if_neg (nI_ge (by omega) (by omega))]
    simp only
    rw [nI_1]
    exact ih (i + 1) _ _ (by omega)
theorem kthL_eq (ct k : Int32) : ∀ (m i : Nat) (σ : Sx) (lo hi : Int64), i + m = 32 → y_kthL ct k (m + 1) σ lo hi (nI i) = x_kthL ct k m σ lo hi := by
  intro m
  induction m with
  | zero =>
    intro i σ lo hi h
    unfold y_kthL x_kthL
    rw [if_pos (show (32 : Int32) ≤ nI i from nI_le (a := 32) (by omega) (by omega))]
  | succ m ih =>
    intro i σ lo hi h
    unfold y_kthL x_kthL
    rw [if_neg (show ¬ (32 : Int32) ≤ nI i from nI_ge (b := 32) (by omega) (by omega))]
    simp only
    split
    · rw [nI_1]
      exact ih (i + 1) _ _ _ (by omega)
    · rw [nI_1]
      exact ih (i + 1) _ _ _ (by omega)
/-! the listing of a heap's cells, the count, the sum, the k-th -/
def kids : Std.Format → List (Nat × Std.Format)
  | .append (.tag c a) b => (c, a) :: kids b
  | _ => []
def pcs (P : List (Nat × Std.Format)) : List Nat := P.flatMap (fun q => fcells q.2)
def Lst (g : Nat → Int32) (L : List Nat) : Prop := ∀ j c, L[j]? = some c → g (800 + j) = nI c
theorem kids_len : ∀ b : Std.Format, (kids b).length = flen b := by
  intro b
  induction b using flen.induct with
  | case1 c a b ih => simp [kids, flen, ih]
  | case2 b hb =>
    rw [kids, flen]
    · rfl
    · exact hb
    · exact hb
theorem kids_perm : ∀ b : Std.Format, (fcells b).Perm ((kids b).map Prod.fst ++ pcs (kids b)) := by
  intro b
  induction b using flen.induct with
  | case1 c a b ih =>
    refine List.perm_iff_count.mpr fun x => ?_
    have := ih.count_eq x
    simp only [fcells, kids, pcs, List.flatMap_cons, List.map_cons, List.count_cons, List.count_append, List.cons_append] at this ⊢
    omega
  | case2 b hb =>
    rw [kids, fcells]
    · simp [pcs]
    · exact hb
    · exact hb
theorem kids_ok {f : Nat → Int32} : ∀ (b : Std.Format) (q k : Int32), fok f b q k → ∀ x ∈ kids b, x.1 < 200 ∧ ∃ k', fok f x.2 (f (400 + x.1)) k' := by
  intro b
  induction b using flen.induct with
  | case1 c a b ih =>
    intro q k h x hx
    simp only [fok] at h
    simp only [kids, List.mem_cons] at hx
    rcases hx with rfl | hx
    · exact ⟨h.2.1, _, h.2.2.2.2.1⟩
    · exact ih _ _ h.2.2.2.2.2 x hx
  | case2 b hb =>
    intro q k h x hx
    rw [kids] at hx
    · simp at hx
    · exact hb
theorem Lst_add {f : Nat → Int32} {L : List Nat} {c : Nat} (h : Lst f L) : Lst (upd f (800 + L.length) (nI c)) (L ++ [c]) := by
  intro j x hx
  by_cases hj : j < L.length
  · rw [List.getElem?_append_left hj] at hx
    rw [pk_un (by omega)]
    exact h j x hx
  · rw [List.getElem?_append_right (by omega)] at hx
    have hj2 : j = L.length := by
      have := (List.getElem?_eq_some_iff.mp hx).1
      simp at this
      omega
    subst hj2
    simp at hx
    subst hx
    exact pk_us
theorem lc_L {σ : Sx} : ∀ (b : Std.Format) (m : Nat) (f : Nat → Int32) (n : Nat) (L : List Nat) (q k : Int32), fok f b q k → flen b ≤ m → L.length + flen b ≤ 200 → Lst f L →
    ∃ g n', x_lcL m (RS σ f n) (nI L.length) q = (nI (L.length + flen b), RS σ g n') ∧ Lst g (L ++ (kids b).map Prod.fst) ∧ ∀ j, (j < 800 ∨ 1000 ≤ j) → g j = f j := by
  intro b
  induction b using flen.induct with
  | case1 c a b ih =>
    intro m f n L q k h hm hL hl
    simp only [fok] at h
    simp only [flen] at hm hL
    obtain ⟨rfl, hc0, -, -, -, hfb⟩ := h
    cases m with
    | zero => omega
    | succ m =>
      unfold x_lcL
      rw [if_neg (nI_ne_m1 (by omega)), if_neg (show ¬ (200 : Int32) ≤ nI L.length from nI_ge (b := 200) (by omega) (by omega)), ad_800, RS_write (by omega), ad_600, RS_read (by omega)]
      simp only
      rw [nI_1, pk_un (by omega)]
      have h1 := Lst_add (c := c) hl
      have e : nI (L.length + 1) = nI (L ++ [c]).length := by simp
      rw [e]
      obtain ⟨g, n', e1, e2, e3⟩ := ih m (upd f (800 + L.length) (nI c)) (n + 1 + 1) (L ++ [c]) (f (600 + c)) k (fok_agr _ _ _ (agr_hi (fok_lt _ _ _ hfb) (by omega)) hfb) (by omega) (by simp; omega) h1
      refine ⟨g, n', ?_, ?_, fun j hj => ?_⟩
      · rw [e1]
        simp only [flen, List.length_append, List.length_cons, List.length_nil]
        rw [show L.length + (0 + 1) + flen b = L.length + (flen b + 1) by omega]
      · simpa [kids, List.append_assoc] using e2
      · rw [e3 j hj, pk_un (by omega)]
  | case2 b hb =>
    intro m f n L q k h hm hL hl
    have e2 : q = -1 := by rw [fok] at h; exact h; exact hb
    have e3 : flen b = 0 := by rw [flen]; exact hb
    have e4 : kids b = [] := by rw [kids]; exact hb
    subst e2
    refine ⟨f, n, ?_, by rw [e4]; simpa using hl, fun _ _ => rfl⟩
    rw [e3]
    cases m with
    | zero => rfl
    | succ m => unfold x_lcL; rw [if_pos rfl]; rfl
def rt : Option Tr → List (Nat × Std.Format)
  | none => []
  | some t => [(t.2.1, t.2.2)]
theorem lc_1 {σ : Sx} {f : Nat → Int32} {n i : Nat} {L : List Nat} {TT : Nat → Option Tr} {hand : List Tr} {Z : List Nat} {v : Int32} (hP : PI f TT hand Z) (hi : i < 72) (hv : v = f (1000 + i)) (hL : L.length < 200) (hl : Lst f L) :
    ∃ g n', x_listChain (RS σ f n) (nI L.length) v 1 = (nI (L ++ (rt (TT i)).map Prod.fst).length, RS σ g n') ∧ Lst g (L ++ (rt (TT i)).map Prod.fst) ∧ ∀ j, (j < 800 ∨ 1000 ≤ j) → g j = f j := by
  subst hv
  rw [lch_1]
  cases ht : TT i with
  | none =>
    rw [PI_none hP hi ht]
    refine ⟨f, n, ?_, by simpa [rt] using hl, fun _ _ => rfl⟩
    unfold x_lcL
    rw [if_pos rfl]
    simp [rt]
  | some t =>
    obtain ⟨e, htok, -⟩ := PI_some hP hi ht
    have := htok.1
    rw [e]
    unfold x_lcL
    rw [if_neg (nI_ne_m1 (by omega)), if_neg (show ¬ (200 : Int32) ≤ nI L.length from nI_ge (b := 200) (by omega) (by omega)), ad_800, RS_write (by omega), ad_600, RS_read (by omega)]
    simp only
    unfold x_lcL
    refine ⟨upd f (800 + L.length) (nI t.2.1), n + 1 + 1, ?_, Lst_add hl, fun j hj => pk_un (by omega)⟩
    rw [nI_1]
    simp [rt]
theorem PI_list {f g : Nat → Int32} {TT : Nat → Option Tr} {hand : List Tr} {Z : List Nat} (hP : PI f TT hand Z) (hg : ∀ j, (j < 800 ∨ 1000 ≤ j) → g j = f j) : PI g TT hand Z ∧ agr Z f g := by
  have ag : ∀ Z' : List Nat, (∀ c ∈ Z', c < 200) → agr Z' f g := fun Z' hZ c hc => by
    have := hZ c hc
    exact ⟨hg _ (by omega), hg _ (by omega), hg _ (by omega), hg _ (by omega)⟩
  exact ⟨PI_chg (ts := []) (ts' := []) (hand := hand) hP (ag _ (PI_lt hP)) (fun i _ => hg _ (by omega)) (fun t ht => by simp at ht) (List.Perm.refl _), ag _ hP.2.2.2.2⟩
theorem rt_cells (o : Option Tr) : (rt o).flatMap (fun q => q.1 :: fcells q.2) = oc o := by
  cases o <;> simp [rt, oc, tc]
def rtP (TT : Nat → Option Tr) (h r : Nat) : List (Nat × Std.Format) := rt (TT (64 + h)) ++ (List.range r).flatMap (fun j => rt (TT (8 * h + j)))
theorem rtP_hc (TT : Nat → Option Tr) (h : Nat) : (rtP TT h 8).flatMap (fun q => q.1 :: fcells q.2) = hc TT h := by
  unfold rtP hc
  rw [List.flatMap_append, rt_cells, List.flatMap_assoc]
  simp only [rt_cells]
theorem rtP_len (TT : Nat → Option Tr) (h : Nat) : ∀ r, (rtP TT h r).length ≤ 1 + r := by
  have e : ∀ o, (rt o).length ≤ 1 := fun o => by cases o <;> simp [rt]
  intro r
  induction r with
  | zero => have := e (TT (64 + h)); simp [rtP]; omega
  | succ r ih =>
    have := e (TT (8 * h + r))
    simp only [rtP, List.length_append, List.range_succ, List.flatMap_append, List.flatMap_cons, List.flatMap_nil, List.append_nil] at ih ⊢
    omega
theorem ls_T {σ : Sx} {h : Nat} {TT : Nat → Option Tr} {hand : List Tr} {Z : List Nat} (hh : h < 8) : ∀ (m r : Nat) (f : Nat → Int32) (n : Nat), r + m = 8 → PI f TT hand Z → Lst f ((rtP TT h r).map Prod.fst) →
    ∃ g n', x_lsT (nI h) m (RS σ f n) (nI ((rtP TT h r).map Prod.fst).length) (nI r) = (nI ((rtP TT h 8).map Prod.fst).length, RS σ g n') ∧ Lst g ((rtP TT h 8).map Prod.fst) ∧ ∀ j, (j < 800 ∨ 1000 ≤ j) → g j = f j := by
  intro m
  induction m with
  | zero =>
    intro r f n hr hP hl
    obtain rfl : r = 8 := by omega
    exact ⟨f, n, rfl, hl, fun _ _ => rfl⟩
  | succ m ih =>
    intro r f n hr hP hl
    unfold x_lsT
    rw [ad_top, RS_read (by omega)]
    simp only
    have hlen := rtP_len TT h r
    obtain ⟨g, n', e1, e2, e3⟩ := lc_1 (σ := σ) (n := n + 1) hP (show 8 * h + r < 72 by omega) rfl (by rw [List.length_map]; omega) hl
    have er : (rtP TT h r).map Prod.fst ++ (rt (TT (8 * h + r))).map Prod.fst = (rtP TT h (r + 1)).map Prod.fst := by
      simp [rtP, List.range_succ, List.flatMap_append]
    rw [er] at e1 e2
    rw [e1]
    simp only
    rw [nI_1]
    obtain ⟨g2, n2, d1, d2, d3⟩ := ih (r + 1) g n' (by omega) (PI_list hP e3).1 e2
    exact ⟨g2, n2, d1, d2, fun j hj => (d3 j hj).trans (e3 j hj)⟩
theorem ls_C {σ : Sx} {C : List Nat} (hC : C.length ≤ 200) : ∀ (m : Nat) (f : Nat → Int32) (n : Nat) (Dn : List Nat) (P : List (Nat × Std.Format)), Dn.length + m = 200 → Lst f (Dn ++ P.map Prod.fst) → (∀ x ∈ P, x.1 < 200 ∧ ∃ k, fok f x.2 (f (400 + x.1)) k) → ((Dn ++ P.map Prod.fst) ++ pcs P).Perm C →
    ∃ g n' L, x_lsC m (RS σ f n) (nI (Dn ++ P.map Prod.fst).length) (nI Dn.length) = (nI C.length, RS σ g n') ∧ L.Perm C ∧ Lst g L ∧ ∀ j, (j < 800 ∨ 1000 ≤ j) → g j = f j := by
  intro m
  induction m with
  | zero =>
    intro f n Dn P hm hl hok hp
    have h1 := hp.length_eq
    simp only [List.length_append, List.length_map] at h1
    have h2 : P = [] := by
      cases P with
      | nil => rfl
      | cons x P => simp at h1; omega
    subst h2
    refine ⟨f, n, Dn, ?_, by simpa [pcs] using hp, by simpa using hl, fun _ _ => rfl⟩
    unfold x_lsC
    rw [← h1]
    simp [pcs]
  | succ m ih =>
    intro f n Dn P hm hl hok hp
    have h1 := hp.length_eq
    simp only [List.length_append, List.length_map] at h1
    unfold x_lsC
    cases P with
    | nil =>
      rw [if_pos (by simp)]
      refine ⟨f, n, Dn, ?_, by simpa [pcs] using hp, by simpa using hl, fun _ _ => rfl⟩
      rw [← h1]
      simp [pcs]
    | cons x P =>
      obtain ⟨c, a⟩ := x
      simp only [List.length_cons] at h1
      have hlt : Dn.length < (Dn ++ ((c, a) :: P).map Prod.fst).length := by simp
      have hcnt : (Dn ++ ((c, a) :: P).map Prod.fst).length ≤ 200 := by simp; omega
      rw [if_neg (nI_ge hlt (by omega)), ad_800, RS_read (by omega)]
      simp only
      obtain ⟨hc0, k, hfk⟩ := hok (c, a) List.mem_cons_self
      have e0 : f (800 + Dn.length) = nI c := hl Dn.length c (by rw [List.getElem?_append_right (Nat.le_refl _)]; simp)
      rw [e0, ad_400, RS_read (by simp only at hc0; omega)]
      simp only
      have hk1 := kids_len a
      have hk2 := (kids_perm a).length_eq
      have hk3 : flen a ≤ (fcells a).length := by
        rw [hk2, List.length_append, List.length_map]
        omega
      have hk4 : (pcs ((c, a) :: P)).length = (fcells a).length + (pcs P).length := by simp [pcs]
      obtain ⟨g, n', e1, e2, e3⟩ := lc_L (σ := σ) a 200 f (n + 1 + 1) (Dn ++ ((c, a) :: P).map Prod.fst) (f (400 + c)) k hfk (by omega) (by simp only [List.length_append, List.length_map, List.length_cons]; omega) hl
      rw [lch_200, e1]
      simp only
      rw [nI_1]
      have eL : (Dn ++ ((c, a) :: P).map Prod.fst) ++ (kids a).map Prod.fst = (Dn ++ [c]) ++ (P ++ kids a).map Prod.fst := by simp
      have eN : (Dn ++ ((c, a) :: P).map Prod.fst).length + flen a = ((Dn ++ [c]) ++ (P ++ kids a).map Prod.fst).length := by
        rw [← eL, List.length_append (bs := (kids a).map Prod.fst), List.length_map (as := kids a), hk1]
      have eD : Dn.length + 1 = (Dn ++ [c]).length := by simp
      rw [eN, eD]
      rw [eL] at e2
      have ag : ∀ t p k', fok f t p k' → fok g t p k' := fun t p k' h => fok_agr _ _ _ (fun x hx => by
        have := fok_lt _ _ _ h x hx
        exact ⟨e3 _ (by omega), e3 _ (by omega), e3 _ (by omega), e3 _ (by omega)⟩) h
      obtain ⟨g2, n2, L, d1, d2, d3, d4⟩ := ih g n' (Dn ++ [c]) (P ++ kids a) (by simp; omega) e2 (fun x hx => by
        have h9 : x.1 < 200 ∧ ∃ k, fok f x.2 (f (400 + x.1)) k := by
          rcases List.mem_append.mp hx with hx | hx
          · exact hok x (List.mem_cons_of_mem _ hx)
          · exact kids_ok _ _ _ hfk x hx
        obtain ⟨h91, k9, h92⟩ := h9
        exact ⟨h91, k9, by rw [e3 (400 + x.1) (by omega)]; exact ag _ _ _ h92⟩) (by
        refine List.Perm.trans (List.perm_iff_count.mpr fun x => ?_) hp
        have := (kids_perm a).count_eq x
        simp only [pcs, List.flatMap_append, List.flatMap_cons, List.map_append, List.map_cons, List.count_append, List.count_cons, List.count_nil] at this ⊢
        omega)
      exact ⟨g2, n2, L, d1, d2, d3, fun j hj => (d4 j hj).trans (e3 j hj)⟩
theorem fm_le {α : Type} (l : List Nat) (hl : l.Nodup) : ∀ (I : List Nat) (g : Nat → List α), I.Nodup → (∀ i ∈ I, i ∈ l) → (I.flatMap g).length ≤ (l.flatMap g).length := by
  intro I
  induction I with
  | nil => intro g _ _; simp
  | cons i I ih =>
    intro g hn hs
    have hi := (List.nodup_cons.mp hn).1
    have h1 := fm_up g (fun j => if j = i then [] else g j) i l hl (hs i List.mem_cons_self) (fun j _ hj => by simp [hj])
    have h2 := ih (fun j => if j = i then [] else g j) (List.nodup_cons.mp hn).2 (fun j hj => hs j (List.mem_cons_of_mem _ hj))
    have h3 : I.flatMap (fun j => if j = i then [] else g j) = I.flatMap g := by
      apply fm_congr
      intro j hj
      exact if_neg (fun e : j = i => hi (e ▸ hj))
    have h4 := h1.length_eq
    rw [h3] at h2
    simp only [List.length_append, List.flatMap_cons, if_true, List.length_nil] at h4 ⊢
    omega
theorem hc_len {f : Nat → Int32} {TT : Nat → Option Tr} {hand : List Tr} {Z : List Nat} {h : Nat} (hh : h < 8) (hP : PI f TT hand Z) : Z.length + (hand.flatMap tc).length + (hc TT h).length ≤ 200 := by
  have h1 := fm_le (List.range 72) List.nodup_range ((64 + h) :: (List.range 8).map (fun r => 8 * h + r)) (fun i => oc (TT i)) (by
    refine List.nodup_cons.mpr ⟨fun hm => ?_, ?_⟩
    · obtain ⟨r, hr, he⟩ := List.mem_map.mp hm
      have := List.mem_range.mp hr
      omega
    · have e : (List.range 8).map (fun r => 8 * h + r) = [8 * h + 0, 8 * h + 1, 8 * h + 2, 8 * h + 3, 8 * h + 4, 8 * h + 5, 8 * h + 6, 8 * h + 7] := rfl
      rw [e]
      simp) (fun i hi => by
    rw [List.mem_range]
    rcases List.mem_cons.mp hi with rfl | hi
    · omega
    · obtain ⟨r, hr, he⟩ := List.mem_map.mp hi
      have := List.mem_range.mp hr
      omega)
  have h2 := hP.2.2.2.1
  simp only [List.length_append] at h2
  have e : (hc TT h) = ((64 + h) :: (List.range 8).map (fun r => 8 * h + r)).flatMap (fun i => oc (TT i)) := by
    unfold hc
    rw [List.flatMap_cons, List.flatMap_map]
  rw [e]
  unfold tcs at h2
  omega
/-- the listing: all the heap's cells, each once -/
theorem listCells_RS {σ : Sx} {f : Nat → Int32} {n h : Nat} {TT : Nat → Option Tr} {hand : List Tr} {Z : List Nat} (hh : h < 8) (hP : PI f TT hand Z) :
    ∃ g n' L, x_listCells (RS σ f n) (nI h) = (nI (hc TT h).length, RS σ g n') ∧ L.Perm (hc TT h) ∧ Lst g L ∧ ∀ j, (j < 800 ∨ 1000 ≤ j) → g j = f j := by
  have hlen := hc_len hh hP
  unfold x_listCells
  rw [ad_tw, RS_read (by omega)]
  simp only
  obtain ⟨g1, n1, a1, a2, a3⟩ := lc_1 (σ := σ) (n := n + 1) (L := []) hP (show 64 + h < 72 by omega) (v := f (1064 + h)) (by rw [show 1000 + (64 + h) = 1064 + h by omega]) (by simp) (fun j c hj => by simp at hj)
  have a1 : x_listChain (RS σ f (n + 1)) 0 (f (1064 + h)) 1 = (nI ([] ++ (rt (TT (64 + h))).map Prod.fst).length, RS σ g1 n1) := by rw [← nI_0]; exact a1
  rw [a1]
  simp only
  have e0 : [] ++ (rt (TT (64 + h))).map Prod.fst = (rtP TT h 0).map Prod.fst := by simp [rtP]
  rw [e0] at a2 ⊢
  obtain ⟨g2, n2, b1, b2, b3⟩ := ls_T (σ := σ) hh 8 0 g1 n1 (by omega) (PI_list hP a3).1 a2
  have b1 : y_lsT (nI h) 9 (RS σ g1 n1) (nI ((rtP TT h 0).map Prod.fst).length) 0 = (nI ((rtP TT h 8).map Prod.fst).length, RS σ g2 n2) := by rw [← nI_0]; exact (lsT_eq (nI h) 8 0 _ _ (by omega)).trans b1
  rw [b1]
  simp only
  have hok : ∀ x ∈ rtP TT h 8, x.1 < 200 ∧ ∃ k, fok g2 x.2 (g2 (400 + x.1)) k := fun x hx => by
    have hP2 := (PI_list (PI_list hP a3).1 b3).1
    have hx2 : ∃ i t, i < 72 ∧ TT i = some t ∧ x = (t.2.1, t.2.2) := by
      rcases List.mem_append.mp hx with hx | hx
      · cases ht : TT (64 + h) with
        | none => rw [ht] at hx; simp [rt] at hx
        | some t => rw [ht] at hx; exact ⟨64 + h, t, by omega, ht, by simpa [rt] using hx⟩
      · obtain ⟨r, hr, hx⟩ := List.mem_flatMap.mp hx
        have := List.mem_range.mp hr
        cases ht : TT (8 * h + r) with
        | none => rw [ht] at hx; simp [rt] at hx
        | some t => rw [ht] at hx; exact ⟨8 * h + r, t, by omega, ht, by simpa [rt] using hx⟩
    obtain ⟨i, t, hi, ht, rfl⟩ := hx2
    obtain ⟨-, htok, -⟩ := PI_some hP2 hi ht
    exact ⟨htok.1, _, htok.2.2.2.2⟩
  have hpm : (([] ++ (rtP TT h 8).map Prod.fst) ++ pcs (rtP TT h 8)).Perm (hc TT h) := by
    rw [← rtP_hc]
    generalize rtP TT h 8 = P
    induction P with
    | nil => simp [pcs]
    | cons x P ih =>
      refine List.perm_iff_count.mpr fun a => ?_
      have := ih.count_eq a
      simp only [pcs, List.flatMap_cons, List.map_cons, List.count_append, List.count_cons, List.nil_append, List.cons_append] at this ⊢
      omega
  obtain ⟨g3, n3, L, c1, c2, c3, c4⟩ := ls_C (σ := σ) (by omega) 200 g2 n2 [] (rtP TT h 8) (by simp) (by simpa using b2) hok hpm
  have c1 : y_lsC 201 (RS σ g2 n2) (nI ((rtP TT h 8).map Prod.fst).length) 0 = (nI (hc TT h).length, RS σ g3 n3) := by rw [← nI_0]; exact (lsC_eq 200 0 _ _ (by omega)).trans c1
  exact ⟨g3, n3, L, c1, c2, c3, fun j hj => ((c4 j hj).trans (b3 j hj)).trans (a3 j hj)⟩
theorem listedKey_RS {σ : Sx} {g : Nat → Int32} {n i c : Nat} {L : List Nat} (hl : Lst g L) (hi : L[i]? = some c) (hL : L.length ≤ 200) (hc0 : c < 200) : x_listedKey (RS σ g n) (nI i) = (g c, RS σ g (n + 2)) := by
  have h1 := (List.getElem?_eq_some_iff.mp hi).1
  unfold x_listedKey
  rw [ad_800, RS_read (by omega)]
  simp only
  rw [hl i c hi, ad_0, RS_read (by omega)]
theorem cu_L {σ : Sx} {g : Nat → Int32} {L : List Nat} {bound : Int64} (hl : Lst g L) (hL : L.length ≤ 200) (hc0 : ∀ c ∈ L, c < 200) : ∀ (rest Dn : List Nat) (n fd : Nat), L = Dn ++ rest →
    ∃ n', x_cuL bound rest.length (RS σ g n) (nI fd) (nI Dn.length) = (nI (fd + (rest.map g).countP (fun v => decide (v.toInt64 ≤ bound))), RS σ g n') := by
  intro rest
  induction rest with
  | nil => intro Dn n fd _; exact ⟨n, rfl⟩
  | cons c rest ih =>
    intro Dn n fd he
    have hi : L[Dn.length]? = some c := by rw [he, List.getElem?_append_right (Nat.le_refl _)]; simp
    simp only [List.length_cons]
    unfold x_cuL
    rw [listedKey_RS hl hi hL (hc0 c (List.mem_of_getElem? hi))]
    simp only
    have he2 : L = (Dn ++ [c]) ++ rest := by simp [he]
    have hd : Dn.length + 1 = (Dn ++ [c]).length := by simp
    rw [nI_1, nI_1, hd]
    split
    · rename_i hlt
      obtain ⟨n', e⟩ := ih (Dn ++ [c]) (n + 2) fd he2
      refine ⟨n', ?_⟩
      rw [e]
      have : ¬ (g c).toInt64 ≤ bound := Int64.not_le.mpr hlt
      simp [List.countP_cons, this]
    · rename_i hlt
      obtain ⟨n', e⟩ := ih (Dn ++ [c]) (n + 2) (fd + 1) he2
      refine ⟨n', ?_⟩
      rw [e]
      have : (g c).toInt64 ≤ bound := Int64.not_lt.mp hlt
      simp only [List.map_cons, List.countP_cons, this, decide_true, if_true]
      congr 2
      omega
theorem countUpTo_RS {σ : Sx} {g : Nat → Int32} {n : Nat} {L : List Nat} {bound : Int64} (hl : Lst g L) (hL : L.length ≤ 200) (hc0 : ∀ c ∈ L, c < 200) :
    ∃ n', x_countUpTo (RS σ g n) (nI L.length) bound = (nI ((L.map g).countP (fun v => decide (v.toInt64 ≤ bound))), RS σ g n') := by
  obtain ⟨n', e⟩ := cu_L (σ := σ) (bound := bound) hl hL hc0 L [] n 0 rfl
  refine ⟨n', ?_⟩
  unfold x_countUpTo
  rw [nI_toInt (by omega), ← nI_0, Int.toNat_natCast, cuL_eq bound L.length (by omega) L.length 0 _ _ (by omega)]
  simpa using e
def lsum : List Int32 → Int64
  | [] => 0
  | a :: l => a.toInt64 + lsum l
theorem lsum_perm {l l' : List Int32} (h : l.Perm l') : lsum l = lsum l' := by
  induction h with
  | nil => rfl
  | cons x _ ih => simp [lsum, ih]
  | swap x y l =>
    simp only [lsum]
    rw [← Int64.add_assoc, ← Int64.add_assoc, Int64.add_comm y.toInt64]
  | trans _ _ ih1 ih2 => exact ih1.trans ih2
theorem sum_L {σ : Sx} {g : Nat → Int32} {L : List Nat} (hl : Lst g L) (hL : L.length ≤ 200) (hc0 : ∀ c ∈ L, c < 200) : ∀ (rest Dn : List Nat) (n : Nat) (tot : Int64), L = Dn ++ rest →
    ∃ n', x_sumL rest.length (RS σ g n) tot (nI Dn.length) = (tot + lsum (rest.map g), RS σ g n') := by
  intro rest
  induction rest with
  | nil => intro Dn n tot _; exact ⟨n, by simp [x_sumL, lsum]⟩
  | cons c rest ih =>
    intro Dn n tot he
    have hi : L[Dn.length]? = some c := by rw [he, List.getElem?_append_right (Nat.le_refl _)]; simp
    simp only [List.length_cons]
    unfold x_sumL
    rw [listedKey_RS hl hi hL (hc0 c (List.mem_of_getElem? hi))]
    simp only
    have hd : Dn.length + 1 = (Dn ++ [c]).length := by simp
    rw [nI_1, hd]
    obtain ⟨n', e⟩ := ih (Dn ++ [c]) (n + 2) (tot + (g c).toInt64) (by simp [he])
    refine ⟨n', ?_⟩
    rw [e]
    simp [lsum, Int64.add_assoc]
/-- how many of the keys are not above v -/
def cle (S : List Int32) (v : Int) : Nat := S.countP (fun x => decide (x.toInt ≤ v))
theorem cle_bound (S : List Int32) (b : Int64) : S.countP (fun v => decide (v.toInt64 ≤ b)) = cle S b.toInt := by
  unfold cle
  congr 1
  funext v
  simp only [Int64.le_iff_toInt_le, Int32.toInt_toInt64]
theorem half {a b : Int64} (ha : -2147483648 ≤ a.toInt ∧ a.toInt ≤ 2147483647) (hb : -2147483648 ≤ b.toInt ∧ b.toInt ≤ 2147483647) : ((a + b) >>> ((1 : Int32).toInt64 &&& 63)).toInt = (a.toInt + b.toInt) / 2 := by
  have e1 : (a + b).toInt = a.toInt + b.toInt := by
    rw [Int64.toInt_add, Int.bmod_eq_of_le (by omega) (by omega)]
  have e2 : ((1 : Int32).toInt64 &&& 63) = 1 := by decide
  rw [e2]
  have e3 : ((a + b) >>> (1 : Int64)).toInt = (a + b).toInt >>> 1 := by
    rw [← Int64.toInt_toBitVec, Int64.toBitVec_shiftRight]
    simp [BitVec.sshiftRight', BitVec.toInt_sshiftRight]
  rw [e3, e1, Int.shiftRight_eq_div_pow]
  rfl
theorem kth_L {σ : Sx} {g : Nat → Int32} {L : List Nat} {k : Nat} (hl : Lst g L) (hL : L.length ≤ 200) (hc0 : ∀ c ∈ L, c < 200) (hk : k < 2 ^ 31) : ∀ (m n : Nat) (lo hi : Int64), m ≤ 32 → -2147483648 ≤ lo.toInt → lo.toInt ≤ hi.toInt → hi.toInt ≤ 2147483647 → hi.toInt - lo.toInt < 2 ^ m → cle (L.map g) (lo.toInt - 1) ≤ k → k < cle (L.map g) hi.toInt →
    ∃ v n', x_kthL (nI L.length) (nI k) m (RS σ g n) lo hi = (v, RS σ g n') ∧ cle (L.map g) (v.toInt - 1) ≤ k ∧ k < cle (L.map g) v.toInt ∧ -2147483648 ≤ v.toInt ∧ v.toInt ≤ 2147483647 := by
  intro m
  induction m with
  | zero =>
    intro n lo hi _ h1 h2 h3 h4 h5 h6
    have : hi.toInt = lo.toInt := by omega
    exact ⟨lo, n, rfl, h5, by rw [← this]; exact h6, h1, by omega⟩
  | succ m ih =>
    intro n lo hi hm h1 h2 h3 h4 h5 h6
    unfold x_kthL
    have hmid := half (a := lo) (b := hi) ⟨h1, by omega⟩ ⟨by omega, h3⟩
    generalize (lo + hi) >>> ((1 : Int32).toInt64 &&& 63) = mid at hmid ⊢
    simp only
    obtain ⟨n1, e1⟩ := countUpTo_RS (σ := σ) (n := n) (bound := mid) hl hL hc0
    rw [e1, cle_bound]
    simp only
    have hcl : cle (L.map g) mid.toInt ≤ 200 := by
      unfold cle
      have := List.countP_le_length (p := fun x : Int32 => decide (x.toInt ≤ mid.toInt)) (l := L.map g)
      rw [List.length_map] at this
      omega
    have hpow : (2 : Int) ^ (m + 1) = 2 * 2 ^ m := by rw [Int.pow_succ]; omega
    split
    · rename_i hle
      have hle2 : cle (L.map g) mid.toInt ≤ k := (nI_leI (by omega) hk).mp hle
      have hlt : mid.toInt < hi.toInt := by
        rcases Int.lt_or_le mid.toInt hi.toInt with h | h
        · exact h
        · exfalso
          have h7 : mid.toInt = hi.toInt := by omega
          rw [h7] at hle2
          omega
      have e2 : (mid + 1).toInt = mid.toInt + 1 := by
        rw [Int64.toInt_add, show (1 : Int64).toInt = 1 from rfl, Int.bmod_eq_of_le (by omega) (by omega)]
      refine ih n1 (mid + 1) hi (by omega) (by omega) (by omega) h3 (by omega) (by rw [e2, show mid.toInt + 1 - 1 = mid.toInt by omega]; exact hle2) h6
    · rename_i hle
      have hle2 : k < cle (L.map g) mid.toInt := by
        rcases Nat.lt_or_ge k (cle (L.map g) mid.toInt) with h | h
        · exact h
        · exact absurd ((nI_leI (by omega) hk).mpr h) hle
      exact ih n1 lo mid (by omega) h1 (by omega) (by omega) (by omega) h5 hle2
