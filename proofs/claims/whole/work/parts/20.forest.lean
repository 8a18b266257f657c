/-! the forest in the row: pure, nothing of the machine. A forest is a binary tree in a type that is there: .append (.tag cell children) siblings; all else is the empty forest -/
def RS (σ : Sx) (f : Nat → Int32) (n : Nat) : Sx := (f, σ.2.1, σ.2.2.1, σ.2.2.2.1, σ.2.2.2.2.1 + nI n, σ.2.2.2.2.2)
theorem RS_0 (σ : Sx) : RS σ σ.1 0 = σ := by
  unfold RS
  rw [nI_0]
  simp
theorem RS_read {σ : Sx} {f : Nat → Int32} {n k : Nat} (h : k < 1080) : x_read (RS σ f n) (nI k) = (f k, RS σ f (n + 1)) := by
  unfold x_read
  rw [if_neg (nI_pos (by omega)), if_pos (show nI k < (1080 : Int32) from nI_lt (b := 1080) h (by omega)), nI_clamp (by omega)]
  simp [RS, x_sS, nI_succ, Int32.add_assoc]
theorem RS_write {σ : Sx} {f : Nat → Int32} {n k : Nat} {v : Int32} (h : k < 1080) : x_write (RS σ f n) (nI k) v = RS σ (upd f k v) (n + 1) := by
  unfold x_write
  rw [if_neg (nI_pos (by omega)), if_pos (show nI k < (1080 : Int32) from nI_lt (b := 1080) h (by omega)), nI_clamp (by omega)]
  simp [RS, x_sS, x_sR, nI_succ, Int32.add_assoc]
theorem ad_0 (a : Nat) : (0 : Int32) + nI a = nI a := by simp
theorem ad_200 (a : Nat) : (200 : Int32) + nI a = nI (200 + a) := nI_add 200 a
theorem ad_400 (a : Nat) : (400 : Int32) + nI a = nI (400 + a) := nI_add 400 a
theorem ad_600 (a : Nat) : (600 : Int32) + nI a = nI (600 + a) := nI_add 600 a
theorem ad_800 (a : Nat) : (800 : Int32) + nI a = nI (800 + a) := nI_add 800 a
theorem ad_tw (a : Nat) : (1064 : Int32) + nI a = nI (1064 + a) := nI_add 1064 a
theorem ad_sz (a : Nat) : (1072 : Int32) + nI a = nI (1072 + a) := nI_add 1072 a
theorem ad_top (h r : Nat) : x_topAt (nI h) (nI r) = nI (1000 + (8 * h + r)) := by
  unfold x_topAt
  show nI 1000 + nI h * nI 8 + nI r = _
  rw [pk_mul, nI_add, nI_add]
  congr 1
  omega
theorem nI_ne_m1 {a : Nat} (h : a < 2 ^ 31) : ¬ nI a = -1 := fun e => by
  have := nI_pos h
  rw [e] at this
  exact this (by decide)
theorem nI_inj {a b : Nat} (ha : a < 2 ^ 31) (hb : b < 2 ^ 31) (h : nI a = nI b) : a = b := (nI_eq ha hb).mp h
abbrev Tr : Type := Nat × Nat × Std.Format
def fcells : Std.Format → List Nat
  | .append (.tag c a) b => c :: (fcells a ++ fcells b)
  | _ => []
def flen : Std.Format → Nat
  | .append (.tag _ _) b => flen b + 1
  | _ => 0
def fok (f : Nat → Int32) : Std.Format → Int32 → Int32 → Prop
  | .append (.tag c a) b, p, k => p = nI c ∧ c < 200 ∧ k ≤ f c ∧ (∃ r, f (200 + c) = nI r ∧ flen a ≤ 2 * r ∧ 2 ^ r ≤ 1 + (fcells a).length) ∧ fok f a (f (400 + c)) (f c) ∧ fok f b (f (600 + c)) k
  | _, p, _ => p = -1
def tc (t : Tr) : List Nat := t.2.1 :: fcells t.2.2
def tok (f : Nat → Int32) (t : Tr) : Prop := t.2.1 < 200 ∧ f (200 + t.2.1) = nI t.1 ∧ flen t.2.2 ≤ 2 * t.1 ∧ 2 ^ t.1 ≤ 1 + (fcells t.2.2).length ∧ fok f t.2.2 (f (400 + t.2.1)) (f t.2.1)
def agr (Z : List Nat) (f g : Nat → Int32) : Prop := ∀ c ∈ Z, g c = f c ∧ g (200 + c) = f (200 + c) ∧ g (400 + c) = f (400 + c) ∧ g (600 + c) = f (600 + c)
def oc : Option Tr → List Nat
  | none => []
  | some t => tc t
def slotOk (f : Nat → Int32) (i : Nat) : Option Tr → Prop
  | none => f (1000 + i) = -1
  | some t => f (1000 + i) = nI t.2.1 ∧ tok f t ∧ (i < 64 → t.1 = i % 8)
def tcs (TT : Nat → Option Tr) : List Nat := (List.range 72).flatMap (fun i => oc (TT i))
def PI (f : Nat → Int32) (TT : Nat → Option Tr) (hand : List Tr) (Z : List Nat) : Prop :=
  (∀ i, i < 72 → slotOk f i (TT i)) ∧ (∀ t ∈ hand, tok f t) ∧ (Z ++ (hand.flatMap tc ++ tcs TT)).Nodup ∧ (Z ++ (hand.flatMap tc ++ tcs TT)).length = 200 ∧ ∀ c ∈ Z, c < 200
theorem fok_lt {f : Nat → Int32} : ∀ (t : Std.Format) (p k : Int32), fok f t p k → ∀ c ∈ fcells t, c < 200 := by
  intro t
  induction t using fcells.induct with
  | case1 c a b iha ihb =>
    intro p k h x hx
    simp only [fok] at h
    simp only [fcells, List.mem_cons, List.mem_append] at hx
    rcases hx with rfl | hx | hx
    · exact h.2.1
    · exact iha _ _ h.2.2.2.2.1 x hx
    · exact ihb _ _ h.2.2.2.2.2 x hx
  | case2 t ht =>
    intro p k h x hx
    rw [fcells] at hx
    · simp at hx
    · exact ht
theorem fok_agr {f g : Nat → Int32} : ∀ (t : Std.Format) (p k : Int32), agr (fcells t) f g → fok f t p k → fok g t p k := by
  intro t
  induction t using fcells.induct with
  | case1 c a b iha ihb =>
    intro p k hz h
    simp only [fok] at h ⊢
    obtain ⟨e0, e2, e4, e6⟩ := hz c (by simp [fcells])
    rw [e0, e2, e4, e6]
    exact ⟨h.1, h.2.1, h.2.2.1, h.2.2.2.1, iha _ _ (fun x hx => hz x (by simp [fcells, hx])) h.2.2.2.2.1, ihb _ _ (fun x hx => hz x (by simp [fcells, hx])) h.2.2.2.2.2⟩
  | case2 t ht =>
    intro p k hz h
    rw [fok] at h ⊢
    · exact h
    · exact ht
    · exact ht
theorem fok_mono {f : Nat → Int32} : ∀ (t : Std.Format) (p k k' : Int32), k' ≤ k → fok f t p k → fok f t p k' := by
  intro t
  induction t using fcells.induct with
  | case1 c a b iha ihb =>
    intro p k k' hk h
    simp only [fok] at h ⊢
    exact ⟨h.1, h.2.1, Int32.le_trans hk h.2.2.1, h.2.2.2.1, h.2.2.2.2.1, ihb _ _ _ hk h.2.2.2.2.2⟩
  | case2 t ht =>
    intro p k k' hk h
    rw [fok] at h ⊢
    · exact h
    · exact ht
    · exact ht
/-- the least key of a forest is not below the bound -/
theorem fok_min {f : Nat → Int32} : ∀ (t : Std.Format) (p k : Int32), fok f t p k → ∀ c ∈ fcells t, k ≤ f c := by
  intro t
  induction t using fcells.induct with
  | case1 c a b iha ihb =>
    intro p k h x hx
    simp only [fok] at h
    simp only [fcells, List.mem_cons, List.mem_append] at hx
    rcases hx with rfl | hx | hx
    · exact h.2.2.1
    · exact Int32.le_trans h.2.2.1 (iha _ _ h.2.2.2.2.1 x hx)
    · exact ihb _ _ h.2.2.2.2.2 x hx
  | case2 t ht =>
    intro p k h x hx
    rw [fcells] at hx
    · simp at hx
    · exact ht
theorem tok_lt {f : Nat → Int32} {t : Tr} (h : tok f t) : ∀ c ∈ tc t, c < 200 := by
  intro c hc
  rcases List.mem_cons.mp hc with rfl | hc
  · exact h.1
  · exact fok_lt _ _ _ h.2.2.2.2 c hc
theorem tok_agr {f g : Nat → Int32} {t : Tr} (hz : agr (tc t) f g) (h : tok f t) : tok g t := by
  obtain ⟨e0, e2, e4, e6⟩ := hz t.2.1 List.mem_cons_self
  refine ⟨h.1, by rw [e2]; exact h.2.1, h.2.2.1, h.2.2.2.1, ?_⟩
  rw [e0, e4]
  exact fok_agr _ _ _ (fun x hx => hz x (List.mem_cons_of_mem _ hx)) h.2.2.2.2
theorem agr_sub {Z Z' : List Nat} {f g : Nat → Int32} (h : agr Z f g) (hs : ∀ c ∈ Z', c ∈ Z) : agr Z' f g := fun c hc => h c (hs c hc)
theorem agr_rf {Z : List Nat} {f : Nat → Int32} : agr Z f f := fun _ _ => ⟨rfl, rfl, rfl, rfl⟩
theorem agr_tr {Z : List Nat} {f g k : Nat → Int32} (h1 : agr Z f g) (h2 : agr Z g k) : agr Z f k := fun c hc => by
  obtain ⟨a, b, d, e⟩ := h1 c hc
  obtain ⟨a', b', d', e'⟩ := h2 c hc
  exact ⟨a'.trans a, b'.trans b, d'.trans d, e'.trans e⟩
theorem agr_hi {Z : List Nat} {f : Nat → Int32} {k : Nat} {v : Int32} (hZ : ∀ c ∈ Z, c < 200) (hk : 800 ≤ k) : agr Z f (upd f k v) := fun c hc => by
  have := hZ c hc
  exact ⟨pk_un (by omega), pk_un (by omega), pk_un (by omega), pk_un (by omega)⟩
theorem fm_congr {α β : Type} {f g : α → List β} : ∀ {l : List α}, (∀ x ∈ l, f x = g x) → l.flatMap f = l.flatMap g := by
  intro l
  induction l with
  | nil => intro _; rfl
  | cons x l ih => intro h; rw [List.flatMap_cons, List.flatMap_cons, h x List.mem_cons_self, ih (fun y hy => h y (List.mem_cons_of_mem _ hy))]
