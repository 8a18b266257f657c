/-! class and reference, call by call -/
def LR (σ : Sx) (μ : Sm) : Prop := ∃ nh u K, XI σ nh u K ∧ XF σ ∧ MI μ nh u K
theorem LR_ok {σ : Sx} {μ : Sm} (h : LR σ μ) : Mok μ := by
  obtain ⟨nh, u, K, -, -, h⟩ := h
  exact MI_ok h
theorem LR_key {σ : Sx} {μ : Sm} (h : LR σ μ) (a k : Int32) : ¬ z_is μ a = 0 → ¬ k < 0 → k < z_size μ a → z_keOk a k (k.toInt.toNat + 1) (z_untell μ) 0 := by
  obtain ⟨nh, u, K, -, -, h⟩ := h
  exact m_key_ok h a k
theorem LR_new : LR x_new m_new := ⟨0, 0, fun _ => [], new_XI.1, new_XI.2, rfl, by omega, rfl, by omega, fun h _ => by simp [MK]⟩
theorem r_heap {σ σ' : Sx} {μ μ' : Sm} {r1 r2 : Int32} (h : LR σ μ) (e1 : x_heap σ = (r1, σ')) (e2 : z_heap μ = (r2, μ')) : r1 = r2 ∧ LR σ' μ' := by
  obtain ⟨nh, u, K, hx, hf, hm⟩ := h
  obtain ⟨a1, a2, a3⟩ := op_heap hx
  obtain ⟨b1, b2⟩ := m_heap hm
  rw [e1] at a1 a2 a3
  rw [e2] at b1 b2
  have h8 := hm.2.1
  by_cases hn : nh = 8
  · exact ⟨(a1 hn).1.trans (b1 hn).1.symm, nh, u, K, (a1 hn).2, a3, (b1 hn).2⟩
  · exact ⟨(a2 (by omega)).1.trans (b2 (by omega)).1.symm, nh + 1, u, K, (a2 (by omega)).2, a3, (b2 (by omega)).2⟩
theorem r_add {σ σ' : Sx} {μ μ' : Sm} {r1 r2 a k : Int32} (h : LR σ μ) (e1 : x_add σ a k = (r1, σ')) (e2 : z_add μ a k = (r2, μ')) : r1 = r2 ∧ LR σ' μ' := by
  obtain ⟨nh, u, K, hx, hf, hm⟩ := h
  have h8 := hm.2.1
  have hu := hm.2.2.2.1
  have no : (a < 0 ∨ nI nh ≤ a) → r1 = r2 ∧ LR σ' μ' := fun ha => by
    have q1 := op_add_no (key := k) hx ha
    have q2 := m_add_no (key := k) hm ha
    rw [e1] at q1
    rw [e2] at q2
    obtain ⟨rfl, rfl⟩ := Prod.mk.inj q2
    exact ⟨q1.1, nh, u, K, q1.2.1, q1.2.2, hm⟩
  rcases pk_ix a (n := nh) (by omega) with ha | ha | ⟨j, hj, rfl⟩
  · exact no (Or.inl ha)
  · exact no (Or.inr ha)
  · by_cases hu2 : u = 200
    · have q1 := op_add_full (key := k) hx hj hu2
      have q2 := m_add_full (key := k) hm hj hu2
      rw [e1] at q1
      rw [e2] at q2
      obtain ⟨rfl, rfl⟩ := Prod.mk.inj q2
      exact ⟨q1.1, nh, u, K, q1.2.1, q1.2.2, hm⟩
    · have q1 := op_add (key := k) hx hj (by omega)
      have q2 := m_add_yes (key := k) hm hj (by omega)
      rw [e1] at q1
      rw [e2] at q2
      exact ⟨q1.1.trans q2.1.symm, nh, u + 1, _, q1.2.1, q1.2.2, q2.2⟩
theorem r_least {σ σ' : Sx} {μ μ' : Sm} {r1 r2 : Int64} {a : Int32} (h : LR σ μ) (e1 : x_least σ a = (r1, σ')) (e2 : z_least μ a = (r2, μ')) : r1 = r2 ∧ LR σ' μ' := by
  obtain ⟨nh, u, K, hx, hf, hm⟩ := h
  have h8 := hm.2.1
  have no : (a < 0 ∨ nI nh ≤ a) → r1 = r2 ∧ LR σ' μ' := fun ha => by
    have q1 := (op_least_no hx ha).1
    have q2 := (m_least_no hm ha).1
    rw [e1] at q1
    rw [e2] at q2
    exact ⟨q1.1.trans q2.1.symm, nh, u, K, q1.2.1, q1.2.2, q2.2⟩
  rcases pk_ix a (n := nh) (by omega) with ha | ha | ⟨j, hj, rfl⟩
  · exact no (Or.inl ha)
  · exact no (Or.inr ha)
  · by_cases hk : K j = []
    · have q1 := (op_least_nil hx hj hk).1
      have q2 := (m_least_nil hm hj hk).1
      rw [e1] at q1
      rw [e2] at q2
      exact ⟨q1.1.trans q2.1.symm, nh, u, K, q1.2.1, q1.2.2, q2.2⟩
    · obtain ⟨v, v1, v2, v3, v4, v5⟩ := op_least hx hj hk
      obtain ⟨w, w1, w2, w3, w4⟩ := m_least hm hj hk
      rw [e1] at v3 v4 v5
      rw [e2] at w3 w4
      have : v = w := Int32.le_antisymm (v2 w w1) (w2 v v1)
      subst this
      exact ⟨v3.trans w3.symm, nh, u, K, v4, v5, w4⟩
theorem r_take {σ σ' : Sx} {μ μ' : Sm} {r1 r2 : Int64} {a : Int32} (h : LR σ μ) (e1 : x_take σ a = (r1, σ')) (e2 : z_take μ a = (r2, μ')) : r1 = r2 ∧ LR σ' μ' := by
  obtain ⟨nh, u, K, hx, hf, hm⟩ := h
  have h8 := hm.2.1
  have no : (a < 0 ∨ nI nh ≤ a) → r1 = r2 ∧ LR σ' μ' := fun ha => by
    have q1 := (op_least_no hx ha).2
    have q2 := (m_least_no hm ha).2
    rw [e1] at q1
    rw [e2] at q2
    exact ⟨q1.1.trans q2.1.symm, nh, u, K, q1.2.1, q1.2.2, q2.2⟩
  rcases pk_ix a (n := nh) (by omega) with ha | ha | ⟨j, hj, rfl⟩
  · exact no (Or.inl ha)
  · exact no (Or.inr ha)
  · by_cases hk : K j = []
    · have q1 := (op_least_nil hx hj hk).2
      have q2 := (m_least_nil hm hj hk).2
      rw [e1] at q1
      rw [e2] at q2
      exact ⟨q1.1.trans q2.1.symm, nh, u, K, q1.2.1, q1.2.2, q2.2⟩
    · obtain ⟨v, v1, v2, v3, v4, v5⟩ := op_take hx hj hk
      obtain ⟨w, l, w1, w2, w3, w4, w5⟩ := m_take hm hj hk
      rw [e1] at v3 v4 v5
      rw [e2] at w3 w5
      have : v = w := Int32.le_antisymm (v2 w w1) (w2 v v1)
      subst this
      exact ⟨v3.trans w3.symm, nh, u - 1, _, v5 l w4, v4, w5⟩
theorem r_meld {σ σ' : Sx} {μ μ' : Sm} {r1 r2 a b : Int32} (h : LR σ μ) (e1 : x_meld σ a b = (r1, σ')) (e2 : z_meld μ a b = (r2, μ')) : r1 = r2 ∧ LR σ' μ' := by
  obtain ⟨nh, u, K, hx, hf, hm⟩ := h
  have h8 := hm.2.1
  have no : ((a < 0 ∨ nI nh ≤ a) ∨ (b < 0 ∨ nI nh ≤ b) ∨ a = b) → r1 = r2 ∧ LR σ' μ' := fun ha => by
    have q1 := op_meld_no hx ha
    have q2 := m_meld_no hm ha
    rw [e1] at q1
    rw [e2] at q2
    obtain ⟨rfl, rfl⟩ := Prod.mk.inj q2
    exact ⟨q1.1, nh, u, K, q1.2.1, q1.2.2, hm⟩
  rcases pk_ix a (n := nh) (by omega) with ha | ha | ⟨i, hi, rfl⟩
  · exact no (Or.inl (Or.inl ha))
  · exact no (Or.inl (Or.inr ha))
  · rcases pk_ix b (n := nh) (by omega) with hb | hb | ⟨j, hj, rfl⟩
    · exact no (Or.inr (Or.inl (Or.inl hb)))
    · exact no (Or.inr (Or.inl (Or.inr hb)))
    · by_cases hij : i = j
      · subst hij
        exact no (Or.inr (Or.inr rfl))
      · have q1 := op_meld hx hi hj hij
        have q2 := m_meld hm hi hj hij
        rw [e1] at q1
        rw [e2] at q2
        exact ⟨q1.1.trans q2.1.symm, nh, u, _, q1.2.1, q1.2.2, q2.2⟩
theorem r_size {σ σ' : Sx} {μ μ' : Sm} {r1 r2 a : Int32} (h : LR σ μ) (e1 : x_size σ a = (r1, σ')) (e2 : z_sizeM μ a = (r2, μ')) : r1 = r2 ∧ LR σ' μ' := by
  obtain ⟨nh, u, K, hx, hf, hm⟩ := h
  have h8 := hm.2.1
  obtain ⟨q1, q2, q3, q4⟩ := op_size hx a
  obtain ⟨p1, p2⟩ := m_size hm a
  rw [e1] at q1 q2 q3 q4
  rw [e2] at p1 p2
  rcases pk_ix a (n := nh) (by omega) with ha | ha | ⟨j, hj, ej⟩
  · obtain ⟨rfl, rfl⟩ := Prod.mk.inj (p1 (Or.inl ha))
    exact ⟨q1 (Or.inl ha), nh, u, K, q3, q4, hm⟩
  · obtain ⟨rfl, rfl⟩ := Prod.mk.inj (p1 (Or.inr ha))
    exact ⟨q1 (Or.inr ha), nh, u, K, q3, q4, hm⟩
  · obtain ⟨rfl, rfl⟩ := Prod.mk.inj (p2 j hj ej)
    exact ⟨q2 j hj ej, nh, u, K, q3, q4, hm⟩
theorem cle_mono (S : List Int32) {v w : Int} (h : v ≤ w) : cle S v ≤ cle S w := by
  unfold cle
  exact List.countP_mono_left (fun x _ hx => by simp at hx ⊢; omega)
theorem cle_one {S : List Int32} {i : Nat} {v w : Int64} (h1 : cle S (v.toInt - 1) ≤ i) (h2 : i < cle S v.toInt) (h3 : cle S (w.toInt - 1) ≤ i) (h4 : i < cle S w.toInt) : v = w := by
  apply Int64.toInt_inj.mp
  rcases Int.lt_trichotomy v.toInt w.toInt with h | h | h
  · have := cle_mono S (show v.toInt ≤ w.toInt - 1 by omega)
    omega
  · exact h
  · have := cle_mono S (show w.toInt ≤ v.toInt - 1 by omega)
    omega
theorem r_key {σ σ' : Sx} {μ μ' : Sm} {r1 r2 : Int64} {a k : Int32} (h : LR σ μ) (e1 : x_key σ a k = (r1, σ')) (e2 : z_key μ a k = (r2, μ')) : r1 = r2 ∧ LR σ' μ' := by
  obtain ⟨nh, u, K, hx, hf, hm⟩ := h
  have h8 := hm.2.1
  obtain ⟨q1, q2, q3, q4⟩ := op_key hx a k
  obtain ⟨p1, p2, p3⟩ := m_key hm a k
  rw [e1] at q1 q2 q3 q4
  rw [e2] at p1 p2 p3
  refine ⟨?_, nh, u, K, q1, q2, p1⟩
  by_cases hk : k < 0
  · exact (q3 (Or.inl hk)).trans (p2 (Or.inl hk)).symm
  · rcases pk_ix a (n := nh) (by omega) with ha | ha | ⟨j, hj, rfl⟩
    · exact (q3 (Or.inr (Or.inl ha))).trans (p2 (Or.inr (Or.inl ha))).symm
    · exact (q3 (Or.inr (Or.inr (Or.inl ha)))).trans (p2 (Or.inr (Or.inr (Or.inl ha)))).symm
    · obtain ⟨i, hi, rfl⟩ := nI_of hk
      by_cases hlt : i < (K j).length
      · obtain ⟨c1, c2⟩ := q4 j i hj rfl hlt rfl
        obtain ⟨d1, d2⟩ := p3 j i hj rfl hlt rfl
        exact cle_one c1 c2 d1 d2
      · have hb : ∃ j', j' < nh ∧ nI j = nI j' ∧ nI (K j').length ≤ nI i := ⟨j, hj, rfl, nI_le (by omega) hi⟩
        exact (q3 (Or.inr (Or.inr (Or.inr hb)))).trans (p2 (Or.inr (Or.inr (Or.inr hb)))).symm
theorem r_sum {σ σ' : Sx} {μ μ' : Sm} {r1 r2 : Int64} {a : Int32} (h : LR σ μ) (e1 : x_sum σ a = (r1, σ')) (e2 : z_sum μ a = (r2, μ')) : r1 = r2 ∧ LR σ' μ' := by
  obtain ⟨nh, u, K, hx, hf, hm⟩ := h
  have h8 := hm.2.1
  obtain ⟨q1, q2, q3, q4⟩ := op_sum hx a
  obtain ⟨p1, p2⟩ := m_sum hm a
  rw [e1] at q1 q2 q3 q4
  rw [e2] at p1 p2
  rcases pk_ix a (n := nh) (by omega) with ha | ha | ⟨j, hj, ej⟩
  · obtain ⟨rfl, rfl⟩ := Prod.mk.inj (p1 (Or.inl ha))
    exact ⟨q1 (Or.inl ha), nh, u, K, q3, q4, hm⟩
  · obtain ⟨rfl, rfl⟩ := Prod.mk.inj (p1 (Or.inr ha))
    exact ⟨q1 (Or.inr ha), nh, u, K, q3, q4, hm⟩
  · obtain ⟨rfl, rfl⟩ := Prod.mk.inj (p2 j hj ej)
    exact ⟨q2 j hj ej, nh, u, K, q3, q4, hm⟩
theorem r_free {σ σ' : Sx} {μ μ' : Sm} {r1 r2 : Int32} (h : LR σ μ) (e1 : x_free σ = (r1, σ')) (e2 : z_free μ = (r2, μ')) : r1 = r2 ∧ LR σ' μ' := by
  obtain ⟨nh, u, K, hx, hf, hm⟩ := h
  have q := op_free hx
  have p := m_free hm
  rw [e1] at q
  rw [e2] at p
  obtain ⟨rfl, rfl⟩ := Prod.mk.inj p
  exact ⟨q.1, nh, u, K, q.2.1, q.2.2, hm⟩
theorem r_few {σ σ' : Sx} {μ μ' : Sm} {r1 r2 : Int32} (h : LR σ μ) (e1 : x_few σ = (r1, σ')) (e2 : r2 = 1 ∧ μ = μ') : r1 = r2 ∧ LR σ' μ' := by
  obtain ⟨nh, u, K, hx, hf, hm⟩ := h
  have q := op_few hx hf
  rw [e1] at q
  obtain ⟨rfl, rfl⟩ := e2
  exact ⟨q.1, nh, u, K, q.2.1, q.2.2, hm⟩
/-- the law's world: the class's two cells and the reference's four; a call of one, the other's cells stay -/
abbrev lTY (cA cI cZ : ClassId) : List (ClassId × FieldType) := [(cA, .int), (cI, .int), (cZ, .boolean)]
section LC
variable {p : Program} {l : Launch} {e : Env} {R : Room} {s : State} {m : MethodId} {args : Array Value} {below : List Frame} {meth : Method} {c : Code} {H : Heap} {locs : List Loc} {cells slots : Nat} {Q : State → Prop}
variable {cc : ByteArray} {pc : Nat} {ls : Array Slot} {rest st0 : List Value} {D : va_G} {A : Nat → Prop} {h0 r0 m0 o0 k0 t0 : Nat} {cA cI cZ : ClassId} {σ : Sx} {μ : Sm}
variable {y : MethodName} {wz : List Cond} {rm : Room} {As : List Value} {bytes : ByteArray} {maxL nL n index : Nat} {ret : Option FieldType} {Ts : List Cond} {own : String}
theorem lx_calli {post : Int32 → Sx → Prop} (S : CallFix p m c cc nL s args Ts own) (hM : gMi l y wz rm D vwCl [(cA, .int)] (.ref h0 :: As) (xw h0 r0 cA) σ post) (cw : CallW R s args own RX0 index y bytes maxL ret wz rm 0 0 n)
    (G : gG D vwCl (lTY cA cI cZ) A s (xw h0 r0 cA σ ++ mw m0 o0 k0 t0 cI cZ μ) H locs) (hlen : As.length = n) (hls : ls.size = nL) (hst : st0 = As.reverse ++ .ref h0 :: rest) (hW : (rest.map fun v => v.category).sum ≤ 8) (hdg : decode cc pc = .ok (.invokevirtual index, 3)) (hf : cells ≤ R.cells ∧ slots ≤ R.slots)
    (kk : ∀ (r : Int32) (σ' : Sx) (H1 : Heap) (locs1 : List Loc), post r σ' → gG D vwCl (lTY cA cI cZ) A s (mw m0 o0 k0 t0 cI cZ μ ++ xw h0 r0 cA σ') H1 locs1 → W p l e R s m args below meth c H1 locs1 cells slots Q (F0 m (pc + 3) ls (.int r :: rest))) :
    W p l e R s m args below meth c H locs cells slots Q (F0 m pc ls st0) :=
  g_calli S hM cw G (G.2.2.2.1.sub [0] rfl) [0, 1] [2, 3, 4, 5] ⟨rfl, rfl, rfl, rfl, by decide⟩ (va_recv G.2.2.2.1 G.1 (ci := 0) (q0 := 0) rfl rfl) hlen hls hst hW hdg hf (fun r u' H1 locs1 hp hG => kk r u' H1 locs1 hp hG)
theorem lx_calll {post : Int64 → Sx → Prop} (S : CallFix p m c cc nL s args Ts own) (hM : gMl l y wz rm D vwCl [(cA, .int)] (.ref h0 :: As) (xw h0 r0 cA) σ post) (cw : CallW R s args own RX0 index y bytes maxL ret wz rm 0 0 n)
    (G : gG D vwCl (lTY cA cI cZ) A s (xw h0 r0 cA σ ++ mw m0 o0 k0 t0 cI cZ μ) H locs) (hlen : As.length = n) (hls : ls.size = nL) (hst : st0 = As.reverse ++ .ref h0 :: rest) (hW : (rest.map fun v => v.category).sum ≤ 8) (hdg : decode cc pc = .ok (.invokevirtual index, 3)) (hf : cells ≤ R.cells ∧ slots ≤ R.slots)
    (kk : ∀ (r : Int64) (σ' : Sx) (H1 : Heap) (locs1 : List Loc), post r σ' → gG D vwCl (lTY cA cI cZ) A s (mw m0 o0 k0 t0 cI cZ μ ++ xw h0 r0 cA σ') H1 locs1 → W p l e R s m args below meth c H1 locs1 cells slots Q (F0 m (pc + 3) ls (.long r :: rest))) :
    W p l e R s m args below meth c H locs cells slots Q (F0 m pc ls st0) :=
  g_calll S hM cw G (G.2.2.2.1.sub [0] rfl) [0, 1] [2, 3, 4, 5] ⟨rfl, rfl, rfl, rfl, by decide⟩ (va_recv G.2.2.2.1 G.1 (ci := 0) (q0 := 0) rfl rfl) hlen hls hst hW hdg hf (fun r u' H1 locs1 hp hG => kk r u' H1 locs1 hp hG)
theorem lm_calli {post : Int32 → Sm → Prop} (S : CallFix p m c cc nL s args Ts own) (hM : gMi l y wz rm D vwCl [(cI, .int), (cZ, .boolean)] (.ref m0 :: As) (mw m0 o0 k0 t0 cI cZ) μ post) (cw : CallW R s args own RX1 index y bytes maxL ret wz rm 0 0 n)
    (G : gG D vwCl (lTY cA cI cZ) A s (mw m0 o0 k0 t0 cI cZ μ ++ xw h0 r0 cA σ) H locs) (hlen : As.length = n) (hls : ls.size = nL) (hst : st0 = As.reverse ++ .ref m0 :: rest) (hW : (rest.map fun v => v.category).sum ≤ 8) (hdg : decode cc pc = .ok (.invokevirtual index, 3)) (hf : cells ≤ R.cells ∧ slots ≤ R.slots)
    (kk : ∀ (r : Int32) (μ' : Sm) (H1 : Heap) (locs1 : List Loc), post r μ' → gG D vwCl (lTY cA cI cZ) A s (xw h0 r0 cA σ ++ mw m0 o0 k0 t0 cI cZ μ') H1 locs1 → W p l e R s m args below meth c H1 locs1 cells slots Q (F0 m (pc + 3) ls (.int r :: rest))) :
    W p l e R s m args below meth c H locs cells slots Q (F0 m pc ls st0) :=
  g_calli S hM cw G (G.2.2.2.1.sub [1, 2] rfl) [0, 1, 2, 3] [4, 5] ⟨rfl, rfl, rfl, rfl, by decide⟩ (va_recv G.2.2.2.1 G.1 (ci := 1) (q0 := 0) rfl rfl) hlen hls hst hW hdg hf (fun r u' H1 locs1 hp hG => kk r u' H1 locs1 hp hG)
theorem lm_calll {post : Int64 → Sm → Prop} (S : CallFix p m c cc nL s args Ts own) (hM : gMl l y wz rm D vwCl [(cI, .int), (cZ, .boolean)] (.ref m0 :: As) (mw m0 o0 k0 t0 cI cZ) μ post) (cw : CallW R s args own RX1 index y bytes maxL ret wz rm 0 0 n)
    (G : gG D vwCl (lTY cA cI cZ) A s (mw m0 o0 k0 t0 cI cZ μ ++ xw h0 r0 cA σ) H locs) (hlen : As.length = n) (hls : ls.size = nL) (hst : st0 = As.reverse ++ .ref m0 :: rest) (hW : (rest.map fun v => v.category).sum ≤ 8) (hdg : decode cc pc = .ok (.invokevirtual index, 3)) (hf : cells ≤ R.cells ∧ slots ≤ R.slots)
    (kk : ∀ (r : Int64) (μ' : Sm) (H1 : Heap) (locs1 : List Loc), post r μ' → gG D vwCl (lTY cA cI cZ) A s (xw h0 r0 cA σ ++ mw m0 o0 k0 t0 cI cZ μ') H1 locs1 → W p l e R s m args below meth c H1 locs1 cells slots Q (F0 m (pc + 3) ls (.long r :: rest))) :
    W p l e R s m args below meth c H locs cells slots Q (F0 m pc ls st0) :=
  g_calll S hM cw G (G.2.2.2.1.sub [1, 2] rfl) [0, 1, 2, 3] [4, 5] ⟨rfl, rfl, rfl, rfl, by decide⟩ (va_recv G.2.2.2.1 G.1 (ci := 1) (q0 := 0) rfl rfl) hlen hls hst hW hdg hf (fun r u' H1 locs1 hp hG => kk r u' H1 locs1 hp hG)
end LC
