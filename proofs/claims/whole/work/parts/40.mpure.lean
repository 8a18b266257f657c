/-! SkewMeldsModel as pure functions: the state is (heaps, used, owners, keys, told) -/
abbrev Sm : Type := Int32 × Int32 × (Nat → Int32) × (Nat → Int32) × (Nat → Int32)
def z_sH (μ : Sm) (v : Int32) : Sm := (v, μ.2.1, μ.2.2.1, μ.2.2.2.1, μ.2.2.2.2)
def z_sU (μ : Sm) (v : Int32) : Sm := (μ.1, v, μ.2.2.1, μ.2.2.2.1, μ.2.2.2.2)
def z_sO (μ : Sm) (i v : Int32) : Sm := (μ.1, μ.2.1, upd μ.2.2.1 i.toNatClampNeg v, μ.2.2.2.1, μ.2.2.2.2)
def z_sK (μ : Sm) (i v : Int32) : Sm := (μ.1, μ.2.1, μ.2.2.1, upd μ.2.2.2.1 i.toNatClampNeg v, μ.2.2.2.2)
def z_sT (μ : Sm) (i v : Int32) : Sm := (μ.1, μ.2.1, μ.2.2.1, μ.2.2.2.1, upd μ.2.2.2.2 i.toNatClampNeg (vp_nar .boolean v))
def z_is (μ : Sm) (h : Int32) : Int32 := if h < 0 then 0 else if μ.1 ≤ h then 0 else 1
def z_heap (μ : Sm) : Int32 × Sm := if μ.1 = 8 then (-1, μ) else ((z_sH μ (μ.1 + 1)).1 - 1, z_sH μ (μ.1 + 1))
def z_szL (μ : Sm) (h : Int32) : Nat → Int32 → Int32 → Int32
  | 0, n, _ => n
  | m + 1, n, k => if μ.2.1 ≤ k then n else if μ.2.2.1 k.toNatClampNeg = h then z_szL μ h m (n + 1) (k + 1) else z_szL μ h m (n + 0) (k + 1)
def z_size (μ : Sm) (h : Int32) : Int32 := z_szL μ h (μ.2.1.toInt.toNat + 1) 0 0
def z_add (μ : Sm) (h key : Int32) : Int32 × Sm :=
  if z_is μ h = 0 then (-1, μ) else if μ.2.1 = 200 then (-2, μ) else
    let m1 := z_sO μ μ.2.1 h
    let m2 := z_sK m1 m1.2.1 key
    let m3 := z_sU m2 (m2.2.1 + 1)
    (z_size m3 h, m3)
def z_plL (μ : Sm) (h : Int32) : Nat → Int32 → Int32 → Int32
  | 0, b, _ => b
  | m + 1, b, k =>
    if μ.2.1 ≤ k then b else
    if μ.2.2.1 k.toNatClampNeg = h then
      if μ.2.2.2.2 k.toNatClampNeg = 0 then
        if b < 0 then z_plL μ h m k (k + 1)
        else if μ.2.2.2.1 b.toNatClampNeg ≤ μ.2.2.2.1 k.toNatClampNeg then z_plL μ h m b (k + 1) else z_plL μ h m k (k + 1)
      else z_plL μ h m b (k + 1)
    else z_plL μ h m b (k + 1)
def z_place (μ : Sm) (h : Int32) : Int32 := z_plL μ h (μ.2.1.toInt.toNat + 1) (-1) 0
def z_unL : Nat → Sm → Int32 → Sm
  | 0, μ, _ => μ
  | m + 1, μ, k => if 200 ≤ k then μ else z_unL m (z_sT μ k 0) (k + 1)
def z_untell (μ : Sm) : Sm := z_unL 201 μ 0
def z_least (μ : Sm) (h : Int32) : Int64 × Sm :=
  let m1 := z_untell μ
  if z_is m1 h = 0 then (-9223372036854775808, m1) else
    if 0 ≤ z_place m1 h then ((m1.2.2.2.1 (z_place m1 h).toNatClampNeg).toInt64, m1) else (-9223372036854775808, m1)
def z_take (μ : Sm) (h : Int32) : Int64 × Sm :=
  let m1 := z_untell μ
  if z_is m1 h = 0 then (-9223372036854775808, m1) else
    if 0 ≤ z_place m1 h then
      let at_ := z_place m1 h
      let m2 := z_sU m1 (m1.2.1 - 1)
      let m3 := z_sO m2 at_ (m2.2.2.1 m2.2.1.toNatClampNeg)
      let m4 := z_sK m3 at_ (m3.2.2.2.1 m3.2.1.toNatClampNeg)
      ((m1.2.2.2.1 at_.toNatClampNeg).toInt64, m4)
    else (-9223372036854775808, m1)
def z_meL (to fr : Int32) : Nat → Sm → Int32 → Sm
  | 0, μ, _ => μ
  | m + 1, μ, k => if μ.2.1 ≤ k then μ else if μ.2.2.1 k.toNatClampNeg = fr then z_meL to fr m (z_sO μ k to) (k + 1) else z_meL to fr m (z_sO μ k (μ.2.2.1 k.toNatClampNeg)) (k + 1)
def z_meld (μ : Sm) (to fr : Int32) : Int32 × Sm :=
  if z_is μ to = 0 then (-1, μ) else if z_is μ fr = 0 then (-1, μ) else if to = fr then (-1, μ) else
    let m1 := z_meL to fr (μ.2.1.toInt.toNat + 1) μ 0
    (z_size m1 to, m1)
def z_sizeM (μ : Sm) (h : Int32) : Int32 × Sm := if z_is μ h = 0 then (-1, μ) else (z_size μ h, μ)
def z_keL (h k : Int32) : Nat → Sm → Int32 → Sm
  | 0, μ, _ => μ
  | m + 1, μ, i => if k ≤ i then μ else z_keL h k m (z_sT μ (z_place μ h) 1) (i + 1)
/-- all the places that key asks for are there -/
def z_keOk (h k : Int32) : Nat → Sm → Int32 → Prop
  | 0, _, _ => True
  | m + 1, μ, i => vp_in (z_place μ h) 200 ∧ (k ≤ i ∨ z_keOk h k m (z_sT μ (z_place μ h) 1) (i + 1))
def z_key (μ : Sm) (h k : Int32) : Int64 × Sm :=
  if z_is μ h = 0 then (-9223372036854775808, μ) else if k < 0 then (-9223372036854775808, μ) else
    if k < z_size μ h then
      let m1 := z_keL h k (k.toInt.toNat + 1) (z_untell μ) 0
      ((m1.2.2.2.1 (z_place m1 h).toNatClampNeg).toInt64, m1)
    else (-9223372036854775808, μ)
def z_suL (μ : Sm) (h : Int32) : Nat → Int64 → Int32 → Int64
  | 0, t, _ => t
  | m + 1, t, k => if μ.2.1 ≤ k then t else if z_is μ h = 0 then z_suL μ h m (t + 0) (k + 1) else if μ.2.2.1 k.toNatClampNeg = h then z_suL μ h m (t + (μ.2.2.2.1 k.toNatClampNeg).toInt64) (k + 1) else z_suL μ h m (t + 0) (k + 1)
def z_sum (μ : Sm) (h : Int32) : Int64 × Sm := (z_suL μ h (μ.2.1.toInt.toNat + 1) 0 0, μ)
def z_free (μ : Sm) : Int32 × Sm := (200 - μ.2.1, μ)
/-- used is in range -/
def Mok (μ : Sm) : Prop := 0 ≤ μ.2.1.toInt ∧ μ.2.1.toInt ≤ 200
theorem m_inb {μ : Sm} {k : Int32} (hm : Mok μ) (hk : 0 ≤ k.toInt) (h : ¬ μ.2.1 ≤ k) : vp_in k 200 := by
  rw [Int32.le_iff_toInt_le] at h
  have := hm.2
  exact vp_in_iff.mpr ⟨hk, by omega⟩
theorem m_in200 {k : Int32} (hk : 0 ≤ k.toInt) (h : ¬ 200 ≤ k) : vp_in k 200 := by
  rw [Int32.le_iff_toInt_le, show (200 : Int32).toInt = 200 from rfl] at h
  exact vp_in_iff.mpr ⟨hk, by omega⟩
theorem m_nn {B k : Int32} (hk : 0 ≤ k.toInt) (h : ¬ B ≤ k) : 0 ≤ (k + 1).toInt := by
  rw [Int32.le_iff_toInt_le] at h
  have h1 := Int32.toInt_lt B
  rw [Int32.toInt_add, show (1 : Int32).toInt = 1 from rfl, Int.bmod_eq_of_le (by omega) (by omega)]
  omega
theorem un_L : ∀ (m : Nat) (μ : Sm) (k : Int32), (z_unL m μ k).1 = μ.1 ∧ (z_unL m μ k).2.1 = μ.2.1 ∧ (z_unL m μ k).2.2.1 = μ.2.2.1 ∧ (z_unL m μ k).2.2.2.1 = μ.2.2.2.1 := by
  intro m
  induction m with
  | zero => intro μ k; exact ⟨rfl, rfl, rfl, rfl⟩
  | succ m ih =>
    intro μ k
    unfold z_unL
    split
    · exact ⟨rfl, rfl, rfl, rfl⟩
    · exact ih (z_sT μ k 0) (k + 1)
theorem un_ok {μ : Sm} (h : Mok μ) : Mok (z_untell μ) := by
  unfold Mok z_untell
  rw [(un_L 201 μ 0).2.1]
  exact h
/-- placeOf's place is -1 or below used -/
theorem pl_L {μ : Sm} {h : Int32} : ∀ (m : Nat) (b k : Int32), 0 ≤ k.toInt → -1 ≤ b.toInt → b.toInt < μ.2.1.toInt ∨ b.toInt < 0 → -1 ≤ (z_plL μ h m b k).toInt ∧ ((z_plL μ h m b k).toInt < μ.2.1.toInt ∨ (z_plL μ h m b k).toInt < 0) := by
  intro m
  induction m with
  | zero => intro b k _ h2 h3; exact ⟨h2, h3⟩
  | succ m ih =>
    intro b k h1 h2 h3
    unfold z_plL
    split
    · exact ⟨h2, h3⟩
    · rename_i hle
      have hn := m_nn h1 hle
      rw [Int32.le_iff_toInt_le] at hle
      split
      · split
        · split
          · exact ih k (k + 1) hn (by omega) (Or.inl (by omega))
          · split
            · exact ih b (k + 1) hn h2 h3
            · exact ih k (k + 1) hn (by omega) (Or.inl (by omega))
        · exact ih b (k + 1) hn h2 h3
      · exact ih b (k + 1) hn h2 h3
theorem pl_in {μ : Sm} {h : Int32} (hm : Mok μ) (hp : 0 ≤ z_place μ h) : vp_in (z_place μ h) 200 ∧ (z_place μ h).toInt < μ.2.1.toInt := by
  have h1 := pl_L (μ := μ) (h := h) (μ.2.1.toInt.toNat + 1) (-1) 0 (by decide) (by decide) (Or.inr (by decide))
  have h2 : 0 ≤ (z_place μ h).toInt := by
    have := Int32.le_iff_toInt_le.mp hp
    rw [show (0 : Int32).toInt = 0 from rfl] at this
    exact this
  have h3 : (z_place μ h).toInt < μ.2.1.toInt := by
    have := h1.2
    unfold z_place at h2 ⊢
    omega
  have := hm.2
  exact ⟨vp_in_iff.mpr ⟨h2, by omega⟩, h3⟩
theorem m_add {μ : Sm} (hm : Mok μ) (h : ¬ μ.2.1 = 200) : vp_in μ.2.1 200 ∧ μ.2.1.toInt < 200 := by
  have h1 : μ.2.1.toInt ≠ 200 := fun e => h (Int32.toInt_inj.mp (by rw [e]; rfl))
  have := hm.1
  have := hm.2
  exact ⟨vp_in_iff.mpr ⟨hm.1, by omega⟩, by omega⟩
theorem m_add1 {μ μ' : Sm} (hm : Mok μ) (h : ¬ μ.2.1 = 200) (e : μ'.2.1 = μ.2.1 + 1) : Mok μ' := by
  have h1 := (m_add hm h).2
  have h2 := hm.1
  have e2 : μ'.2.1.toInt = μ.2.1.toInt + 1 := by
    rw [e, Int32.toInt_add, show (1 : Int32).toInt = 1 from rfl, Int.bmod_eq_of_le (by omega) (by omega)]
  exact ⟨by omega, by omega⟩
theorem m_lt {μ : Sm} {k : Int32} (h : ¬ μ.2.1 ≤ k) : k.toInt < μ.2.1.toInt := by
  rw [Int32.le_iff_toInt_le] at h
  omega
theorem m_best {μ : Sm} {t : Int32} (hm : Mok μ) (h : t.toInt < μ.2.1.toInt ∨ t.toInt < 0) (c : ¬ t < 0) : vp_in t 200 := by
  rw [Int32.lt_iff_toInt_lt, show (0 : Int32).toInt = 0 from rfl] at c
  have := hm.2
  exact vp_in_iff.mpr ⟨by omega, by omega⟩
theorem m_pl {μ : Sm} {v h : Int32} (hm : Mok μ) (e : v = z_place μ h) (c : 0 ≤ v) : vp_in v 200 := by
  subst e
  exact (pl_in hm c).1
theorem m_pl1 {μ : Sm} {v h : Int32} (hm : Mok μ) (e : v = z_place μ h) (c : 0 ≤ v) : vp_in (μ.2.1 - 1) 200 := by
  subst e
  have h1 := (pl_in hm c).2
  have h2 := vp_in_iff.mp (pl_in hm c).1
  have h3 := hm.2
  have e2 : (μ.2.1 - 1).toInt = μ.2.1.toInt - 1 := by
    rw [Int32.toInt_sub, show (1 : Int32).toInt = 1 from rfl, Int.bmod_eq_of_le (by omega) (by omega)]
  exact vp_in_iff.mpr ⟨by omega, by omega⟩
/-- the reference's four cells -/
abbrev mw (m0 o0 k0 t0 : Nat) (cI cZ : ClassId) (μ : Sm) : va_W := [(m0, .inr (1, [.int μ.1, .int μ.2.1, .ref o0, .ref k0, .ref t0])), (o0, .inl (cI, 200, .inl μ.2.2.1)), (k0, .inl (cI, 200, .inl μ.2.2.2.1)), (t0, .inl (cZ, 200, .inl μ.2.2.2.2))]
theorem m_I {m0 o0 k0 t0 : Nat} {cI cZ : ClassId} {μ : Sm} : gI (mw m0 o0 k0 t0 cI cZ μ) (mw m0 o0 k0 t0 cI cZ μ) [] [0, 1, 2, 3] [] := ⟨rfl, rfl, rfl, rfl, fun i h => by simp at h⟩
section MC
variable {p : Program} {l : Launch} {e : Env} {R : Room} {s : State} {m : MethodId} {args : Array Value} {below : List Frame} {meth : Method} {c : Code} {H : Heap} {locs : List Loc} {cells slots : Nat} {Q : State → Prop}
variable {cc : ByteArray} {pc : Nat} {ls : Array Slot} {rest st0 : List Value} {D : va_G} {A : Nat → Prop} {m0 o0 k0 t0 : Nat} {cI cZ : ClassId} {μ : Sm}
variable {y : MethodName} {wz : List Cond} {rm : Room} {As : List Value} {bytes : ByteArray} {maxL nL n index : Nat} {ret : Option FieldType} {Ts : List Cond} {own : String}
theorem m_calli {post : Int32 → Sm → Prop} (S : CallFix p m c cc nL s args Ts own) (hM : gMi l y wz rm D vwCl [(cI, .int), (cZ, .boolean)] (.ref m0 :: As) (mw m0 o0 k0 t0 cI cZ) μ post) (cw : CallW R s args own RX1 index y bytes maxL ret wz rm 0 0 n)
    (G : gG D vwCl [(cI, .int), (cZ, .boolean)] A s (mw m0 o0 k0 t0 cI cZ μ) H locs) (hlen : As.length = n) (hls : ls.size = nL) (hst : st0 = As.reverse ++ .ref m0 :: rest) (hW : (rest.map fun v => v.category).sum ≤ 8) (hdg : decode cc pc = .ok (.invokevirtual index, 3)) (hf : cells ≤ R.cells ∧ slots ≤ R.slots)
    (kk : ∀ (r : Int32) (μ' : Sm) (H1 : Heap) (locs1 : List Loc), post r μ' → gG D vwCl [(cI, .int), (cZ, .boolean)] A s (mw m0 o0 k0 t0 cI cZ μ') H1 locs1 → W p l e R s m args below meth c H1 locs1 cells slots Q (F0 m (pc + 3) ls (.int r :: rest))) :
    W p l e R s m args below meth c H locs cells slots Q (F0 m pc ls st0) :=
  g_calli S hM cw G G.2.2.2.1 [0, 1, 2, 3] [] m_I (va_recv G.2.2.2.1 G.1 (ci := 1) (q0 := 0) rfl rfl) hlen hls hst hW hdg hf (fun r u' H1 locs1 hp hG => kk r u' H1 locs1 hp hG)
theorem m_callv {post : Sm → Prop} (S : CallFix p m c cc nL s args Ts own) (hM : gMv l y wz rm D vwCl [(cI, .int), (cZ, .boolean)] (.ref m0 :: As) (mw m0 o0 k0 t0 cI cZ) μ post) (cw : CallW R s args own RX1 index y bytes maxL ret wz rm 0 0 n)
    (G : gG D vwCl [(cI, .int), (cZ, .boolean)] A s (mw m0 o0 k0 t0 cI cZ μ) H locs) (hlen : As.length = n) (hls : ls.size = nL) (hst : st0 = As.reverse ++ .ref m0 :: rest) (hW : (rest.map fun v => v.category).sum ≤ 8) (hdg : decode cc pc = .ok (.invokevirtual index, 3)) (hf : cells ≤ R.cells ∧ slots ≤ R.slots)
    (kk : ∀ (μ' : Sm) (H1 : Heap) (locs1 : List Loc), post μ' → gG D vwCl [(cI, .int), (cZ, .boolean)] A s (mw m0 o0 k0 t0 cI cZ μ') H1 locs1 → W p l e R s m args below meth c H1 locs1 cells slots Q (F0 m (pc + 3) ls rest)) :
    W p l e R s m args below meth c H locs cells slots Q (F0 m pc ls st0) :=
  g_callv S hM cw G G.2.2.2.1 [0, 1, 2, 3] [] m_I (va_recv G.2.2.2.1 G.1 (ci := 1) (q0 := 0) rfl rfl) hlen hls hst hW hdg hf (fun u' H1 locs1 hp hG => kk u' H1 locs1 hp hG)
theorem g_zld {a : Nat} {ws : va_W} {tys : List (ClassId × FieldType)} {cl : List vw_C} (hexec : p.tables.exec = Jvm.exec) (hb : c.code = cc) (G : gG D cl tys A s ws H locs) (q0 t0 : Nat) {cA : ClassId} {n : Nat} {f : Nat → Int32} (ha : ws[q0]? = some (a, .inl (cA, n, .inl f))) (ht : tys[t0]? = some (cA, .boolean)) {i : Int32} (hin : vp_in i n) (hdg : decode cc pc = .ok (.baload, 1))
    (kk : W p l e R s m args below meth c H locs cells slots Q (F0 m (pc + 1) ls (.int (f i.toNatClampNeg) :: rest))) : W p l e R s m args below meth c H locs cells slots Q (F0 m pc ls (.int i :: .ref a :: rest)) :=
  va_zald hexec hb G.2.2.2.1 G.1 q0 t0 ha ht hin hdg kk
theorem g_zst {a : Nat} {ws : va_W} {tys : List (ClassId × FieldType)} {cl : List vw_C} (hexec : p.tables.exec = Jvm.exec) (hb : c.code = cc) (G : gG D cl tys A s ws H locs) (q0 t0 : Nat) {cA : ClassId} {n : Nat} {f : Nat → Int32} (ha : ws[q0]? = some (a, .inl (cA, n, .inl f))) (ht : tys[t0]? = some (cA, .boolean)) {i x : Int32} (hin : vp_in i n) (ws' : va_W) (hset : ws.set q0 (a, .inl (cA, n, .inl (upd f i.toNatClampNeg (vp_nar .boolean x)))) = ws') (hdg : decode cc pc = .ok (.bastore, 1))
    (kk : ∀ (H1 : Heap) (locs1 : List Loc), gG D cl tys A s ws' H1 locs1 → W p l e R s m args below meth c H1 locs1 cells slots Q (F0 m (pc + 1) ls rest)) : W p l e R s m args below meth c H locs cells slots Q (F0 m pc ls (.int x :: .int i :: .ref a :: rest)) := by
  subst hset
  exact va_zast hexec hb G.2.2.2.1 G.1 G.2.1 G.2.2.1 q0 t0 ha ht hin hdg (fun H1 locs1 h1 h2 h3 => kk H1 locs1 ⟨h1, h2, h3, G.2.2.2.1, G.2.2.2.2⟩)
end MC
