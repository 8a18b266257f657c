/-! SkewMelds as pure functions: the state is (row, heaps, unused, firstUnused, steps, limit); each function mirrors a method, branch by branch -/
abbrev Sx : Type := (Nat → Int32) × Int32 × Int32 × Int32 × Int32 × Int32
def x_sR (σ : Sx) (v : Nat → Int32) : Sx := (v, σ.2.1, σ.2.2.1, σ.2.2.2.1, σ.2.2.2.2.1, σ.2.2.2.2.2)
def x_sH (σ : Sx) (v : Int32) : Sx := (σ.1, v, σ.2.2.1, σ.2.2.2.1, σ.2.2.2.2.1, σ.2.2.2.2.2)
def x_sU (σ : Sx) (v : Int32) : Sx := (σ.1, σ.2.1, v, σ.2.2.2.1, σ.2.2.2.2.1, σ.2.2.2.2.2)
def x_sF (σ : Sx) (v : Int32) : Sx := (σ.1, σ.2.1, σ.2.2.1, v, σ.2.2.2.2.1, σ.2.2.2.2.2)
def x_sS (σ : Sx) (v : Int32) : Sx := (σ.1, σ.2.1, σ.2.2.1, σ.2.2.2.1, v, σ.2.2.2.2.2)
def x_sL (σ : Sx) (v : Int32) : Sx := (σ.1, σ.2.1, σ.2.2.1, σ.2.2.2.1, σ.2.2.2.2.1, v)
def x_read (σ : Sx) (a : Int32) : Int32 × Sx :=
  if a < 0 then (-1, σ) else if a < 1080 then (σ.1 a.toNatClampNeg, x_sS σ (σ.2.2.2.2.1 + 1)) else (-1, σ)
def x_write (σ : Sx) (a v : Int32) : Sx :=
  if a < 0 then σ else if a < 1080 then x_sR (x_sS σ (σ.2.2.2.2.1 + 1)) (upd σ.1 a.toNatClampNeg v) else σ
def x_begin (σ : Sx) (most : Int32) : Sx := x_sL (x_sS σ 0) most
def x_ex (σ : Sx) (h : Int32) : Int32 := if h < 0 then 0 else if σ.2.1 ≤ h then 0 else 1
def x_keysIn (σ : Sx) (h : Int32) : Int32 × Sx := if x_ex σ h = 0 then (0, σ) else x_read σ (1072 + h)
/-- limitFor's loop, p: the power so far -/
def x_pow (keys : Int32) : Nat → Int32 → Int32
  | 0, p => p
  | n + 1, p => if 30 ≤ p then p else if keys + 1 < (2 : Int32) <<< (p &&& 31) then p else x_pow keys n (p + 1)
def x_limFor (keys : Int32) : Int32 := 200 * (2 + x_pow keys 31 0)
def x_beginOn (σ : Sx) (h : Int32) : Sx := x_sL (x_keysIn (x_sS σ 0) h).2 (x_limFor (x_keysIn (x_sS σ 0) h).1)
def x_beginOnBoth (σ : Sx) (to fr : Int32) : Sx :=
  let q1 := x_keysIn (x_sS σ 0) to
  let q2 := x_keysIn q1.2 fr
  x_sL q2.2 (x_limFor (q1.1 + q2.1))
def x_resize (σ : Sx) (h k : Int32) : Int32 × Sx := (k, x_write σ (1072 + h) k)
def x_newCell (σ : Sx) (key : Int32) : Int32 × Sx :=
  let cell := σ.2.2.2.1
  let q := x_read σ (600 + cell)
  let s1 := x_sF q.2 q.1
  let s2 := x_sU s1 (s1.2.2.1 - 1)
  let s3 := x_write s2 (0 + cell) key
  let s4 := x_write s3 (200 + cell) 0
  (cell, x_write s4 (400 + cell) (-1))
def x_giveBack (σ : Sx) (cell : Int32) : Sx :=
  let s1 := x_write σ (600 + cell) σ.2.2.2.1
  let s2 := x_sF s1 cell
  x_sU s2 (s2.2.2.1 + 1)
def x_topAt (h r : Int32) : Int32 := 1000 + h * 8 + r
def x_cutTop (σ : Sx) (h r : Int32) : Int32 × Sx :=
  let q := x_read σ (x_topAt h r)
  (q.1, x_write q.2 (x_topAt h r) (-1))
def x_cutTwin (σ : Sx) (h : Int32) : Int32 × Sx :=
  let q := x_read σ (1064 + h)
  (q.1, x_write q.2 (1064 + h) (-1))
def x_hangTree (σ : Sx) (root tree : Int32) : Sx :=
  let q := x_read σ (400 + root)
  x_write (x_write q.2 (600 + tree) q.1) (400 + root) tree
def x_link (σ : Sx) (one other : Int32) : Int32 × Sx :=
  let q1 := x_read σ (0 + one)
  let q2 := x_read q1.2 (0 + other)
  if q2.1 < q1.1 then
    let s3 := x_hangTree q2.2 other one
    let q4 := x_read s3 (200 + other)
    (other, x_write q4.2 (200 + other) (q4.1 + 1))
  else
    let s3 := x_hangTree q2.2 one other
    let q4 := x_read s3 (200 + one)
    (one, x_write q4.2 (200 + one) (q4.1 + 1))
def x_hangKey (σ : Sx) (root cell : Int32) : Sx :=
  let q1 := x_read σ (0 + root)
  let q2 := x_read q1.2 (0 + cell)
  if q1.1 ≤ q2.1 then x_hangTree q2.2 root cell
  else x_hangTree (x_write (x_write q2.2 (0 + root) q2.1) (0 + cell) q1.1) root cell
/-- insertCell behind the first branch: the tree goes to its place or is the twin -/
def x_insTail (σ : Sx) (h tree : Int32) : Sx :=
  let q5 := x_read σ (200 + tree)
  let q6 := x_read q5.2 (x_topAt h q5.1)
  if q6.1 = -1 then x_write q6.2 (x_topAt h q5.1) tree else x_write q6.2 (1064 + h) tree
def x_insertCell (σ : Sx) (h cell : Int32) : Sx :=
  let q1 := x_cutTwin σ h
  if q1.1 = -1 then x_insTail q1.2 h cell
  else
    let q2 := x_read q1.2 (200 + q1.1)
    let q3 := x_cutTop q2.2 h q2.1
    let q4 := x_link q3.2 q1.1 q3.1
    x_insTail (x_hangKey q4.2 q4.1 cell) h q4.1
def x_placeL (h : Int32) : Nat → Sx → Int32 → Int32 → Sx
  | 0, σ, _, _ => σ
  | n + 1, σ, tree, rank =>
    if 8 ≤ rank then σ else
      let q := x_cutTop σ h rank
      if q.1 = -1 then x_write q.2 (x_topAt h rank) tree
      else
        let q2 := x_link q.2 tree q.1
        x_placeL h n q2.2 q2.1 (rank + 1)
def x_place (σ : Sx) (h added : Int32) : Sx :=
  if added = -1 then σ else
    let q := x_read σ (200 + added)
    x_placeL h ((8 - q.1.toInt).toNat + 1) q.2 added q.1
def y_pcL (h : Int32) : Nat → Sx → Int32 → Int32 → Sx
  | 0, σ, _, _ => σ
  | n + 1, σ, child, i =>
    if 200 ≤ i then σ else if child = -1 then σ else
      let q := x_read σ (600 + child)
      y_pcL h n (x_place q.2 h child) q.1 (i + 1)
def x_placeChildren (σ : Sx) (h root : Int32) : Sx :=
  let q := x_read σ (400 + root)
  y_pcL h 201 q.2 q.1 0
def x_lesserRoot (σ : Sx) (one other : Int32) : Int32 × Sx :=
  if one = -1 then (other, σ) else if other = -1 then (one, σ) else
    let q1 := x_read σ (0 + one)
    let q2 := x_read q1.2 (0 + other)
    if q2.1 < q1.1 then (other, q2.2) else (one, q2.2)
def y_lrL (h : Int32) : Nat → Sx → Int32 → Int32 → Int32 × Sx
  | 0, σ, best, _ => (best, σ)
  | n + 1, σ, best, rank =>
    if 8 ≤ rank then (best, σ) else
      let q := x_read σ (x_topAt h rank)
      let q2 := x_lesserRoot q.2 best q.1
      y_lrL h n q2.2 q2.1 (rank + 1)
def x_leastRoot (σ : Sx) (h : Int32) : Int32 × Sx :=
  if x_ex σ h = 0 then (-1, σ) else
    let q := x_read σ (1064 + h)
    y_lrL h 9 q.2 q.1 0
def x_cutRoot (σ : Sx) (h root : Int32) : Sx :=
  let q := x_cutTwin σ h
  if q.1 = root then q.2 else
    let q2 := x_read q.2 (200 + root)
    x_place (x_cutTop q2.2 h q2.1).2 h q.1
def y_lcL (most : Int32) : Nat → Sx → Int32 → Int32 → Int32 → Int32 × Sx
  | 0, σ, e, _, _ => (e, σ)
  | n + 1, σ, e, ce, i =>
    if most ≤ i then (e, σ) else if ce = -1 then (e, σ) else if 200 ≤ e then (e, σ) else
      let q := x_read (x_write σ (800 + e) ce) (600 + ce)
      y_lcL most n q.2 (e + 1) q.1 (i + 1)
def x_listChain (σ : Sx) (count first most : Int32) : Int32 × Sx := y_lcL most (most.toInt.toNat + 1) σ count first 0
def y_lsT (h : Int32) : Nat → Sx → Int32 → Int32 → Int32 × Sx
  | 0, σ, count, _ => (count, σ)
  | n + 1, σ, count, rank =>
    if 8 ≤ rank then (count, σ) else
      let q := x_read σ (x_topAt h rank)
      let q2 := x_listChain q.2 count q.1 1
      y_lsT h n q2.2 q2.1 (rank + 1)
def y_lsC : Nat → Sx → Int32 → Int32 → Int32 × Sx
  | 0, σ, count, _ => (count, σ)
  | n + 1, σ, count, i =>
    if count ≤ i then (count, σ) else if 200 ≤ i then (count, σ) else
      let q := x_read σ (800 + i)
      let q2 := x_read q.2 (400 + q.1)
      let q3 := x_listChain q2.2 count q2.1 200
      y_lsC n q3.2 q3.1 (i + 1)
def x_listCells (σ : Sx) (h : Int32) : Int32 × Sx :=
  let q := x_read σ (1064 + h)
  let q2 := x_listChain q.2 0 q.1 1
  let q3 := y_lsT h 9 q2.2 q2.1 0
  y_lsC 201 q3.2 q3.1 0
def x_listedKey (σ : Sx) (i : Int32) : Int32 × Sx :=
  let q := x_read σ (800 + i)
  x_read q.2 (0 + q.1)
def y_cuL (bound : Int64) (count : Int32) : Nat → Sx → Int32 → Int32 → Int32 × Sx
  | 0, σ, found, _ => (found, σ)
  | n + 1, σ, found, i =>
    if count ≤ i then (found, σ) else
      let q := x_listedKey σ i
      if bound < q.1.toInt64 then y_cuL bound count n q.2 found (i + 1) else y_cuL bound count n q.2 (found + 1) (i + 1)
def x_countUpTo (σ : Sx) (count : Int32) (bound : Int64) : Int32 × Sx := y_cuL bound count (count.toInt.toNat + 1) σ 0 0
def y_kthL (count k : Int32) : Nat → Sx → Int64 → Int64 → Int32 → Int64 × Sx
  | 0, σ, low, _, _ => (low, σ)
  | n + 1, σ, low, high, bit =>
    if 32 ≤ bit then (low, σ) else
      let q := x_countUpTo σ count ((low + high) >>> ((1 : Int32).toInt64 &&& 63))
      if q.1 ≤ k then y_kthL count k n q.2 ((low + high) >>> ((1 : Int32).toInt64 &&& 63) + 1) high (bit + 1) else y_kthL count k n q.2 low ((low + high) >>> ((1 : Int32).toInt64 &&& 63)) (bit + 1)
def x_kthListed (σ : Sx) (count k : Int32) : Int64 × Sx := y_kthL count k 33 σ (-2147483648) 2147483647 0
def y_sumL (count : Int32) : Nat → Sx → Int64 → Int32 → Int64 × Sx
  | 0, σ, total, _ => (total, σ)
  | n + 1, σ, total, i =>
    if count ≤ i then (total, σ) else
      let q := x_listedKey σ i
      y_sumL count n q.2 (total + q.1.toInt64) (i + 1)
def x_heap (σ : Sx) : Int32 × Sx :=
  let s := x_begin σ 2147483647
  if s.2.1 < 8 then
    let s2 := x_sH s (s.2.1 + 1)
    (s2.2.1 - 1, s2)
  else (-1, s)
def x_add (σ : Sx) (h key : Int32) : Int32 × Sx :=
  let s := x_begin σ 100
  if x_ex s h = 0 then (-1, s) else if s.2.2.2.1 = -1 then (-2, s) else
    let q := x_newCell s key
    let s2 := x_insertCell q.2 h q.1
    let q3 := x_read s2 (1072 + h)
    x_resize q3.2 h (q3.1 + 1)
def x_least (σ : Sx) (h : Int32) : Int64 × Sx :=
  let s := x_beginOn σ h
  let q := x_leastRoot s h
  if q.1 = -1 then (-9223372036854775808, q.2) else
    let q2 := x_read q.2 (0 + q.1)
    (q2.1.toInt64, q2.2)
def x_take (σ : Sx) (h : Int32) : Int64 × Sx :=
  let s := x_beginOn σ h
  let q := x_leastRoot s h
  if q.1 = -1 then (-9223372036854775808, q.2) else
    let q2 := x_read q.2 (0 + q.1)
    let s3 := x_cutRoot q2.2 h q.1
    let s4 := x_placeChildren s3 h q.1
    let s5 := x_giveBack s4 q.1
    let q6 := x_read s5 (1072 + h)
    (q2.1.toInt64, (x_resize q6.2 h (q6.1 - 1)).2)
def y_meL (to fr : Int32) : Nat → Sx → Int32 → Sx
  | 0, σ, _ => σ
  | n + 1, σ, rank =>
    if 8 ≤ rank then σ else
      let q := x_cutTop σ fr rank
      y_meL to fr n (x_place q.2 to q.1) (rank + 1)
def x_meldT (to fr : Int32) (s3 : Sx) : Int32 × Sx :=
  let q4 := x_read s3 (1072 + fr)
  let q5 := x_resize q4.2 fr 0
  let q6 := x_read q5.2 (1072 + to)
  x_resize q6.2 to (q6.1 + q4.1)
def x_meld (σ : Sx) (to fr : Int32) : Int32 × Sx :=
  let s := x_beginOnBoth σ to fr
  if x_ex s to = 0 then (-1, s) else if x_ex s fr = 0 then (-1, s) else if to = fr then (-1, s) else
    let q1 := x_cutTwin s to
    let s1 := x_place q1.2 to q1.1
    let q2 := x_cutTwin s1 fr
    let s2 := x_place q2.2 to q2.1
    x_meldT to fr (y_meL to fr 9 s2 0)
def x_size (σ : Sx) (h : Int32) : Int32 × Sx :=
  let s := x_begin σ 2147483647
  if x_ex s h = 0 then (-1, s) else x_read s (1072 + h)
def x_key (σ : Sx) (h k : Int32) : Int64 × Sx :=
  let s := x_begin σ 2147483647
  if k < 0 then (-9223372036854775808, s) else
    let q := x_keysIn s h
    if k < q.1 then
      let q2 := x_listCells q.2 h
      x_kthListed q2.2 q2.1 k
    else (-9223372036854775808, q.2)
def x_sum (σ : Sx) (h : Int32) : Int64 × Sx :=
  let s := x_begin σ 2147483647
  if x_ex s h = 0 then (0, s) else
    let q := x_listCells s h
    y_sumL q.1 (q.1.toInt.toNat + 1) q.2 0 0
def x_free (σ : Sx) : Int32 × Sx := ((x_begin σ 2147483647).2.2.1, x_begin σ 2147483647)
def x_few (σ : Sx) : Int32 × Sx := ((if σ.2.2.2.2.2 < σ.2.2.2.2.1 then 0 else 1), x_begin σ 2147483647)
def y_inL : Nat → Sx → Int32 → Sx
  | 0, σ, _ => σ
  | n + 1, σ, i => if 1072 ≤ i then σ else y_inL n (x_write σ i (-1)) (i + 1)
def y_giL : Nat → Sx → Int32 → Sx
  | 0, σ, _ => σ
  | n + 1, σ, ce => if ce < 0 then σ else y_giL n (x_giveBack σ ce) (ce + (-1))
def x_new : Sx :=
  let s1 := y_inL 73 (fun _ => 0, 0, 0, 0, 0, 0) 1000
  x_begin (y_giL 201 (x_sF s1 (-1)) 199) 2147483647
