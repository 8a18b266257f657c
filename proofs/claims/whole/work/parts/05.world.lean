/-! SkewMelds' two cells: the object and its row -/
abbrev xw (h0 r0 : Nat) (cA : ClassId) (σ : Sx) : va_W := [(h0, .inr (0, [.ref r0, .int σ.2.1, .int σ.2.2.1, .int σ.2.2.2.1, .int σ.2.2.2.2.1, .int σ.2.2.2.2.2])), (r0, .inl (cA, 1080, .inl σ.1))]
theorem x_I {h0 r0 : Nat} {cA : ClassId} {σ : Sx} : gI (xw h0 r0 cA σ) (xw h0 r0 cA σ) [] [0, 1] [] := ⟨rfl, rfl, rfl, rfl, fun i h => by simp at h⟩
theorem x_inb {a : Int32} (h0 : ¬ a < 0) (h1 : a < 1080) : vp_in a 1080 := by
  have e0 : (0 : Int32).toInt = 0 := rfl
  have e1 : (1080 : Int32).toInt = 1080 := rfl
  rw [Int32.lt_iff_toInt_lt] at h0 h1
  exact vp_in_iff.mpr ⟨by omega, by omega⟩
theorem x_meas {B k : Int32} (h : ¬ B ≤ k) : (B.toInt - (k + 1).toInt).toNat < (B.toInt - k.toInt).toNat := by
  rw [Int32.le_iff_toInt_le] at h
  have h1 := Int32.toInt_lt B
  have h2 := Int32.le_toInt k
  have e : (k + 1).toInt = k.toInt + 1 := by
    rw [Int32.toInt_add, show (1 : Int32).toInt = 1 from rfl, Int.bmod_eq_of_le (by omega) (by omega)]
  rw [e]
  omega
theorem x_meas0 {B : Int32} : (B.toInt - (0 : Int32).toInt).toNat < B.toInt.toNat + 1 := by
  rw [show (0 : Int32).toInt = 0 from rfl]
  omega
section XC
variable {p : Program} {l : Launch} {e : Env} {R : Room} {s : State} {m : MethodId} {args : Array Value} {below : List Frame} {meth : Method} {c : Code} {H : Heap} {locs : List Loc} {cells slots : Nat} {Q : State → Prop}
variable {cc : ByteArray} {pc : Nat} {ls : Array Slot} {rest st0 : List Value} {D : va_G} {A : Nat → Prop} {h0 r0 : Nat} {cA : ClassId} {σ : Sx}
variable {y : MethodName} {wz : List Cond} {rm : Room} {As : List Value} {bytes : ByteArray} {maxL nL n index : Nat} {ret : Option FieldType} {Ts : List Cond} {own : String}
theorem x_calli {post : Int32 → Sx → Prop} (S : CallFix p m c cc nL s args Ts own) (hM : gMi l y wz rm D vwCl [(cA, .int)] (.ref h0 :: As) (xw h0 r0 cA) σ post) (cw : CallW R s args own RX0 index y bytes maxL ret wz rm 0 0 n)
    (G : gG D vwCl [(cA, .int)] A s (xw h0 r0 cA σ) H locs) (hlen : As.length = n) (hls : ls.size = nL) (hst : st0 = As.reverse ++ .ref h0 :: rest) (hW : (rest.map fun v => v.category).sum ≤ 8) (hdg : decode cc pc = .ok (.invokevirtual index, 3)) (hf : cells ≤ R.cells ∧ slots ≤ R.slots)
    (kk : ∀ (r : Int32) (σ' : Sx) (H1 : Heap) (locs1 : List Loc), post r σ' → gG D vwCl [(cA, .int)] A s (xw h0 r0 cA σ') H1 locs1 → W p l e R s m args below meth c H1 locs1 cells slots Q (F0 m (pc + 3) ls (.int r :: rest))) :
    W p l e R s m args below meth c H locs cells slots Q (F0 m pc ls st0) :=
  g_calli S hM cw G G.2.2.2.1 [0, 1] [] x_I (va_recv G.2.2.2.1 G.1 (ci := 0) (q0 := 0) rfl rfl) hlen hls hst hW hdg hf (fun r u' H1 locs1 hp hG => kk r u' H1 locs1 hp hG)
theorem x_calll {post : Int64 → Sx → Prop} (S : CallFix p m c cc nL s args Ts own) (hM : gMl l y wz rm D vwCl [(cA, .int)] (.ref h0 :: As) (xw h0 r0 cA) σ post) (cw : CallW R s args own RX0 index y bytes maxL ret wz rm 0 0 n)
    (G : gG D vwCl [(cA, .int)] A s (xw h0 r0 cA σ) H locs) (hlen : As.length = n) (hls : ls.size = nL) (hst : st0 = As.reverse ++ .ref h0 :: rest) (hW : (rest.map fun v => v.category).sum ≤ 8) (hdg : decode cc pc = .ok (.invokevirtual index, 3)) (hf : cells ≤ R.cells ∧ slots ≤ R.slots)
    (kk : ∀ (r : Int64) (σ' : Sx) (H1 : Heap) (locs1 : List Loc), post r σ' → gG D vwCl [(cA, .int)] A s (xw h0 r0 cA σ') H1 locs1 → W p l e R s m args below meth c H1 locs1 cells slots Q (F0 m (pc + 3) ls (.long r :: rest))) :
    W p l e R s m args below meth c H locs cells slots Q (F0 m pc ls st0) :=
  g_calll S hM cw G G.2.2.2.1 [0, 1] [] x_I (va_recv G.2.2.2.1 G.1 (ci := 0) (q0 := 0) rfl rfl) hlen hls hst hW hdg hf (fun r u' H1 locs1 hp hG => kk r u' H1 locs1 hp hG)
theorem x_callv {post : Sx → Prop} (S : CallFix p m c cc nL s args Ts own) (hM : gMv l y wz rm D vwCl [(cA, .int)] (.ref h0 :: As) (xw h0 r0 cA) σ post) (cw : CallW R s args own RX0 index y bytes maxL ret wz rm 0 0 n)
    (G : gG D vwCl [(cA, .int)] A s (xw h0 r0 cA σ) H locs) (hlen : As.length = n) (hls : ls.size = nL) (hst : st0 = As.reverse ++ .ref h0 :: rest) (hW : (rest.map fun v => v.category).sum ≤ 8) (hdg : decode cc pc = .ok (.invokevirtual index, 3)) (hf : cells ≤ R.cells ∧ slots ≤ R.slots)
    (kk : ∀ (σ' : Sx) (H1 : Heap) (locs1 : List Loc), post σ' → gG D vwCl [(cA, .int)] A s (xw h0 r0 cA σ') H1 locs1 → W p l e R s m args below meth c H1 locs1 cells slots Q (F0 m (pc + 3) ls rest)) :
    W p l e R s m args below meth c H locs cells slots Q (F0 m pc ls st0) :=
  g_callv S hM cw G G.2.2.2.1 [0, 1] [] x_I (va_recv G.2.2.2.1 G.1 (ci := 0) (q0 := 0) rfl rfl) hlen hls hst hW hdg hf (fun u' H1 locs1 hp hG => kk u' H1 locs1 hp hG)
end XC
