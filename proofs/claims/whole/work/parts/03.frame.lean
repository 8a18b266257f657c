/-! a method's whole world in one hypothesis; a call and its frame in one row. Nothing here is of this class. -/
def gG (D : va_G) (cl : List vw_C) (tys : List (ClassId × FieldType)) (A : Nat → Prop) (s : State) (ws : va_W) (H : Heap) (locs : List Loc) : Prop :=
  va_P D cl ws H ∧ va_D A ws ∧ va_S A s.heap H locs ∧ va_K D cl tys s ∧ ∀ q, s.heap.size ≤ q → A q
def gP (D : va_G) (cl : List vw_C) (tys : List (ClassId × FieldType)) (sz : Nat) (ws : va_W) : State → Prop := fun U => U.heap.size = sz ∧ va_P D cl ws U.heap ∧ va_K D cl tys U ∧ va_D (fun _ => True) ws
def gB {τ : Type} (D : va_G) (cl : List vw_C) (tys : List (ClassId × FieldType)) (A : Nat → Prop) (wf : τ → va_W) : τ → State → Prop := fun u t => va_P D cl (wf u) t.heap ∧ va_K D cl tys t ∧ va_D A (wf u)
def gMi {τ : Type} (l : Launch) (y : MethodName) (wz : List Cond) (rm : Room) (D : va_G) (cl : List vw_C) (tys : List (ClassId × FieldType)) (av : List Value) (wf : τ → va_W) (u : τ) (post : Int32 → τ → Prop) : Prop :=
  ∀ sz, Met l y wz rm (va_Pc av (gP D cl tys sz (wf u))) (va_Qi post (gB D cl tys (va_A (wf u) sz) wf) (va_A (wf u) sz)) 0 0 (va_A (wf u) sz)
def gMl {τ : Type} (l : Launch) (y : MethodName) (wz : List Cond) (rm : Room) (D : va_G) (cl : List vw_C) (tys : List (ClassId × FieldType)) (av : List Value) (wf : τ → va_W) (u : τ) (post : Int64 → τ → Prop) : Prop :=
  ∀ sz, Met l y wz rm (va_Pc av (gP D cl tys sz (wf u))) (va_Ql post (gB D cl tys (va_A (wf u) sz) wf) (va_A (wf u) sz)) 0 0 (va_A (wf u) sz)
def gMv {τ : Type} (l : Launch) (y : MethodName) (wz : List Cond) (rm : Room) (D : va_G) (cl : List vw_C) (tys : List (ClassId × FieldType)) (av : List Value) (wf : τ → va_W) (u : τ) (post : τ → Prop) : Prop :=
  ∀ sz, Met l y wz rm (va_Pc av (gP D cl tys sz (wf u))) (va_Qv post (gB D cl tys (va_A (wf u) sz) wf) (va_A (wf u) sz)) 0 0 (va_A (wf u) sz)
/-- what holds at a method's entry -/
def gE (p : Program) (s : State) (m : MethodId) (meth : Method) (c : Code) (y : MethodName) (cc : ByteArray) (maxL : Nat) (ret : Option FieldType) (wz : List Cond) (args : Array Value) : Prop :=
  p.tables.exec = Jvm.exec ∧ c.code = cc ∧ c.maxLocals = maxL ∧ meth.sig.returnType = ret ∧ meth.locks = false ∧ s.vm.findClass y.cls = some m.cls ∧ (∀ w ∈ wz, w.before args s = true) ∧ s.methodNamed? y = some m ∧ s.vm.method? m = some meth
theorem gP_blind {D : va_G} {cl : List vw_C} {tys : List (ClassId × FieldType)} {sz : Nat} {ws : va_W} {av : List Value} : FrameBlind (va_Pc av (gP D cl tys sz ws)) := fun a U g mk q => by
  obtain ⟨q0, q1, qP, qK, qD⟩ := q
  exact ⟨q0, q1, qP, va_K.moved (u := U) (U := U.calling g mk a) (Vm.Alike.refl U.vm) qK, qD⟩
section GE
variable {τ : Type} {l : Launch} {y : MethodName} {wz wz' : List Cond} {rm : Room} {D : va_G} {cl : List vw_C} {tys : List (ClassId × FieldType)} {av : List Value} {wf : τ → va_W} {u : τ} {cc : ByteArray} {maxL : Nat} {ret : Option FieldType}
theorem gMi_of {post : Int32 → τ → Prop} (hy : plainName y.cls = true) (hw : wz = Cond.code y cc maxL ret :: wz') (hlen : (lg_sl av).length ≤ maxL)
    (body : ∀ p e s m below meth c A ls, gE p s m meth c y cc maxL ret wz av.toArray → gG D cl tys A s (wf u) s.heap [] → lv_has ls maxL (lv_args 0 av) →
      W p l e rm s m av.toArray below meth c s.heap [] 0 0 (MQ below (va_Qi post (gB D cl tys A wf) A) av.toArray s 0 0 A) (F0 m 0 ls [])) : gMi l y wz rm D cl tys av wf u post := by
  intro sz
  refine Met.ofW (cc := cc) (maxL := maxL) (ret := ret) hy hw ?_
  intro p e s m args below meth c s₁ B hml hv
  obtain ⟨rfl, hsz, hP, hK, hD0⟩ := hv
  subst hsz
  rw [lg_entry_eq]
  exact body p e s m below meth c (va_A (wf u) s.heap.size) _ ⟨B.exec, B.bytes, hml, B.returns, B.notSynchronized, findClass_of_methodNamed B.named, atoms_spec (ws := wz) B.pre, B.named, B.method⟩ ⟨hP, hD0.self, va_S.rf, hK, fun q h => Or.inr h⟩ (lv_entry av hlen)
theorem gMl_of {post : Int64 → τ → Prop} (hy : plainName y.cls = true) (hw : wz = Cond.code y cc maxL ret :: wz') (hlen : (lg_sl av).length ≤ maxL)
    (body : ∀ p e s m below meth c A ls, gE p s m meth c y cc maxL ret wz av.toArray → gG D cl tys A s (wf u) s.heap [] → lv_has ls maxL (lv_args 0 av) →
      W p l e rm s m av.toArray below meth c s.heap [] 0 0 (MQ below (va_Ql post (gB D cl tys A wf) A) av.toArray s 0 0 A) (F0 m 0 ls [])) : gMl l y wz rm D cl tys av wf u post := by
  intro sz
  refine Met.ofW (cc := cc) (maxL := maxL) (ret := ret) hy hw ?_
  intro p e s m args below meth c s₁ B hml hv
  obtain ⟨rfl, hsz, hP, hK, hD0⟩ := hv
  subst hsz
  rw [lg_entry_eq]
  exact body p e s m below meth c (va_A (wf u) s.heap.size) _ ⟨B.exec, B.bytes, hml, B.returns, B.notSynchronized, findClass_of_methodNamed B.named, atoms_spec (ws := wz) B.pre, B.named, B.method⟩ ⟨hP, hD0.self, va_S.rf, hK, fun q h => Or.inr h⟩ (lv_entry av hlen)
theorem gMv_of {post : τ → Prop} (hy : plainName y.cls = true) (hw : wz = Cond.code y cc maxL ret :: wz') (hlen : (lg_sl av).length ≤ maxL)
    (body : ∀ p e s m below meth c A ls, gE p s m meth c y cc maxL ret wz av.toArray → gG D cl tys A s (wf u) s.heap [] → lv_has ls maxL (lv_args 0 av) →
      W p l e rm s m av.toArray below meth c s.heap [] 0 0 (MQ below (va_Qv post (gB D cl tys A wf) A) av.toArray s 0 0 A) (F0 m 0 ls [])) : gMv l y wz rm D cl tys av wf u post := by
  intro sz
  refine Met.ofW (cc := cc) (maxL := maxL) (ret := ret) hy hw ?_
  intro p e s m args below meth c s₁ B hml hv
  obtain ⟨rfl, hsz, hP, hK, hD0⟩ := hv
  subst hsz
  rw [lg_entry_eq]
  exact body p e s m below meth c (va_A (wf u) s.heap.size) _ ⟨B.exec, B.bytes, hml, B.returns, B.notSynchronized, findClass_of_methodNamed B.named, atoms_spec (ws := wz) B.pre, B.named, B.method⟩ ⟨hP, hD0.self, va_S.rf, hK, fun q h => Or.inr h⟩ (lv_entry av hlen)
end GE
section GC
variable {p : Program} {l : Launch} {e : Env} {R : Room} {s : State} {m : MethodId} {args : Array Value} {below : List Frame} {meth : Method} {c : Code} {H : Heap} {locs : List Loc} {cells slots : Nat} {Q : State → Prop}
variable {cc : ByteArray} {pc : Nat} {ls : Array Slot} {rest st0 : List Value} {D : va_G} {cl : List vw_C} {A : Nat → Prop} {b : Nat} {tys tysC : List (ClassId × FieldType)} {ws wr : va_W}
variable {τ : Type} {y : MethodName} {wz : List Cond} {rm : Room} {As : List Value} {wf : τ → va_W} {u : τ} {bytes : ByteArray} {maxL nL n index : Nat} {ret : Option FieldType} {Ts : List Cond} {own C : String}
theorem g_iret {post : Int32 → τ → Prop} {v : Int32} (E : gE p s m meth c y cc maxL (some .int) wz args) (G : gG D cl tys A s (wf u) H locs) (hp : post v u) (hdg : decode cc pc = .ok (.ireturn, 1)) :
    W p l e R s m args below meth c H locs 0 0 (MQ below (va_Qi post (gB D cl tys A wf) A) args s 0 0 A) (F0 m pc ls [.int v]) :=
  W.iret E.1 E.2.1 E.2.2.2.1 (fun t ht hW => ⟨⟨v, u, rfl, hp, by rw [ht]; exact G.1, va_K.moved hW.alike G.2.2.2.1, G.2.1⟩, G.2.2.1.F ht⟩) G.2.2.1.2.2 hdg E.2.2.2.2.1
theorem g_zret {post : Int32 → τ → Prop} {v : Int32} (E : gE p s m meth c y cc maxL (some .boolean) wz args) (G : gG D cl tys A s (wf u) H locs) (hn : narrow .boolean (.int v) = .int v) (hp : post v u) (hdg : decode cc pc = .ok (.ireturn, 1)) :
    W p l e R s m args below meth c H locs 0 0 (MQ below (va_Qi post (gB D cl tys A wf) A) args s 0 0 A) (F0 m pc ls [.int v]) :=
  W.zret E.1 E.2.1 E.2.2.2.1 hn (fun t ht hW => ⟨⟨v, u, rfl, hp, by rw [ht]; exact G.1, va_K.moved hW.alike G.2.2.2.1, G.2.1⟩, G.2.2.1.F ht⟩) G.2.2.1.2.2 hdg E.2.2.2.2.1
theorem g_lret {post : Int64 → τ → Prop} {v : Int64} (E : gE p s m meth c y cc maxL (some .long) wz args) (G : gG D cl tys A s (wf u) H locs) (hp : post v u) (hdg : decode cc pc = .ok (.lreturn, 1)) :
    W p l e R s m args below meth c H locs 0 0 (MQ below (va_Ql post (gB D cl tys A wf) A) args s 0 0 A) (F0 m pc ls [.long v]) :=
  W.lret E.1 E.2.1 E.2.2.2.1 (fun t ht hW => ⟨⟨v, u, rfl, hp, by rw [ht]; exact G.1, va_K.moved hW.alike G.2.2.2.1, G.2.1⟩, G.2.2.1.F ht⟩) G.2.2.1.2.2 hdg E.2.2.2.2.1
theorem g_vret {post : τ → Prop} (E : gE p s m meth c y cc maxL none wz args) (G : gG D cl tys A s (wf u) H locs) (hp : post u) (hdg : decode cc pc = .ok (.return_, 1)) :
    W p l e R s m args below meth c H locs 0 0 (MQ below (va_Qv post (gB D cl tys A wf) A) args s 0 0 A) (F0 m pc ls []) :=
  W.vret E.1 E.2.1 E.2.2.2.1 (fun t ht hW => ⟨⟨u, rfl, hp, by rw [ht]; exact G.1, va_K.moved hW.alike G.2.2.2.1, G.2.1⟩, G.2.2.1.F ht⟩) G.2.2.1.2.2 hdg E.2.2.2.2.1
/-- the callee's cells isC, the rest's isR -/
def gI (ws wc wr : va_W) (isC isR : List Nat) : Prop := isC.map (fun i => ws[i]?) = wc.map some ∧ isR.map (fun i => ws[i]?) = wr.map some ∧ va_nd isC = true ∧ va_nd isR = true ∧ ∀ i ∈ isR, i ∉ isC
theorem gI_P {wc : va_W} {isC isR : List Nat} (hI : gI ws wc wr isC isR) (hP : va_P D cl ws H) : va_P D cl wc H := by
  refine hP.sub isC ?_
  have h := congrArg (List.filterMap id) hI.1
  simpa [List.filterMap_map] using h
theorem g_pre {wc : va_W} {av : List Value} {isC isR : List Nat} (G : gG D cl tys A s ws H locs) (hKc : va_K D cl tysC s) (hI : gI ws wc wr isC isR) :
    ∀ U : State, U.heap = H → s.WarmedH U.vm → va_Pc av (gP D cl tysC H.size wc) av.toArray U := fun U hU hW =>
  ⟨rfl, by rw [hU], by rw [hU]; exact gI_P hI G.1, va_K.moved hW.alike hKc, (G.2.1.sub isC hI.2.2.1 hI.1).weaken (fun _ _ _ _ => trivial)⟩
theorem g_calli {post : Int32 → τ → Prop} (S : CallFix p m c cc nL s args Ts own) (hM : gMi l y wz rm D cl tysC (.ref b :: As) wf u post) (cw : CallW R s args own C index y bytes maxL ret wz rm 0 0 n)
    (G : gG D cl tys A s ws H locs) (hKc : va_K D cl tysC s) (isC isR : List Nat) (hI : gI ws (wf u) wr isC isR) (hrecv : ∃ cellB : Cell, H[b]? = some cellB ∧ cellB.vm.isStatics = false ∧ s.vm.findClass C = some cellB.cls)
    (hlen : As.length = n) (hls : ls.size = nL) (hst : st0 = As.reverse ++ .ref b :: rest) (hW : (rest.map fun v => v.category).sum ≤ 8) (hdg : decode cc pc = .ok (.invokevirtual index, 3)) (hf : cells ≤ R.cells ∧ slots ≤ R.slots)
    (kk : ∀ (r : Int32) (u' : τ) (H1 : Heap) (locs1 : List Loc), post r u' → gG D cl tys A s (wr ++ wf u') H1 locs1 → W p l e R s m args below meth c H1 locs1 cells slots Q (F0 m (pc + 3) ls (.int r :: rest))) :
    W p l e R s m args below meth c H locs cells slots Q (F0 m pc ls st0) := by
  obtain ⟨hP, hD, hS, hK, hA⟩ := id G
  have hFc := va_free hD hS hA isC hI.1
  refine va_calli (va_runV S (hM H.size) cw ⟨gP_blind, hrecv, g_pre G hKc hI⟩ rfl hlen hls hst (lv_room hW) hdg hf) hS (fun q _ h => hFc q h) hFc (fun r u' t H1 locs1 ht hvm hw hB hz1 hk1 hS1 => ?_)
  obtain ⟨hP1, hK1, hD1⟩ := hB
  rw [ht] at hP1
  obtain ⟨hP2, hD2⟩ := va_join hP hD isC isR hI.1 hI.2.1 hI.2.2.2.1 hI.2.2.2.2 hk1 hFc hP1 hD1
  exact kk r u' H1 locs1 hw ⟨hP2, hD2, hS1, hK, hA⟩
theorem g_calll {post : Int64 → τ → Prop} (S : CallFix p m c cc nL s args Ts own) (hM : gMl l y wz rm D cl tysC (.ref b :: As) wf u post) (cw : CallW R s args own C index y bytes maxL ret wz rm 0 0 n)
    (G : gG D cl tys A s ws H locs) (hKc : va_K D cl tysC s) (isC isR : List Nat) (hI : gI ws (wf u) wr isC isR) (hrecv : ∃ cellB : Cell, H[b]? = some cellB ∧ cellB.vm.isStatics = false ∧ s.vm.findClass C = some cellB.cls)
    (hlen : As.length = n) (hls : ls.size = nL) (hst : st0 = As.reverse ++ .ref b :: rest) (hW : (rest.map fun v => v.category).sum ≤ 8) (hdg : decode cc pc = .ok (.invokevirtual index, 3)) (hf : cells ≤ R.cells ∧ slots ≤ R.slots)
    (kk : ∀ (r : Int64) (u' : τ) (H1 : Heap) (locs1 : List Loc), post r u' → gG D cl tys A s (wr ++ wf u') H1 locs1 → W p l e R s m args below meth c H1 locs1 cells slots Q (F0 m (pc + 3) ls (.long r :: rest))) :
    W p l e R s m args below meth c H locs cells slots Q (F0 m pc ls st0) := by
  obtain ⟨hP, hD, hS, hK, hA⟩ := id G
  have hFc := va_free hD hS hA isC hI.1
  refine va_calll (va_runV S (hM H.size) cw ⟨gP_blind, hrecv, g_pre G hKc hI⟩ rfl hlen hls hst (lv_room hW) hdg hf) hS (fun q _ h => hFc q h) hFc (fun r u' t H1 locs1 ht hvm hw hB hz1 hk1 hS1 => ?_)
  obtain ⟨hP1, hK1, hD1⟩ := hB
  rw [ht] at hP1
  obtain ⟨hP2, hD2⟩ := va_join hP hD isC isR hI.1 hI.2.1 hI.2.2.2.1 hI.2.2.2.2 hk1 hFc hP1 hD1
  exact kk r u' H1 locs1 hw ⟨hP2, hD2, hS1, hK, hA⟩
theorem g_callv {post : τ → Prop} (S : CallFix p m c cc nL s args Ts own) (hM : gMv l y wz rm D cl tysC (.ref b :: As) wf u post) (cw : CallW R s args own C index y bytes maxL ret wz rm 0 0 n)
    (G : gG D cl tys A s ws H locs) (hKc : va_K D cl tysC s) (isC isR : List Nat) (hI : gI ws (wf u) wr isC isR) (hrecv : ∃ cellB : Cell, H[b]? = some cellB ∧ cellB.vm.isStatics = false ∧ s.vm.findClass C = some cellB.cls)
    (hlen : As.length = n) (hls : ls.size = nL) (hst : st0 = As.reverse ++ .ref b :: rest) (hW : (rest.map fun v => v.category).sum ≤ 8) (hdg : decode cc pc = .ok (.invokevirtual index, 3)) (hf : cells ≤ R.cells ∧ slots ≤ R.slots)
    (kk : ∀ (u' : τ) (H1 : Heap) (locs1 : List Loc), post u' → gG D cl tys A s (wr ++ wf u') H1 locs1 → W p l e R s m args below meth c H1 locs1 cells slots Q (F0 m (pc + 3) ls rest)) :
    W p l e R s m args below meth c H locs cells slots Q (F0 m pc ls st0) := by
  obtain ⟨hP, hD, hS, hK, hA⟩ := id G
  have hFc := va_free hD hS hA isC hI.1
  refine va_callv (va_runV S (hM H.size) cw ⟨gP_blind, hrecv, g_pre G hKc hI⟩ rfl hlen hls hst (lv_room hW) hdg hf) hS (fun q _ h => hFc q h) hFc (fun u' t H1 locs1 ht hvm hw hB hz1 hk1 hS1 => ?_)
  obtain ⟨hP1, hK1, hD1⟩ := hB
  rw [ht] at hP1
  obtain ⟨hP2, hD2⟩ := va_join hP hD isC isR hI.1 hI.2.1 hI.2.2.2.1 hI.2.2.2.2 hk1 hFc hP1 hD1
  exact kk u' H1 locs1 hw ⟨hP2, hD2, hS1, hK, hA⟩
/-- a static method without a world: an int of ints -/
def gMs (l : Launch) (y : MethodName) (wz : List Cond) (rm : Room) (av : List Value) (post : Int32 → Prop) : Prop :=
  ∀ (D : va_G) (cl : List vw_C), gMi l y wz rm D cl [] av (fun _ : Unit => []) () (fun r _ => post r)
theorem g_calls {post : Int32 → Prop} (S : CallFix p m c cc nL s args Ts own) (hM : gMs l y wz rm As post) (cw : CallB R s args own index y bytes maxL ret wz rm 0 0 n ∧ (Cond.static y).before args s = true)
    (G : gG D cl tys A s ws H locs) (hlen : As.length = n) (hls : ls.size = nL) (hst : st0 = As.reverse ++ rest) (hW : (rest.map fun v => v.category).sum ≤ 8) (hdg : decode cc pc = .ok (.invokestatic index, 3)) (hf : cells ≤ R.cells ∧ slots ≤ R.slots)
    (kk : ∀ (r : Int32) (H1 : Heap) (locs1 : List Loc), post r → gG D cl tys A s ws H1 locs1 → W p l e R s m args below meth c H1 locs1 cells slots Q (F0 m (pc + 3) ls (.int r :: rest))) :
    W p l e R s m args below meth c H locs cells slots Q (F0 m pc ls st0) := by
  obtain ⟨hP, hD, hS, hK, hA⟩ := id G
  have hFc : ∀ q, va_A [] H.size q → A q := va_free hD hS hA [] rfl
  have hKc : va_K D cl [] s := hK.sub [] rfl
  refine va_calli (va_runS S (hM D cl H.size) cw ⟨gP_blind, fun U hU hW => ⟨rfl, by rw [hU], fun k q h => by simp at h, va_K.moved hW.alike hKc, ⟨fun i j p q h => by simp at h, fun k q h => by simp at h⟩⟩⟩ rfl hlen hls hst (lv_room hW) hdg hf) hS (fun q _ h => hFc q h) hFc (fun r u' t H1 locs1 ht hvm hw hB hz1 hk1 hS1 => ?_)
  have hap : ∀ (k : Nat) (q : Nat × va_E), ws[k]? = some q → H1[q.1]? = H[q.1]? := fun k q hq => by
    have hl := (hP k q hq).lt
    refine hk1 q.1 hl (fun h => ?_)
    rcases h with ⟨k2, e2, h⟩ | h
    · simp at h
    · omega
  exact kk r H1 locs1 hw ⟨fun k q hq => (hP k q hq).kept (hap k q hq), hD, hS1, hK, hA⟩
theorem g_get {a : Nat} (hexec : p.tables.exec = Jvm.exec) (hb : c.code = cc) {ref C : String} {T : u_T} {N ci : Nat} (hts : ∀ w ∈ Ts, w.before args s = true) (hin : ∀ w ∈ u_ws C T N, w ∈ Ts) (hown : s.vm.findClass own = some m.cls) (G : gG D cl tys A s ws H locs) (q0 : Nat) {fs : List Value} (he : ws[q0]? = some (a, .inr (ci, fs))) (hc : cl[ci]? = some (C, T, N)) (k : Nat) (hk : k < N) (hlink : (Cond.fieldLink own index ref (T k).2.1 (T k).2.2.1).before args s = true) (hsame : (T k).1 = ref) {v : Value} (hv : fs[k]? = some v) (hdg : decode cc pc = .ok (.getfield index, 3))
    (kk : W p l e R s m args below meth c H locs cells slots Q (F0 m (pc + 3) ls (v :: rest))) : W p l e R s m args below meth c H locs cells slots Q (F0 m pc ls (.ref a :: rest)) :=
  va_get hexec hb hts hin hown G.2.2.2.1 G.1 q0 he hc k hk hlink (fun _ h9 => by rw [← hsame]; exact h9) hv hdg kk
theorem g_put {a : Nat} (hexec : p.tables.exec = Jvm.exec) (hb : c.code = cc) {ref C : String} {T : u_T} {N ci : Nat} (hts : ∀ w ∈ Ts, w.before args s = true) (hin : ∀ w ∈ u_ws C T N, w ∈ Ts) (ty0 : Nat → FieldType) (hty : ∀ k, k < N → parseFieldDescriptor (T k).2.2.1 = some (ty0 k)) (hnm : ∀ a, a < N → ∀ b, b < N → a ≠ b → (T a).2.1 ≠ (T b).2.1) (hown : s.vm.findClass own = some m.cls) (G : gG D cl tys A s ws H locs) (q0 : Nat) {fs : List Value} (he : ws[q0]? = some (a, .inr (ci, fs))) (hc : cl[ci]? = some (C, T, N)) (k : Nat) (hk : k < N) (hlink : (Cond.fieldLink own index ref (T k).2.1 (T k).2.2.1).before args s = true) (hsame : (T k).1 = ref) (hfin : (T k).2.2.2 = false) {ty : FieldType} {v : Value} (hd : parseFieldDescriptor (T k).2.2.1 = some ty) (hn : narrow ty v = v) (hfit : fits ty v = true) (hl : k < fs.length) (ws' : va_W) (hset : ws.set q0 (a, .inr (ci, fs.set k v)) = ws')
    (hdg : decode cc pc = .ok (.putfield index, 3)) (kk : ∀ (H1 : Heap) (locs1 : List Loc), gG D cl tys A s ws' H1 locs1 → W p l e R s m args below meth c H1 locs1 cells slots Q (F0 m (pc + 3) ls rest)) : W p l e R s m args below meth c H locs cells slots Q (F0 m pc ls (v :: .ref a :: rest)) := by
  subst hset
  exact va_put hexec hb hts hin ty0 hty hnm hown G.2.2.2.1 G.1 G.2.1 G.2.2.1 q0 he hc k hk hlink (fun _ h9 => by rw [← hsame]; exact h9) hfin hd hn hfit hl hdg (fun H1 locs1 h1 h2 h3 => kk H1 locs1 ⟨h1, h2, h3, G.2.2.2.1, G.2.2.2.2⟩)
theorem g_ild {a : Nat} (hexec : p.tables.exec = Jvm.exec) (hb : c.code = cc) (G : gG D cl tys A s ws H locs) (q0 t0 : Nat) {cA : ClassId} {n : Nat} {f : Nat → Int32} (ha : ws[q0]? = some (a, .inl (cA, n, .inl f))) (ht : tys[t0]? = some (cA, .int)) {i : Int32} (hin : vp_in i n) (hdg : decode cc pc = .ok (.iaload, 1))
    (kk : W p l e R s m args below meth c H locs cells slots Q (F0 m (pc + 1) ls (.int (f i.toNatClampNeg) :: rest))) : W p l e R s m args below meth c H locs cells slots Q (F0 m pc ls (.int i :: .ref a :: rest)) :=
  va_iald hexec hb G.2.2.2.1 G.1 q0 t0 ha ht hin hdg kk
theorem g_ist {a : Nat} (hexec : p.tables.exec = Jvm.exec) (hb : c.code = cc) (G : gG D cl tys A s ws H locs) (q0 t0 : Nat) {cA : ClassId} {n : Nat} {f : Nat → Int32} (ha : ws[q0]? = some (a, .inl (cA, n, .inl f))) (ht : tys[t0]? = some (cA, .int)) {i x : Int32} (hin : vp_in i n) (ws' : va_W) (hset : ws.set q0 (a, .inl (cA, n, .inl (upd f i.toNatClampNeg x))) = ws') (hdg : decode cc pc = .ok (.iastore, 1))
    (kk : ∀ (H1 : Heap) (locs1 : List Loc), gG D cl tys A s ws' H1 locs1 → W p l e R s m args below meth c H1 locs1 cells slots Q (F0 m (pc + 1) ls rest)) : W p l e R s m args below meth c H locs cells slots Q (F0 m pc ls (.int x :: .int i :: .ref a :: rest)) := by
  subst hset
  exact va_iast hexec hb G.2.2.2.1 G.1 G.2.1 G.2.2.1 q0 t0 ha ht hin hdg (fun H1 locs1 h1 h2 h3 => kk H1 locs1 ⟨h1, h2, h3, G.2.2.2.1, G.2.2.2.2⟩)
theorem g_alen {a : Nat} (hexec : p.tables.exec = Jvm.exec) (hb : c.code = cc) (G : gG D cl tys A s ws H locs) (q0 t0 : Nat) {cA : ClassId} {x : vp_A} (ha : ws[q0]? = some (a, .inl (cA, x))) {ty : FieldType} (ht : tys[t0]? = some (cA, ty)) {v : Int32} (hv : Int32.ofNat x.1 = v) (hdg : decode cc pc = .ok (.arraylength, 1))
    (kk : W p l e R s m args below meth c H locs cells slots Q (F0 m (pc + 1) ls (.int v :: rest))) : W p l e R s m args below meth c H locs cells slots Q (F0 m pc ls (.ref a :: rest)) :=
  va_alen hexec hb G.2.2.2.1 G.1 q0 t0 ha ht hv hdg kk
end GC
