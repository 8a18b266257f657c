set_option maxHeartbeats 8000000 in
set_option maxRecDepth 100000 in
/-- THE LAW'S LOOP: at its head, with n ints read, class and reference agree -/
theorem law_loop {p : Program} {l : Launch} {e : Env} {s : State} {m : MethodId} {below : List Frame} {meth : Method} {c : Code} {D : va_G} {b L : Nat} {xs : Nat → Int32} {h0 r0 m0 o0 k0 t0 : Nat} {cA cI cZ : ClassId} (hL : L ≤ 1536) (C0 : lw_At p s m meth c b L xs) :
    ∀ (N n : Nat), n ≤ L → L < n + N → ∀ (σ : Sx) (μ : Sm) (H : Heap) (locs : List Loc), LR σ μ → gG D vwCl (lTY cA cI cZ) (fun q : Nat => s.heap.size ≤ q) s (xw h0 r0 cA σ ++ mw m0 o0 k0 t0 cI cZ μ) H locs → ∀ ls : Array Slot, lv_has ls 4 [(0, .ref b), (1, .ref h0), (2, .ref m0), (3, .int (nI n))] → W p l e room_1 s m #[Value.ref b] below meth c H locs 6 1691 (lw_Z below #[Value.ref b] s) (F0 m 18 ls []) := by
  obtain ⟨hx, hb, hr, hml, hown, hts0, hX, hbl, hlocks, hgv⟩ := C0
  have hts : ∀ w ∈ wsL_law, w.before #[Value.ref b] s = true := fun w h => hts0 w (wsL_law_in w h)
  have hown : s.vm.findClass RL = some m.cls := hown
  have hb : c.code = cL_law := hb
  have hbA : ¬ (fun q : Nat => s.heap.size ≤ q) b := Nat.not_le.mpr hbl
  intro N
  induction N with
  | zero => intro n h1 h2; omega
  | succ N ih =>
    intro n hn hN σ μ H locs hR G ls hl
    refine lv_iload_n hx hb dL_law_18 rfl (lv_at hl 3 rfl) ?_
    refine lv_aload_n hx hb dL_law_19 rfl (lv_at hl 0 rfl) ?_
    refine va_slen hx hb hX hbl hbA G.2.2.1 dL_law_20 ?_
    refine lv_iconst (v := 3) hx hb dL_law_21 (by decide) ?_
    refine lv_isub hx hb dL_law_22 ?_
    refine lv_icmp_gt (tgt := 328) hx hb dL_law_23 (by decide) (fun c_1 => ?_) (fun c_1 => ?_)
    · refine lv_iconst (v := 1) hx hb dL_law_328 (by decide) ?_
      refine va_forget (fun q hq => G.2.2.1.2.2 q hq) ?_
      exact lw_ret hx hb hr hlocks dL_law_329
    · have hn3 : n + 3 ≤ L := by
        rcases Nat.lt_or_ge L (n + 3) with h | h
        · exfalso
          apply c_1
          have e1 : (Int32.ofNat L - 3).toInt = (L : Int) - 3 := pk_sub_toInt (a := L) (b := 3) (by omega) (by omega)
          rw [Int32.lt_iff_toInt_lt, e1, nI_toInt (by omega)]
          omega
        · exact h
      have hi0 : vp_in (nI n) L := vp_in_nI (by omega) (by omega)
      have hi1 : vp_in (nI n + 1) L := by rw [nI_1]; exact vp_in_nI (by omega) (by omega)
      have hi2 : vp_in (nI n + 2) L := by
        rw [show nI n + 2 = nI (n + 2) from nI_add n 2]
        exact vp_in_nI (by omega) (by omega)
      have next : ∀ (σ : Sx) (μ : Sm) (H : Heap) (locs : List Loc), LR σ μ → gG D vwCl (lTY cA cI cZ) (fun q : Nat => s.heap.size ≤ q) s (xw h0 r0 cA σ ++ mw m0 o0 k0 t0 cI cZ μ) H locs → W p l e room_1 s m #[Value.ref b] below meth c H locs 6 1691 (lw_Z below #[Value.ref b] s) (F0 m 322 ls []) := by
        intro σ μ H locs hR G
        refine lv_iinc (v := nI (n + 3)) (lv' := [(3, .int (nI (n + 3))), (0, .ref b), (1, .ref h0), (2, .ref m0)]) hx hb dL_law_322 hl (k := 3) rfl (nI_add n 3) (by decide) rfl (fun ls hl => ?_)
        refine lv_goto (tgt := 18) hx hb dL_law_325 (by decide) ?_
        exact ih (n + 3) hn3 (by omega) σ μ H locs hR G ls (lv_sub hl [1, 2, 3, 0] rfl)
      refine lv_aload_n hx hb dL_law_26 rfl (lv_at hl 0 rfl) ?_
      refine lv_iload_n hx hb dL_law_27 rfl (lv_at hl 3 rfl) ?_
      refine va_sld hx hb hX hbl hbA G.2.2.1 hi0 dL_law_28 ?_
      refine lv_bipush (v := 15) hx hb dL_law_29 (by decide) ?_
      refine lv_iand hx hb dL_law_31 ?_
      refine lv_topi (fun v ev => ?_)
      obtain ⟨j, hj, ej⟩ := pk_andE (xs (nI n).toNatClampNeg) (m := 15) 4 (by decide)
      rw [ej] at ev
      subst ev
      clear ej
      obtain ⟨xa, exa⟩ : ∃ xa : Int32, xa = xs (nI n + 1).toNatClampNeg := ⟨_, rfl⟩
      obtain ⟨xb, exb⟩ : ∃ xb : Int32, xb = xs (nI n + 2).toNatClampNeg := ⟨_, rfl⟩
      match j, hj with
      | 0, _ =>
        refine lv_tableIn (off := 56) (tgt := 88) hx hb dL_law_32 (by decide) (by decide) (by decide) (by decide) ?_
        refine lv_aload_n hx hb dL_law_88 rfl (lv_at hl 1 rfl) ?_
        refine lx_calli (As := []) (rest := []) ⟨hx, hb, hml, hown, hts⟩ (kX0_heap l D h0 r0 cA σ) (cwV 0 hts gL_law_X0_heap rfl rfl rfl (by decide +kernel) ⟨Nat.le_of_ble_eq_true rfl, Nat.le_of_ble_eq_true rfl⟩) G rfl hl.1 rfl (Nat.le_of_ble_eq_true rfl) dL_law_89 ⟨Nat.le_of_ble_eq_true rfl, Nat.le_of_ble_eq_true rfl⟩ (fun r1 σ2 H locs e1 G => ?_)
        refine lv_aload_n hx hb dL_law_92 rfl (lv_at hl 2 rfl) ?_
        refine lm_calli (As := []) (rest := [.int r1]) ⟨hx, hb, hml, hown, hts⟩ (kX1_heap l D m0 o0 k0 t0 cI cZ μ) (cwV 0 hts gL_law_X1_heap rfl rfl rfl (by decide +kernel) ⟨Nat.le_of_ble_eq_true rfl, Nat.le_of_ble_eq_true rfl⟩) G rfl hl.1 rfl (Nat.le_of_ble_eq_true rfl) dL_law_93 ⟨Nat.le_of_ble_eq_true rfl, Nat.le_of_ble_eq_true rfl⟩ (fun r2 μ2 H locs e2 G => ?_)
        obtain ⟨er, hR2⟩ := r_heap hR e1 e2
        refine lv_icmp_eq (tgt := 322) hx hb dL_law_96 (by decide) (fun _ => next σ2 μ2 H locs hR2 G) (fun c_2 => ?_)
        exact absurd er c_2
      | 1, _ =>
        refine lv_tableIn (off := 69) (tgt := 101) hx hb dL_law_32 (by decide) (by decide) (by decide) (by decide) ?_
        refine lv_aload_n hx hb dL_law_101 rfl (lv_at hl 1 rfl) ?_
        refine lv_aload_n hx hb dL_law_102 rfl (lv_at hl 0 rfl) ?_
        refine lv_iload_n hx hb dL_law_103 rfl (lv_at hl 3 rfl) ?_
        refine lv_iconst (v := 1) hx hb dL_law_104 (by decide) ?_
        refine lv_iadd hx hb dL_law_105 ?_
        refine va_sld hx hb hX hbl hbA G.2.2.1 hi1 dL_law_106 ?_
        rw [← exa]
        refine lv_aload_n hx hb dL_law_107 rfl (lv_at hl 0 rfl) ?_
        refine lv_iload_n hx hb dL_law_108 rfl (lv_at hl 3 rfl) ?_
        refine lv_iconst (v := 2) hx hb dL_law_109 (by decide) ?_
        refine lv_iadd hx hb dL_law_110 ?_
        refine va_sld hx hb hX hbl hbA G.2.2.1 hi2 dL_law_111 ?_
        rw [← exb]
        refine lx_calli (As := [.int xa, .int xb]) (rest := []) ⟨hx, hb, hml, hown, hts⟩ (kX0_add l D h0 r0 cA σ xa xb) (cwV 2 hts gL_law_X0_add rfl rfl rfl (by decide +kernel) ⟨Nat.le_of_ble_eq_true rfl, Nat.le_of_ble_eq_true rfl⟩) G rfl hl.1 rfl (Nat.le_of_ble_eq_true rfl) dL_law_112 ⟨Nat.le_of_ble_eq_true rfl, Nat.le_of_ble_eq_true rfl⟩ (fun r1 σ2 H locs e1 G => ?_)
        refine lv_aload_n hx hb dL_law_115 rfl (lv_at hl 2 rfl) ?_
        refine lv_aload_n hx hb dL_law_116 rfl (lv_at hl 0 rfl) ?_
        refine lv_iload_n hx hb dL_law_117 rfl (lv_at hl 3 rfl) ?_
        refine lv_iconst (v := 1) hx hb dL_law_118 (by decide) ?_
        refine lv_iadd hx hb dL_law_119 ?_
        refine va_sld hx hb hX hbl hbA G.2.2.1 hi1 dL_law_120 ?_
        rw [← exa]
        refine lv_aload_n hx hb dL_law_121 rfl (lv_at hl 0 rfl) ?_
        refine lv_iload_n hx hb dL_law_122 rfl (lv_at hl 3 rfl) ?_
        refine lv_iconst (v := 2) hx hb dL_law_123 (by decide) ?_
        refine lv_iadd hx hb dL_law_124 ?_
        refine va_sld hx hb hX hbl hbA G.2.2.1 hi2 dL_law_125 ?_
        rw [← exb]
        refine lm_calli (As := [.int xa, .int xb]) (rest := [.int r1]) ⟨hx, hb, hml, hown, hts⟩ (kX1_add l D m0 o0 k0 t0 cI cZ μ xa xb (LR_ok hR)) (cwV 2 hts gL_law_X1_add rfl rfl rfl (by decide +kernel) ⟨Nat.le_of_ble_eq_true rfl, Nat.le_of_ble_eq_true rfl⟩) G rfl hl.1 rfl (Nat.le_of_ble_eq_true rfl) dL_law_126 ⟨Nat.le_of_ble_eq_true rfl, Nat.le_of_ble_eq_true rfl⟩ (fun r2 μ2 H locs e2 G => ?_)
        obtain ⟨er, hR2⟩ := r_add hR e1 e2
        refine lv_icmp_eq (tgt := 322) hx hb dL_law_129 (by decide) (fun _ => next σ2 μ2 H locs hR2 G) (fun c_2 => ?_)
        exact absurd er c_2
      | 2, _ =>
        refine lv_tableIn (off := 102) (tgt := 134) hx hb dL_law_32 (by decide) (by decide) (by decide) (by decide) ?_
        refine lv_aload_n hx hb dL_law_134 rfl (lv_at hl 1 rfl) ?_
        refine lv_aload_n hx hb dL_law_135 rfl (lv_at hl 0 rfl) ?_
        refine lv_iload_n hx hb dL_law_136 rfl (lv_at hl 3 rfl) ?_
        refine lv_iconst (v := 1) hx hb dL_law_137 (by decide) ?_
        refine lv_iadd hx hb dL_law_138 ?_
        refine va_sld hx hb hX hbl hbA G.2.2.1 hi1 dL_law_139 ?_
        rw [← exa]
        refine lx_calll (As := [.int xa]) (rest := []) ⟨hx, hb, hml, hown, hts⟩ (kX0_least l D h0 r0 cA σ xa) (cwV 1 hts gL_law_X0_least rfl rfl rfl (by decide +kernel) ⟨Nat.le_of_ble_eq_true rfl, Nat.le_of_ble_eq_true rfl⟩) G rfl hl.1 rfl (Nat.le_of_ble_eq_true rfl) dL_law_140 ⟨Nat.le_of_ble_eq_true rfl, Nat.le_of_ble_eq_true rfl⟩ (fun r1 σ2 H locs e1 G => ?_)
        refine lv_aload_n hx hb dL_law_143 rfl (lv_at hl 2 rfl) ?_
        refine lv_aload_n hx hb dL_law_144 rfl (lv_at hl 0 rfl) ?_
        refine lv_iload_n hx hb dL_law_145 rfl (lv_at hl 3 rfl) ?_
        refine lv_iconst (v := 1) hx hb dL_law_146 (by decide) ?_
        refine lv_iadd hx hb dL_law_147 ?_
        refine va_sld hx hb hX hbl hbA G.2.2.1 hi1 dL_law_148 ?_
        rw [← exa]
        refine lm_calll (As := [.int xa]) (rest := [.long r1]) ⟨hx, hb, hml, hown, hts⟩ (kX1_least l D m0 o0 k0 t0 cI cZ μ xa (LR_ok hR)) (cwV 1 hts gL_law_X1_least rfl rfl rfl (by decide +kernel) ⟨Nat.le_of_ble_eq_true rfl, Nat.le_of_ble_eq_true rfl⟩) G rfl hl.1 rfl (Nat.le_of_ble_eq_true rfl) dL_law_149 ⟨Nat.le_of_ble_eq_true rfl, Nat.le_of_ble_eq_true rfl⟩ (fun r2 μ2 H locs e2 G => ?_)
        refine W.lcmp hx hb dL_law_152 ?_
        obtain ⟨er, hR2⟩ := r_least hR e1 e2
        refine lv_if_eq (tgt := 322) hx hb dL_law_153 (by decide) (fun _ => next σ2 μ2 H locs hR2 G) (fun c_2 => ?_)
        exact absurd ((lg_cmp_eq r1 r2).mpr er) c_2
      | 3, _ =>
        refine lv_tableIn (off := 126) (tgt := 158) hx hb dL_law_32 (by decide) (by decide) (by decide) (by decide) ?_
        refine lv_aload_n hx hb dL_law_158 rfl (lv_at hl 1 rfl) ?_
        refine lv_aload_n hx hb dL_law_159 rfl (lv_at hl 0 rfl) ?_
        refine lv_iload_n hx hb dL_law_160 rfl (lv_at hl 3 rfl) ?_
        refine lv_iconst (v := 1) hx hb dL_law_161 (by decide) ?_
        refine lv_iadd hx hb dL_law_162 ?_
        refine va_sld hx hb hX hbl hbA G.2.2.1 hi1 dL_law_163 ?_
        rw [← exa]
        refine lx_calll (As := [.int xa]) (rest := []) ⟨hx, hb, hml, hown, hts⟩ (kX0_take l D h0 r0 cA σ xa) (cwV 1 hts gL_law_X0_take rfl rfl rfl (by decide +kernel) ⟨Nat.le_of_ble_eq_true rfl, Nat.le_of_ble_eq_true rfl⟩) G rfl hl.1 rfl (Nat.le_of_ble_eq_true rfl) dL_law_164 ⟨Nat.le_of_ble_eq_true rfl, Nat.le_of_ble_eq_true rfl⟩ (fun r1 σ2 H locs e1 G => ?_)
        refine lv_aload_n hx hb dL_law_167 rfl (lv_at hl 2 rfl) ?_
        refine lv_aload_n hx hb dL_law_168 rfl (lv_at hl 0 rfl) ?_
        refine lv_iload_n hx hb dL_law_169 rfl (lv_at hl 3 rfl) ?_
        refine lv_iconst (v := 1) hx hb dL_law_170 (by decide) ?_
        refine lv_iadd hx hb dL_law_171 ?_
        refine va_sld hx hb hX hbl hbA G.2.2.1 hi1 dL_law_172 ?_
        rw [← exa]
        refine lm_calll (As := [.int xa]) (rest := [.long r1]) ⟨hx, hb, hml, hown, hts⟩ (kX1_take l D m0 o0 k0 t0 cI cZ μ xa (LR_ok hR)) (cwV 1 hts gL_law_X1_take rfl rfl rfl (by decide +kernel) ⟨Nat.le_of_ble_eq_true rfl, Nat.le_of_ble_eq_true rfl⟩) G rfl hl.1 rfl (Nat.le_of_ble_eq_true rfl) dL_law_173 ⟨Nat.le_of_ble_eq_true rfl, Nat.le_of_ble_eq_true rfl⟩ (fun r2 μ2 H locs e2 G => ?_)
        refine W.lcmp hx hb dL_law_176 ?_
        obtain ⟨er, hR2⟩ := r_take hR e1 e2
        refine lv_if_eq (tgt := 322) hx hb dL_law_177 (by decide) (fun _ => next σ2 μ2 H locs hR2 G) (fun c_2 => ?_)
        exact absurd ((lg_cmp_eq r1 r2).mpr er) c_2
      | 4, _ =>
        refine lv_tableIn (off := 150) (tgt := 182) hx hb dL_law_32 (by decide) (by decide) (by decide) (by decide) ?_
        refine lv_aload_n hx hb dL_law_182 rfl (lv_at hl 1 rfl) ?_
        refine lv_aload_n hx hb dL_law_183 rfl (lv_at hl 0 rfl) ?_
        refine lv_iload_n hx hb dL_law_184 rfl (lv_at hl 3 rfl) ?_
        refine lv_iconst (v := 1) hx hb dL_law_185 (by decide) ?_
        refine lv_iadd hx hb dL_law_186 ?_
        refine va_sld hx hb hX hbl hbA G.2.2.1 hi1 dL_law_187 ?_
        rw [← exa]
        refine lv_aload_n hx hb dL_law_188 rfl (lv_at hl 0 rfl) ?_
        refine lv_iload_n hx hb dL_law_189 rfl (lv_at hl 3 rfl) ?_
        refine lv_iconst (v := 2) hx hb dL_law_190 (by decide) ?_
        refine lv_iadd hx hb dL_law_191 ?_
        refine va_sld hx hb hX hbl hbA G.2.2.1 hi2 dL_law_192 ?_
        rw [← exb]
        refine lx_calli (As := [.int xa, .int xb]) (rest := []) ⟨hx, hb, hml, hown, hts⟩ (kX0_meld l D h0 r0 cA σ xa xb) (cwV 2 hts gL_law_X0_meld rfl rfl rfl (by decide +kernel) ⟨Nat.le_of_ble_eq_true rfl, Nat.le_of_ble_eq_true rfl⟩) G rfl hl.1 rfl (Nat.le_of_ble_eq_true rfl) dL_law_193 ⟨Nat.le_of_ble_eq_true rfl, Nat.le_of_ble_eq_true rfl⟩ (fun r1 σ2 H locs e1 G => ?_)
        refine lv_aload_n hx hb dL_law_196 rfl (lv_at hl 2 rfl) ?_
        refine lv_aload_n hx hb dL_law_197 rfl (lv_at hl 0 rfl) ?_
        refine lv_iload_n hx hb dL_law_198 rfl (lv_at hl 3 rfl) ?_
        refine lv_iconst (v := 1) hx hb dL_law_199 (by decide) ?_
        refine lv_iadd hx hb dL_law_200 ?_
        refine va_sld hx hb hX hbl hbA G.2.2.1 hi1 dL_law_201 ?_
        rw [← exa]
        refine lv_aload_n hx hb dL_law_202 rfl (lv_at hl 0 rfl) ?_
        refine lv_iload_n hx hb dL_law_203 rfl (lv_at hl 3 rfl) ?_
        refine lv_iconst (v := 2) hx hb dL_law_204 (by decide) ?_
        refine lv_iadd hx hb dL_law_205 ?_
        refine va_sld hx hb hX hbl hbA G.2.2.1 hi2 dL_law_206 ?_
        rw [← exb]
        refine lm_calli (As := [.int xa, .int xb]) (rest := [.int r1]) ⟨hx, hb, hml, hown, hts⟩ (kX1_meld l D m0 o0 k0 t0 cI cZ μ xa xb (LR_ok hR)) (cwV 2 hts gL_law_X1_meld rfl rfl rfl (by decide +kernel) ⟨Nat.le_of_ble_eq_true rfl, Nat.le_of_ble_eq_true rfl⟩) G rfl hl.1 rfl (Nat.le_of_ble_eq_true rfl) dL_law_207 ⟨Nat.le_of_ble_eq_true rfl, Nat.le_of_ble_eq_true rfl⟩ (fun r2 μ2 H locs e2 G => ?_)
        obtain ⟨er, hR2⟩ := r_meld hR e1 e2
        refine lv_icmp_eq (tgt := 322) hx hb dL_law_210 (by decide) (fun _ => next σ2 μ2 H locs hR2 G) (fun c_2 => ?_)
        exact absurd er c_2
      | 5, _ =>
        refine lv_tableIn (off := 183) (tgt := 215) hx hb dL_law_32 (by decide) (by decide) (by decide) (by decide) ?_
        refine lv_aload_n hx hb dL_law_215 rfl (lv_at hl 1 rfl) ?_
        refine lv_aload_n hx hb dL_law_216 rfl (lv_at hl 0 rfl) ?_
        refine lv_iload_n hx hb dL_law_217 rfl (lv_at hl 3 rfl) ?_
        refine lv_iconst (v := 1) hx hb dL_law_218 (by decide) ?_
        refine lv_iadd hx hb dL_law_219 ?_
        refine va_sld hx hb hX hbl hbA G.2.2.1 hi1 dL_law_220 ?_
        rw [← exa]
        refine lx_calli (As := [.int xa]) (rest := []) ⟨hx, hb, hml, hown, hts⟩ (kX0_size l D h0 r0 cA σ xa) (cwV 1 hts gL_law_X0_size rfl rfl rfl (by decide +kernel) ⟨Nat.le_of_ble_eq_true rfl, Nat.le_of_ble_eq_true rfl⟩) G rfl hl.1 rfl (Nat.le_of_ble_eq_true rfl) dL_law_221 ⟨Nat.le_of_ble_eq_true rfl, Nat.le_of_ble_eq_true rfl⟩ (fun r1 σ2 H locs e1 G => ?_)
        refine lv_aload_n hx hb dL_law_224 rfl (lv_at hl 2 rfl) ?_
        refine lv_aload_n hx hb dL_law_225 rfl (lv_at hl 0 rfl) ?_
        refine lv_iload_n hx hb dL_law_226 rfl (lv_at hl 3 rfl) ?_
        refine lv_iconst (v := 1) hx hb dL_law_227 (by decide) ?_
        refine lv_iadd hx hb dL_law_228 ?_
        refine va_sld hx hb hX hbl hbA G.2.2.1 hi1 dL_law_229 ?_
        rw [← exa]
        refine lm_calli (As := [.int xa]) (rest := [.int r1]) ⟨hx, hb, hml, hown, hts⟩ (kX1_size l D m0 o0 k0 t0 cI cZ μ xa (LR_ok hR)) (cwV 1 hts gL_law_X1_size rfl rfl rfl (by decide +kernel) ⟨Nat.le_of_ble_eq_true rfl, Nat.le_of_ble_eq_true rfl⟩) G rfl hl.1 rfl (Nat.le_of_ble_eq_true rfl) dL_law_230 ⟨Nat.le_of_ble_eq_true rfl, Nat.le_of_ble_eq_true rfl⟩ (fun r2 μ2 H locs e2 G => ?_)
        obtain ⟨er, hR2⟩ := r_size hR e1 e2
        refine lv_icmp_eq (tgt := 322) hx hb dL_law_233 (by decide) (fun _ => next σ2 μ2 H locs hR2 G) (fun c_2 => ?_)
        exact absurd er c_2
      | 6, _ =>
        refine lv_tableIn (off := 206) (tgt := 238) hx hb dL_law_32 (by decide) (by decide) (by decide) (by decide) ?_
        refine lv_aload_n hx hb dL_law_238 rfl (lv_at hl 1 rfl) ?_
        refine lv_aload_n hx hb dL_law_239 rfl (lv_at hl 0 rfl) ?_
        refine lv_iload_n hx hb dL_law_240 rfl (lv_at hl 3 rfl) ?_
        refine lv_iconst (v := 1) hx hb dL_law_241 (by decide) ?_
        refine lv_iadd hx hb dL_law_242 ?_
        refine va_sld hx hb hX hbl hbA G.2.2.1 hi1 dL_law_243 ?_
        rw [← exa]
        refine lv_aload_n hx hb dL_law_244 rfl (lv_at hl 0 rfl) ?_
        refine lv_iload_n hx hb dL_law_245 rfl (lv_at hl 3 rfl) ?_
        refine lv_iconst (v := 2) hx hb dL_law_246 (by decide) ?_
        refine lv_iadd hx hb dL_law_247 ?_
        refine va_sld hx hb hX hbl hbA G.2.2.1 hi2 dL_law_248 ?_
        rw [← exb]
        refine lx_calll (As := [.int xa, .int xb]) (rest := []) ⟨hx, hb, hml, hown, hts⟩ (kX0_key l D h0 r0 cA σ xa xb) (cwV 2 hts gL_law_X0_key rfl rfl rfl (by decide +kernel) ⟨Nat.le_of_ble_eq_true rfl, Nat.le_of_ble_eq_true rfl⟩) G rfl hl.1 rfl (Nat.le_of_ble_eq_true rfl) dL_law_249 ⟨Nat.le_of_ble_eq_true rfl, Nat.le_of_ble_eq_true rfl⟩ (fun r1 σ2 H locs e1 G => ?_)
        refine lv_aload_n hx hb dL_law_252 rfl (lv_at hl 2 rfl) ?_
        refine lv_aload_n hx hb dL_law_253 rfl (lv_at hl 0 rfl) ?_
        refine lv_iload_n hx hb dL_law_254 rfl (lv_at hl 3 rfl) ?_
        refine lv_iconst (v := 1) hx hb dL_law_255 (by decide) ?_
        refine lv_iadd hx hb dL_law_256 ?_
        refine va_sld hx hb hX hbl hbA G.2.2.1 hi1 dL_law_257 ?_
        rw [← exa]
        refine lv_aload_n hx hb dL_law_258 rfl (lv_at hl 0 rfl) ?_
        refine lv_iload_n hx hb dL_law_259 rfl (lv_at hl 3 rfl) ?_
        refine lv_iconst (v := 2) hx hb dL_law_260 (by decide) ?_
        refine lv_iadd hx hb dL_law_261 ?_
        refine va_sld hx hb hX hbl hbA G.2.2.1 hi2 dL_law_262 ?_
        rw [← exb]
        refine lm_calll (As := [.int xa, .int xb]) (rest := [.long r1]) ⟨hx, hb, hml, hown, hts⟩ (kX1_key l D m0 o0 k0 t0 cI cZ μ xa xb (LR_ok hR) (LR_key hR xa xb)) (cwV 2 hts gL_law_X1_key rfl rfl rfl (by decide +kernel) ⟨Nat.le_of_ble_eq_true rfl, Nat.le_of_ble_eq_true rfl⟩) G rfl hl.1 rfl (Nat.le_of_ble_eq_true rfl) dL_law_263 ⟨Nat.le_of_ble_eq_true rfl, Nat.le_of_ble_eq_true rfl⟩ (fun r2 μ2 H locs e2 G => ?_)
        refine W.lcmp hx hb dL_law_266 ?_
        obtain ⟨er, hR2⟩ := r_key hR e1 e2
        refine lv_if_eq (tgt := 322) hx hb dL_law_267 (by decide) (fun _ => next σ2 μ2 H locs hR2 G) (fun c_2 => ?_)
        exact absurd ((lg_cmp_eq r1 r2).mpr er) c_2
      | 7, _ =>
        refine lv_tableIn (off := 240) (tgt := 272) hx hb dL_law_32 (by decide) (by decide) (by decide) (by decide) ?_
        refine lv_aload_n hx hb dL_law_272 rfl (lv_at hl 1 rfl) ?_
        refine lv_aload_n hx hb dL_law_273 rfl (lv_at hl 0 rfl) ?_
        refine lv_iload_n hx hb dL_law_274 rfl (lv_at hl 3 rfl) ?_
        refine lv_iconst (v := 1) hx hb dL_law_275 (by decide) ?_
        refine lv_iadd hx hb dL_law_276 ?_
        refine va_sld hx hb hX hbl hbA G.2.2.1 hi1 dL_law_277 ?_
        rw [← exa]
        refine lx_calll (As := [.int xa]) (rest := []) ⟨hx, hb, hml, hown, hts⟩ (kX0_sum l D h0 r0 cA σ xa) (cwV 1 hts gL_law_X0_sum rfl rfl rfl (by decide +kernel) ⟨Nat.le_of_ble_eq_true rfl, Nat.le_of_ble_eq_true rfl⟩) G rfl hl.1 rfl (Nat.le_of_ble_eq_true rfl) dL_law_278 ⟨Nat.le_of_ble_eq_true rfl, Nat.le_of_ble_eq_true rfl⟩ (fun r1 σ2 H locs e1 G => ?_)
        refine lv_aload_n hx hb dL_law_281 rfl (lv_at hl 2 rfl) ?_
        refine lv_aload_n hx hb dL_law_282 rfl (lv_at hl 0 rfl) ?_
        refine lv_iload_n hx hb dL_law_283 rfl (lv_at hl 3 rfl) ?_
        refine lv_iconst (v := 1) hx hb dL_law_284 (by decide) ?_
        refine lv_iadd hx hb dL_law_285 ?_
        refine va_sld hx hb hX hbl hbA G.2.2.1 hi1 dL_law_286 ?_
        rw [← exa]
        refine lm_calll (As := [.int xa]) (rest := [.long r1]) ⟨hx, hb, hml, hown, hts⟩ (kX1_sum l D m0 o0 k0 t0 cI cZ μ xa (LR_ok hR)) (cwV 1 hts gL_law_X1_sum rfl rfl rfl (by decide +kernel) ⟨Nat.le_of_ble_eq_true rfl, Nat.le_of_ble_eq_true rfl⟩) G rfl hl.1 rfl (Nat.le_of_ble_eq_true rfl) dL_law_287 ⟨Nat.le_of_ble_eq_true rfl, Nat.le_of_ble_eq_true rfl⟩ (fun r2 μ2 H locs e2 G => ?_)
        refine W.lcmp hx hb dL_law_290 ?_
        obtain ⟨er, hR2⟩ := r_sum hR e1 e2
        refine lv_if_eq (tgt := 322) hx hb dL_law_291 (by decide) (fun _ => next σ2 μ2 H locs hR2 G) (fun c_2 => ?_)
        exact absurd ((lg_cmp_eq r1 r2).mpr er) c_2
      | 8, _ =>
        refine lv_tableIn (off := 264) (tgt := 296) hx hb dL_law_32 (by decide) (by decide) (by decide) (by decide) ?_
        refine lv_aload_n hx hb dL_law_296 rfl (lv_at hl 1 rfl) ?_
        refine lx_calli (As := []) (rest := []) ⟨hx, hb, hml, hown, hts⟩ (kX0_free l D h0 r0 cA σ) (cwV 0 hts gL_law_X0_free rfl rfl rfl (by decide +kernel) ⟨Nat.le_of_ble_eq_true rfl, Nat.le_of_ble_eq_true rfl⟩) G rfl hl.1 rfl (Nat.le_of_ble_eq_true rfl) dL_law_297 ⟨Nat.le_of_ble_eq_true rfl, Nat.le_of_ble_eq_true rfl⟩ (fun r1 σ2 H locs e1 G => ?_)
        refine lv_aload_n hx hb dL_law_300 rfl (lv_at hl 2 rfl) ?_
        refine lm_calli (As := []) (rest := [.int r1]) ⟨hx, hb, hml, hown, hts⟩ (kX1_free l D m0 o0 k0 t0 cI cZ μ) (cwV 0 hts gL_law_X1_free rfl rfl rfl (by decide +kernel) ⟨Nat.le_of_ble_eq_true rfl, Nat.le_of_ble_eq_true rfl⟩) G rfl hl.1 rfl (Nat.le_of_ble_eq_true rfl) dL_law_301 ⟨Nat.le_of_ble_eq_true rfl, Nat.le_of_ble_eq_true rfl⟩ (fun r2 μ2 H locs e2 G => ?_)
        obtain ⟨er, hR2⟩ := r_free hR e1 e2
        refine lv_icmp_eq (tgt := 322) hx hb dL_law_304 (by decide) (fun _ => next σ2 μ2 H locs hR2 G) (fun c_2 => ?_)
        exact absurd er c_2
      | 9, _ =>
        refine lv_tableIn (off := 277) (tgt := 309) hx hb dL_law_32 (by decide) (by decide) (by decide) (by decide) ?_
        refine lv_aload_n hx hb dL_law_309 rfl (lv_at hl 1 rfl) ?_
        refine lx_calli (As := []) (rest := []) ⟨hx, hb, hml, hown, hts⟩ (kX0_few l D h0 r0 cA σ) (cwV 0 hts gL_law_X0_few rfl rfl rfl (by decide +kernel) ⟨Nat.le_of_ble_eq_true rfl, Nat.le_of_ble_eq_true rfl⟩) G rfl hl.1 rfl (Nat.le_of_ble_eq_true rfl) dL_law_310 ⟨Nat.le_of_ble_eq_true rfl, Nat.le_of_ble_eq_true rfl⟩ (fun r1 σ2 H locs e1 G => ?_)
        refine lv_aload_n hx hb dL_law_313 rfl (lv_at hl 2 rfl) ?_
        refine lm_calli (As := []) (rest := [.int r1]) ⟨hx, hb, hml, hown, hts⟩ (kX1_few l D m0 o0 k0 t0 cI cZ μ) (cwV 0 hts gL_law_X1_few rfl rfl rfl (by decide +kernel) ⟨Nat.le_of_ble_eq_true rfl, Nat.le_of_ble_eq_true rfl⟩) G rfl hl.1 rfl (Nat.le_of_ble_eq_true rfl) dL_law_314 ⟨Nat.le_of_ble_eq_true rfl, Nat.le_of_ble_eq_true rfl⟩ (fun r2 μ2 H locs e2 G => ?_)
        obtain ⟨er, hR2⟩ := r_few hR e1 e2
        refine lv_icmp_eq (tgt := 322) hx hb dL_law_317 (by decide) (fun _ => next σ2 μ2 H locs hR2 G) (fun c_2 => ?_)
        exact absurd er c_2
      | j + 10, hj =>
        refine lv_tableOut (tgt := 322) hx hb dL_law_32 (Or.inr (by rw [nI_toInt (by omega)]; omega)) (by decide) ?_
        exact next σ μ H locs hR G
