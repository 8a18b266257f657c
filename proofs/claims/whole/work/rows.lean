section
-- ===== PART A: goes FIRST, ahead of the names: the tables' words, and 'selects' of the private methods out of them =====
/-- a private method of a class that the tables say can be made, by its rows of tables_1 -/
def lw_okq (q : MethodName × Nat) : Prop := (q.1.cls ≠ "java/lang/invoke/MethodHandle" ∧ q.1.cls ≠ "java/lang/invoke/VarHandle") ∧ Cond.instantiable q.1.cls q.2 ∈ tables_1 ∧ Cond.privateMethod q.1 ∈ tables_1 ∧ Cond.instanceMethod q.1 ∈ tables_1
theorem lw_p0 : lw_okq (⟨"SkewMelds", "write", "(II)V"⟩, 6) := ⟨⟨by decide +kernel, by decide +kernel⟩, List.mem_of_getElem? (i := 4) (by decide +kernel), List.mem_of_getElem? (i := 12) (by decide +kernel), List.mem_of_getElem? (i := 13) (by decide +kernel)⟩
theorem lw_p1 : lw_okq (⟨"SkewMelds", "giveBack", "(I)V"⟩, 6) := ⟨⟨by decide +kernel, by decide +kernel⟩, List.mem_of_getElem? (i := 4) (by decide +kernel), List.mem_of_getElem? (i := 16) (by decide +kernel), List.mem_of_getElem? (i := 17) (by decide +kernel)⟩
theorem lw_p2 : lw_okq (⟨"SkewMelds", "begin", "(I)V"⟩, 6) := ⟨⟨by decide +kernel, by decide +kernel⟩, List.mem_of_getElem? (i := 4) (by decide +kernel), List.mem_of_getElem? (i := 21) (by decide +kernel), List.mem_of_getElem? (i := 22) (by decide +kernel)⟩
theorem lw_p3 : lw_okq (⟨"SkewMelds", "exists", "(I)Z"⟩, 6) := ⟨⟨by decide +kernel, by decide +kernel⟩, List.mem_of_getElem? (i := 4) (by decide +kernel), List.mem_of_getElem? (i := 53) (by decide +kernel), List.mem_of_getElem? (i := 54) (by decide +kernel)⟩
theorem lw_p4 : lw_okq (⟨"SkewMelds", "newCell", "(I)I"⟩, 6) := ⟨⟨by decide +kernel, by decide +kernel⟩, List.mem_of_getElem? (i := 4) (by decide +kernel), List.mem_of_getElem? (i := 57) (by decide +kernel), List.mem_of_getElem? (i := 58) (by decide +kernel)⟩
theorem lw_p5 : lw_okq (⟨"SkewMelds", "read", "(I)I"⟩, 6) := ⟨⟨by decide +kernel, by decide +kernel⟩, List.mem_of_getElem? (i := 4) (by decide +kernel), List.mem_of_getElem? (i := 61) (by decide +kernel), List.mem_of_getElem? (i := 62) (by decide +kernel)⟩
theorem lw_p6 : lw_okq (⟨"SkewMelds", "insertCell", "(II)V"⟩, 6) := ⟨⟨by decide +kernel, by decide +kernel⟩, List.mem_of_getElem? (i := 4) (by decide +kernel), List.mem_of_getElem? (i := 65) (by decide +kernel), List.mem_of_getElem? (i := 66) (by decide +kernel)⟩
theorem lw_p7 : lw_okq (⟨"SkewMelds", "cutTwin", "(I)I"⟩, 6) := ⟨⟨by decide +kernel, by decide +kernel⟩, List.mem_of_getElem? (i := 4) (by decide +kernel), List.mem_of_getElem? (i := 69) (by decide +kernel), List.mem_of_getElem? (i := 70) (by decide +kernel)⟩
theorem lw_p8 : lw_okq (⟨"SkewMelds", "cutTop", "(II)I"⟩, 6) := ⟨⟨by decide +kernel, by decide +kernel⟩, List.mem_of_getElem? (i := 4) (by decide +kernel), List.mem_of_getElem? (i := 73) (by decide +kernel), List.mem_of_getElem? (i := 74) (by decide +kernel)⟩
theorem lw_p9 : lw_okq (⟨"SkewMelds", "link", "(II)I"⟩, 6) := ⟨⟨by decide +kernel, by decide +kernel⟩, List.mem_of_getElem? (i := 4) (by decide +kernel), List.mem_of_getElem? (i := 80) (by decide +kernel), List.mem_of_getElem? (i := 81) (by decide +kernel)⟩
theorem lw_p10 : lw_okq (⟨"SkewMelds", "hangTree", "(II)V"⟩, 6) := ⟨⟨by decide +kernel, by decide +kernel⟩, List.mem_of_getElem? (i := 4) (by decide +kernel), List.mem_of_getElem? (i := 84) (by decide +kernel), List.mem_of_getElem? (i := 85) (by decide +kernel)⟩
theorem lw_p11 : lw_okq (⟨"SkewMelds", "hangKey", "(II)V"⟩, 6) := ⟨⟨by decide +kernel, by decide +kernel⟩, List.mem_of_getElem? (i := 4) (by decide +kernel), List.mem_of_getElem? (i := 88) (by decide +kernel), List.mem_of_getElem? (i := 89) (by decide +kernel)⟩
theorem lw_p12 : lw_okq (⟨"SkewMelds", "resize", "(II)I"⟩, 6) := ⟨⟨by decide +kernel, by decide +kernel⟩, List.mem_of_getElem? (i := 4) (by decide +kernel), List.mem_of_getElem? (i := 92) (by decide +kernel), List.mem_of_getElem? (i := 93) (by decide +kernel)⟩
theorem lw_p13 : lw_okq (⟨"SkewMelds", "beginOn", "(I)V"⟩, 6) := ⟨⟨by decide +kernel, by decide +kernel⟩, List.mem_of_getElem? (i := 4) (by decide +kernel), List.mem_of_getElem? (i := 100) (by decide +kernel), List.mem_of_getElem? (i := 101) (by decide +kernel)⟩
theorem lw_p14 : lw_okq (⟨"SkewMelds", "keysIn", "(I)I"⟩, 6) := ⟨⟨by decide +kernel, by decide +kernel⟩, List.mem_of_getElem? (i := 4) (by decide +kernel), List.mem_of_getElem? (i := 104) (by decide +kernel), List.mem_of_getElem? (i := 105) (by decide +kernel)⟩
theorem lw_p15 : lw_okq (⟨"SkewMelds", "leastRoot", "(I)I"⟩, 6) := ⟨⟨by decide +kernel, by decide +kernel⟩, List.mem_of_getElem? (i := 4) (by decide +kernel), List.mem_of_getElem? (i := 111) (by decide +kernel), List.mem_of_getElem? (i := 112) (by decide +kernel)⟩
def lw_privs_1 : List (MethodName × Nat) := [(⟨"SkewMelds", "write", "(II)V"⟩, 6), (⟨"SkewMelds", "giveBack", "(I)V"⟩, 6), (⟨"SkewMelds", "begin", "(I)V"⟩, 6), (⟨"SkewMelds", "exists", "(I)Z"⟩, 6), (⟨"SkewMelds", "newCell", "(I)I"⟩, 6), (⟨"SkewMelds", "read", "(I)I"⟩, 6), (⟨"SkewMelds", "insertCell", "(II)V"⟩, 6), (⟨"SkewMelds", "cutTwin", "(I)I"⟩, 6), (⟨"SkewMelds", "cutTop", "(II)I"⟩, 6), (⟨"SkewMelds", "link", "(II)I"⟩, 6), (⟨"SkewMelds", "hangTree", "(II)V"⟩, 6), (⟨"SkewMelds", "hangKey", "(II)V"⟩, 6), (⟨"SkewMelds", "resize", "(II)I"⟩, 6), (⟨"SkewMelds", "beginOn", "(I)V"⟩, 6), (⟨"SkewMelds", "keysIn", "(I)I"⟩, 6), (⟨"SkewMelds", "leastRoot", "(I)I"⟩, 6)]
theorem lw_r1 : ∀ q ∈ lw_privs_1, lw_okq q := List.forall_mem_cons.mpr ⟨lw_p0, List.forall_mem_cons.mpr ⟨lw_p1, List.forall_mem_cons.mpr ⟨lw_p2, List.forall_mem_cons.mpr ⟨lw_p3, List.forall_mem_cons.mpr ⟨lw_p4, List.forall_mem_cons.mpr ⟨lw_p5, List.forall_mem_cons.mpr ⟨lw_p6, List.forall_mem_cons.mpr ⟨lw_p7, List.forall_mem_cons.mpr ⟨lw_p8, List.forall_mem_cons.mpr ⟨lw_p9, List.forall_mem_cons.mpr ⟨lw_p10, List.forall_mem_cons.mpr ⟨lw_p11, List.forall_mem_cons.mpr ⟨lw_p12, List.forall_mem_cons.mpr ⟨lw_p13, List.forall_mem_cons.mpr ⟨lw_p14, List.forall_mem_cons.mpr ⟨lw_p15, fun _ h => absurd h List.not_mem_nil⟩⟩⟩⟩⟩⟩⟩⟩⟩⟩⟩⟩⟩⟩⟩⟩
theorem lw_p16 : lw_okq (⟨"SkewMelds", "lesserRoot", "(II)I"⟩, 6) := ⟨⟨by decide +kernel, by decide +kernel⟩, List.mem_of_getElem? (i := 4) (by decide +kernel), List.mem_of_getElem? (i := 115) (by decide +kernel), List.mem_of_getElem? (i := 116) (by decide +kernel)⟩
theorem lw_p17 : lw_okq (⟨"SkewMelds", "cutRoot", "(II)V"⟩, 6) := ⟨⟨by decide +kernel, by decide +kernel⟩, List.mem_of_getElem? (i := 4) (by decide +kernel), List.mem_of_getElem? (i := 124) (by decide +kernel), List.mem_of_getElem? (i := 125) (by decide +kernel)⟩
theorem lw_p18 : lw_okq (⟨"SkewMelds", "place", "(II)V"⟩, 6) := ⟨⟨by decide +kernel, by decide +kernel⟩, List.mem_of_getElem? (i := 4) (by decide +kernel), List.mem_of_getElem? (i := 128) (by decide +kernel), List.mem_of_getElem? (i := 129) (by decide +kernel)⟩
theorem lw_p19 : lw_okq (⟨"SkewMelds", "placeChildren", "(II)V"⟩, 6) := ⟨⟨by decide +kernel, by decide +kernel⟩, List.mem_of_getElem? (i := 4) (by decide +kernel), List.mem_of_getElem? (i := 132) (by decide +kernel), List.mem_of_getElem? (i := 133) (by decide +kernel)⟩
theorem lw_p20 : lw_okq (⟨"SkewMelds", "beginOnBoth", "(II)V"⟩, 6) := ⟨⟨by decide +kernel, by decide +kernel⟩, List.mem_of_getElem? (i := 4) (by decide +kernel), List.mem_of_getElem? (i := 140) (by decide +kernel), List.mem_of_getElem? (i := 141) (by decide +kernel)⟩
theorem lw_p21 : lw_okq (⟨"SkewMelds", "listCells", "(I)I"⟩, 6) := ⟨⟨by decide +kernel, by decide +kernel⟩, List.mem_of_getElem? (i := 4) (by decide +kernel), List.mem_of_getElem? (i := 152) (by decide +kernel), List.mem_of_getElem? (i := 153) (by decide +kernel)⟩
theorem lw_p22 : lw_okq (⟨"SkewMelds", "listChain", "(III)I"⟩, 6) := ⟨⟨by decide +kernel, by decide +kernel⟩, List.mem_of_getElem? (i := 4) (by decide +kernel), List.mem_of_getElem? (i := 156) (by decide +kernel), List.mem_of_getElem? (i := 157) (by decide +kernel)⟩
theorem lw_p23 : lw_okq (⟨"SkewMelds", "kthListed", "(II)J"⟩, 6) := ⟨⟨by decide +kernel, by decide +kernel⟩, List.mem_of_getElem? (i := 4) (by decide +kernel), List.mem_of_getElem? (i := 160) (by decide +kernel), List.mem_of_getElem? (i := 161) (by decide +kernel)⟩
theorem lw_p24 : lw_okq (⟨"SkewMelds", "countUpTo", "(IJ)I"⟩, 6) := ⟨⟨by decide +kernel, by decide +kernel⟩, List.mem_of_getElem? (i := 4) (by decide +kernel), List.mem_of_getElem? (i := 166) (by decide +kernel), List.mem_of_getElem? (i := 167) (by decide +kernel)⟩
theorem lw_p25 : lw_okq (⟨"SkewMelds", "listedKey", "(I)I"⟩, 6) := ⟨⟨by decide +kernel, by decide +kernel⟩, List.mem_of_getElem? (i := 4) (by decide +kernel), List.mem_of_getElem? (i := 170) (by decide +kernel), List.mem_of_getElem? (i := 171) (by decide +kernel)⟩
theorem lw_p26 : lw_okq (⟨"SkewMeldsModel", "isHeap", "(I)Z"⟩, 5) := ⟨⟨by decide +kernel, by decide +kernel⟩, List.mem_of_getElem? (i := 186) (by decide +kernel), List.mem_of_getElem? (i := 217) (by decide +kernel), List.mem_of_getElem? (i := 218) (by decide +kernel)⟩
theorem lw_p27 : lw_okq (⟨"SkewMeldsModel", "sizeOf", "(I)I"⟩, 5) := ⟨⟨by decide +kernel, by decide +kernel⟩, List.mem_of_getElem? (i := 186) (by decide +kernel), List.mem_of_getElem? (i := 221) (by decide +kernel), List.mem_of_getElem? (i := 222) (by decide +kernel)⟩
theorem lw_p28 : lw_okq (⟨"SkewMeldsModel", "untell", "()V"⟩, 5) := ⟨⟨by decide +kernel, by decide +kernel⟩, List.mem_of_getElem? (i := 186) (by decide +kernel), List.mem_of_getElem? (i := 229) (by decide +kernel), List.mem_of_getElem? (i := 230) (by decide +kernel)⟩
theorem lw_p29 : lw_okq (⟨"SkewMeldsModel", "placeOf", "(I)I"⟩, 5) := ⟨⟨by decide +kernel, by decide +kernel⟩, List.mem_of_getElem? (i := 186) (by decide +kernel), List.mem_of_getElem? (i := 233) (by decide +kernel), List.mem_of_getElem? (i := 234) (by decide +kernel)⟩
def lw_privs_2 : List (MethodName × Nat) := [(⟨"SkewMelds", "lesserRoot", "(II)I"⟩, 6), (⟨"SkewMelds", "cutRoot", "(II)V"⟩, 6), (⟨"SkewMelds", "place", "(II)V"⟩, 6), (⟨"SkewMelds", "placeChildren", "(II)V"⟩, 6), (⟨"SkewMelds", "beginOnBoth", "(II)V"⟩, 6), (⟨"SkewMelds", "listCells", "(I)I"⟩, 6), (⟨"SkewMelds", "listChain", "(III)I"⟩, 6), (⟨"SkewMelds", "kthListed", "(II)J"⟩, 6), (⟨"SkewMelds", "countUpTo", "(IJ)I"⟩, 6), (⟨"SkewMelds", "listedKey", "(I)I"⟩, 6), (⟨"SkewMeldsModel", "isHeap", "(I)Z"⟩, 5), (⟨"SkewMeldsModel", "sizeOf", "(I)I"⟩, 5), (⟨"SkewMeldsModel", "untell", "()V"⟩, 5), (⟨"SkewMeldsModel", "placeOf", "(I)I"⟩, 5)]
theorem lw_r2 : ∀ q ∈ lw_privs_2, lw_okq q := List.forall_mem_cons.mpr ⟨lw_p16, List.forall_mem_cons.mpr ⟨lw_p17, List.forall_mem_cons.mpr ⟨lw_p18, List.forall_mem_cons.mpr ⟨lw_p19, List.forall_mem_cons.mpr ⟨lw_p20, List.forall_mem_cons.mpr ⟨lw_p21, List.forall_mem_cons.mpr ⟨lw_p22, List.forall_mem_cons.mpr ⟨lw_p23, List.forall_mem_cons.mpr ⟨lw_p24, List.forall_mem_cons.mpr ⟨lw_p25, List.forall_mem_cons.mpr ⟨lw_p26, List.forall_mem_cons.mpr ⟨lw_p27, List.forall_mem_cons.mpr ⟨lw_p28, List.forall_mem_cons.mpr ⟨lw_p29, fun _ h => absurd h List.not_mem_nil⟩⟩⟩⟩⟩⟩⟩⟩⟩⟩⟩⟩⟩⟩
def lw_privs : List (MethodName × Nat) := lw_privs_1 ++ (lw_privs_2)
def lw_tbl : List Cond := k2_sels lw_privs ++ tables_1
theorem lw_privs_ok : ∀ q ∈ lw_privs, lw_okq q := by
  show ∀ q ∈ lw_privs_1 ++ (lw_privs_2), lw_okq q
  exact List.forall_mem_append.mpr ⟨lw_r1, lw_r2⟩
end
section
/-! ===== BEGIN words of one list among another's, by their places ===== -/
theorem goodIn_r {big : List Cond} (ws : List Cond) (ps : List Nat) (hp : ws = ps.filterMap (fun i => big[i]?)) (h : ws.all goodWord = true) : GoodIn big ws := by
  intro w hw
  have h1 := List.all_eq_true.mp h w hw
  rw [hp] at hw
  obtain ⟨i, -, hi⟩ := List.mem_filterMap.mp hw
  have hm : w ∈ big := by first | exact List.mem_of_getElem? hi | exact List.getElem?_mem hi
  exact ⟨hm, good_of_word h1⟩
theorem goodIn_app {big a b : List Cond} (ha : GoodIn big a) (hb : GoodIn big b) : GoodIn big (a ++ b) := fun w h => (List.mem_append.mp h).elim (ha w) (hb w)
theorem goodIn_ca {big a b : List Cond} {c : Cond} (ha : GoodIn big (c :: a)) (hb : GoodIn big b) : GoodIn big (c :: (a ++ b)) := fun w h => (List.mem_cons.mp h).elim (fun e => ha w (List.mem_cons.mpr (Or.inl e))) (fun h => (List.mem_append.mp h).elim (fun h => ha w (List.mem_cons.mpr (Or.inr h))) (hb w))
theorem goodIn_sub {big ws : List Cond} (hm : ∀ w ∈ ws, w ∈ big) (h : ws.all goodWord = true) : GoodIn big ws := fun w hw => ⟨hm w hw, good_of_word (List.all_eq_true.mp h w hw)⟩
/-! ===== END ===== -/

/-! ===== BEGIN printed: names, fields, word lists, decode rows ===== -/
def RX0 : String := "SkewMelds"
def TX0 : u_T := fun k => match k with
  | 0 => ("SkewMelds", "row", "[I", true)
  | 1 => ("SkewMelds", "heaps", "I", false)
  | 2 => ("SkewMelds", "unused", "I", false)
  | 3 => ("SkewMelds", "firstUnused", "I", false)
  | 4 => ("SkewMelds", "steps", "I", false)
  | _ => ("SkewMelds", "limit", "I", false)
def tyX0 : Nat → FieldType := fun k => match k with
  | 0 => .array .int
  | 1 => .int
  | 2 => .int
  | 3 => .int
  | 4 => .int
  | _ => .int
abbrev wsX00 : List Cond := u_ws RX0 TX0 6
theorem nmX0 : ∀ a, a < 6 → ∀ b, b < 6 → a ≠ b → (TX0 a).2.1 ≠ (TX0 b).2.1 := by decide +kernel
theorem tyX0_ok : ∀ k, k < 6 → parseFieldDescriptor (TX0 k).2.2.1 = some (tyX0 k) := by decide +kernel
abbrev cX0_init : ByteArray := prog_1_method_1_code
def yX0_init : MethodName := ⟨RX0, "<init>", "()V"⟩
abbrev cX0_heap : ByteArray := prog_1_method_2_code
def yX0_heap : MethodName := ⟨RX0, "heap", "()I"⟩
abbrev cX0_add : ByteArray := prog_1_method_3_code
def yX0_add : MethodName := ⟨RX0, "add", "(II)I"⟩
abbrev cX0_least : ByteArray := prog_1_method_4_code
def yX0_least : MethodName := ⟨RX0, "least", "(I)J"⟩
abbrev cX0_take : ByteArray := prog_1_method_5_code
def yX0_take : MethodName := ⟨RX0, "take", "(I)J"⟩
abbrev cX0_meld : ByteArray := prog_1_method_6_code
def yX0_meld : MethodName := ⟨RX0, "meld", "(II)I"⟩
abbrev cX0_size : ByteArray := prog_1_method_7_code
def yX0_size : MethodName := ⟨RX0, "size", "(I)I"⟩
abbrev cX0_key : ByteArray := prog_1_method_8_code
def yX0_key : MethodName := ⟨RX0, "key", "(II)J"⟩
abbrev cX0_sum : ByteArray := prog_1_method_9_code
def yX0_sum : MethodName := ⟨RX0, "sum", "(I)J"⟩
abbrev cX0_free : ByteArray := prog_1_method_10_code
def yX0_free : MethodName := ⟨RX0, "free", "()I"⟩
abbrev cX0_few : ByteArray := prog_1_method_11_code
def yX0_few : MethodName := ⟨RX0, "few", "()Z"⟩
abbrev cX0_read : ByteArray := prog_1_method_12_code
def yX0_read : MethodName := ⟨RX0, "read", "(I)I"⟩
abbrev cX0_write : ByteArray := prog_1_method_13_code
def yX0_write : MethodName := ⟨RX0, "write", "(II)V"⟩
abbrev cX0_begin : ByteArray := prog_1_method_14_code
def yX0_begin : MethodName := ⟨RX0, "begin", "(I)V"⟩
abbrev cX0_beginOn : ByteArray := prog_1_method_15_code
def yX0_beginOn : MethodName := ⟨RX0, "beginOn", "(I)V"⟩
abbrev cX0_beginOnBoth : ByteArray := prog_1_method_16_code
def yX0_beginOnBoth : MethodName := ⟨RX0, "beginOnBoth", "(II)V"⟩
abbrev cX0_limitFor : ByteArray := prog_1_method_17_code
def yX0_limitFor : MethodName := ⟨RX0, "limitFor", "(I)I"⟩
abbrev cX0_exists : ByteArray := prog_1_method_18_code
def yX0_exists : MethodName := ⟨RX0, "exists", "(I)Z"⟩
abbrev cX0_keysIn : ByteArray := prog_1_method_19_code
def yX0_keysIn : MethodName := ⟨RX0, "keysIn", "(I)I"⟩
abbrev cX0_resize : ByteArray := prog_1_method_20_code
def yX0_resize : MethodName := ⟨RX0, "resize", "(II)I"⟩
abbrev cX0_newCell : ByteArray := prog_1_method_21_code
def yX0_newCell : MethodName := ⟨RX0, "newCell", "(I)I"⟩
abbrev cX0_giveBack : ByteArray := prog_1_method_22_code
def yX0_giveBack : MethodName := ⟨RX0, "giveBack", "(I)V"⟩
abbrev cX0_topAt : ByteArray := prog_1_method_23_code
def yX0_topAt : MethodName := ⟨RX0, "topAt", "(II)I"⟩
abbrev cX0_cutTop : ByteArray := prog_1_method_24_code
def yX0_cutTop : MethodName := ⟨RX0, "cutTop", "(II)I"⟩
abbrev cX0_cutTwin : ByteArray := prog_1_method_25_code
def yX0_cutTwin : MethodName := ⟨RX0, "cutTwin", "(I)I"⟩
abbrev cX0_insertCell : ByteArray := prog_1_method_26_code
def yX0_insertCell : MethodName := ⟨RX0, "insertCell", "(II)V"⟩
abbrev cX0_link : ByteArray := prog_1_method_27_code
def yX0_link : MethodName := ⟨RX0, "link", "(II)I"⟩
abbrev cX0_hangTree : ByteArray := prog_1_method_28_code
def yX0_hangTree : MethodName := ⟨RX0, "hangTree", "(II)V"⟩
abbrev cX0_hangKey : ByteArray := prog_1_method_29_code
def yX0_hangKey : MethodName := ⟨RX0, "hangKey", "(II)V"⟩
abbrev cX0_place : ByteArray := prog_1_method_30_code
def yX0_place : MethodName := ⟨RX0, "place", "(II)V"⟩
abbrev cX0_placeChildren : ByteArray := prog_1_method_31_code
def yX0_placeChildren : MethodName := ⟨RX0, "placeChildren", "(II)V"⟩
abbrev cX0_leastRoot : ByteArray := prog_1_method_32_code
def yX0_leastRoot : MethodName := ⟨RX0, "leastRoot", "(I)I"⟩
abbrev cX0_lesserRoot : ByteArray := prog_1_method_33_code
def yX0_lesserRoot : MethodName := ⟨RX0, "lesserRoot", "(II)I"⟩
abbrev cX0_cutRoot : ByteArray := prog_1_method_34_code
def yX0_cutRoot : MethodName := ⟨RX0, "cutRoot", "(II)V"⟩
abbrev cX0_listCells : ByteArray := prog_1_method_35_code
def yX0_listCells : MethodName := ⟨RX0, "listCells", "(I)I"⟩
abbrev cX0_listChain : ByteArray := prog_1_method_36_code
def yX0_listChain : MethodName := ⟨RX0, "listChain", "(III)I"⟩
abbrev cX0_listedKey : ByteArray := prog_1_method_37_code
def yX0_listedKey : MethodName := ⟨RX0, "listedKey", "(I)I"⟩
abbrev cX0_kthListed : ByteArray := prog_1_method_38_code
def yX0_kthListed : MethodName := ⟨RX0, "kthListed", "(II)J"⟩
abbrev cX0_countUpTo : ByteArray := prog_1_method_39_code
def yX0_countUpTo : MethodName := ⟨RX0, "countUpTo", "(IJ)I"⟩
def RX1 : String := "SkewMeldsModel"
def TX1 : u_T := fun k => match k with
  | 0 => ("SkewMeldsModel", "heaps", "I", false)
  | 1 => ("SkewMeldsModel", "used", "I", false)
  | 2 => ("SkewMeldsModel", "owners", "[I", true)
  | 3 => ("SkewMeldsModel", "keys", "[I", true)
  | _ => ("SkewMeldsModel", "told", "[Z", true)
def tyX1 : Nat → FieldType := fun k => match k with
  | 0 => .int
  | 1 => .int
  | 2 => .array .int
  | 3 => .array .int
  | _ => .array .boolean
abbrev wsX10 : List Cond := u_ws RX1 TX1 5
theorem nmX1 : ∀ a, a < 5 → ∀ b, b < 5 → a ≠ b → (TX1 a).2.1 ≠ (TX1 b).2.1 := by decide +kernel
theorem tyX1_ok : ∀ k, k < 5 → parseFieldDescriptor (TX1 k).2.2.1 = some (tyX1 k) := by decide +kernel
abbrev cX1_init : ByteArray := prog_3_method_1_code
def yX1_init : MethodName := ⟨RX1, "<init>", "()V"⟩
abbrev cX1_isHeap : ByteArray := prog_3_method_3_code
def yX1_isHeap : MethodName := ⟨RX1, "isHeap", "(I)Z"⟩
abbrev cX1_heap : ByteArray := prog_3_method_4_code
def yX1_heap : MethodName := ⟨RX1, "heap", "()I"⟩
abbrev cX1_sizeOf : ByteArray := prog_3_method_5_code
def yX1_sizeOf : MethodName := ⟨RX1, "sizeOf", "(I)I"⟩
abbrev cX1_add : ByteArray := prog_3_method_6_code
def yX1_add : MethodName := ⟨RX1, "add", "(II)I"⟩
abbrev cX1_placeOf : ByteArray := prog_3_method_7_code
def yX1_placeOf : MethodName := ⟨RX1, "placeOf", "(I)I"⟩
abbrev cX1_untell : ByteArray := prog_3_method_8_code
def yX1_untell : MethodName := ⟨RX1, "untell", "()V"⟩
abbrev cX1_least : ByteArray := prog_3_method_9_code
def yX1_least : MethodName := ⟨RX1, "least", "(I)J"⟩
abbrev cX1_take : ByteArray := prog_3_method_10_code
def yX1_take : MethodName := ⟨RX1, "take", "(I)J"⟩
abbrev cX1_meld : ByteArray := prog_3_method_11_code
def yX1_meld : MethodName := ⟨RX1, "meld", "(II)I"⟩
abbrev cX1_size : ByteArray := prog_3_method_12_code
def yX1_size : MethodName := ⟨RX1, "size", "(I)I"⟩
abbrev cX1_key : ByteArray := prog_3_method_13_code
def yX1_key : MethodName := ⟨RX1, "key", "(II)J"⟩
abbrev cX1_sum : ByteArray := prog_3_method_14_code
def yX1_sum : MethodName := ⟨RX1, "sum", "(I)J"⟩
abbrev cX1_free : ByteArray := prog_3_method_15_code
def yX1_free : MethodName := ⟨RX1, "free", "()I"⟩
abbrev cX1_few : ByteArray := prog_3_method_16_code
def yX1_few : MethodName := ⟨RX1, "few", "()Z"⟩
def RL : String := "SkewMeldsLaw"
abbrev cL_law : ByteArray := code
def yL_law : MethodName := ⟨RL, "law", "([I)Z"⟩
def wsX0_write : List Cond := .code yX0_write cX0_write 3 none :: ([.fieldLink RX0 13 "SkewMelds" "row" "[I", .fieldLink RX0 96 "SkewMelds" "steps" "I"] ++ wsX00)
def wsX0_giveBack : List Cond := .code yX0_giveBack cX0_giveBack 2 none :: ([.fieldLink RX0 21 "SkewMelds" "firstUnused" "I", .fieldLink RX0 93 "SkewMelds" "unused" "I", .methodLink RX0 17 yX0_write, .instanceMethod yX0_write, .selects RX0 yX0_write yX0_write, .initialized RX0, .code yX0_write cX0_write 3 none, .fieldLink RX0 13 "SkewMelds" "row" "[I", .fieldLink RX0 96 "SkewMelds" "steps" "I"] ++ wsX00)
def wsX0_begin : List Cond := .code yX0_begin cX0_begin 2 none :: ([.fieldLink RX0 96 "SkewMelds" "steps" "I", .fieldLink RX0 99 "SkewMelds" "limit" "I"] ++ wsX00)
def wsX0_init : List Cond := .code yX0_init cX0_init 2 none :: ([.methodLink RX0 7 objectInit, .instanceMethod objectInit, .code objectInit ⟨#[0xb1]⟩ 1 none, .arrayClass .int, .fieldLink RX0 13 "SkewMelds" "row" "[I", .fieldLink RX0 21 "SkewMelds" "firstUnused" "I", .constant RX0 29 (2147483647), .methodLink RX0 17 yX0_write, .instanceMethod yX0_write, .selects RX0 yX0_write yX0_write, .initialized RX0, .code yX0_write cX0_write 3 none, .fieldLink RX0 96 "SkewMelds" "steps" "I", .methodLink RX0 25 yX0_giveBack, .instanceMethod yX0_giveBack, .selects RX0 yX0_giveBack yX0_giveBack, .code yX0_giveBack cX0_giveBack 2 none, .fieldLink RX0 93 "SkewMelds" "unused" "I", .methodLink RX0 30 yX0_begin, .instanceMethod yX0_begin, .selects RX0 yX0_begin yX0_begin, .code yX0_begin cX0_begin 2 none, .fieldLink RX0 99 "SkewMelds" "limit" "I"] ++ wsX00)
def wsX0_heap : List Cond := .code yX0_heap cX0_heap 1 (some .int) :: ([.constant RX0 29 (2147483647), .fieldLink RX0 33 "SkewMelds" "heaps" "I", .methodLink RX0 30 yX0_begin, .instanceMethod yX0_begin, .selects RX0 yX0_begin yX0_begin, .initialized RX0, .code yX0_begin cX0_begin 2 none, .fieldLink RX0 96 "SkewMelds" "steps" "I", .fieldLink RX0 99 "SkewMelds" "limit" "I"] ++ wsX00)
def wsX0_exists : List Cond := .code yX0_exists cX0_exists 2 (some .boolean) :: ([.fieldLink RX0 33 "SkewMelds" "heaps" "I"] ++ wsX00)
def wsX0_read : List Cond := .code yX0_read cX0_read 2 (some .int) :: ([.fieldLink RX0 13 "SkewMelds" "row" "[I", .fieldLink RX0 96 "SkewMelds" "steps" "I"] ++ wsX00)
def wsX0_newCell : List Cond := .code yX0_newCell cX0_newCell 3 (some .int) :: ([.fieldLink RX0 21 "SkewMelds" "firstUnused" "I", .fieldLink RX0 93 "SkewMelds" "unused" "I", .methodLink RX0 47 yX0_read, .instanceMethod yX0_read, .selects RX0 yX0_read yX0_read, .initialized RX0, .code yX0_read cX0_read 2 (some .int), .fieldLink RX0 13 "SkewMelds" "row" "[I", .fieldLink RX0 96 "SkewMelds" "steps" "I", .methodLink RX0 17 yX0_write, .instanceMethod yX0_write, .selects RX0 yX0_write yX0_write, .code yX0_write cX0_write 3 none] ++ wsX00)
def wsX0_cutTwin : List Cond := .code yX0_cutTwin cX0_cutTwin 3 (some .int) :: ([.methodLink RX0 47 yX0_read, .instanceMethod yX0_read, .selects RX0 yX0_read yX0_read, .initialized RX0, .code yX0_read cX0_read 2 (some .int), .fieldLink RX0 13 "SkewMelds" "row" "[I", .fieldLink RX0 96 "SkewMelds" "steps" "I", .methodLink RX0 17 yX0_write, .instanceMethod yX0_write, .selects RX0 yX0_write yX0_write, .code yX0_write cX0_write 3 none] ++ wsX00)
def wsX0_topAt : List Cond := .code yX0_topAt cX0_topAt 2 (some .int) :: ([])
def wsX0_cutTop : List Cond := .code yX0_cutTop cX0_cutTop 4 (some .int) :: ([.methodLink RX0 105 yX0_topAt, .static yX0_topAt, .initialized RX0, .code yX0_topAt cX0_topAt 2 (some .int), .methodLink RX0 47 yX0_read, .instanceMethod yX0_read, .selects RX0 yX0_read yX0_read, .code yX0_read cX0_read 2 (some .int), .fieldLink RX0 13 "SkewMelds" "row" "[I", .fieldLink RX0 96 "SkewMelds" "steps" "I", .methodLink RX0 17 yX0_write, .instanceMethod yX0_write, .selects RX0 yX0_write yX0_write, .code yX0_write cX0_write 3 none] ++ wsX00)
def wsX0_hangTree : List Cond := .code yX0_hangTree cX0_hangTree 3 none :: ([.methodLink RX0 47 yX0_read, .instanceMethod yX0_read, .selects RX0 yX0_read yX0_read, .initialized RX0, .code yX0_read cX0_read 2 (some .int), .fieldLink RX0 13 "SkewMelds" "row" "[I", .fieldLink RX0 96 "SkewMelds" "steps" "I", .methodLink RX0 17 yX0_write, .instanceMethod yX0_write, .selects RX0 yX0_write yX0_write, .code yX0_write cX0_write 3 none] ++ wsX00)
def wsX0_link : List Cond := .code yX0_link cX0_link 5 (some .int) :: ([.methodLink RX0 47 yX0_read, .instanceMethod yX0_read, .selects RX0 yX0_read yX0_read, .initialized RX0, .code yX0_read cX0_read 2 (some .int), .fieldLink RX0 13 "SkewMelds" "row" "[I", .fieldLink RX0 96 "SkewMelds" "steps" "I", .methodLink RX0 114 yX0_hangTree, .instanceMethod yX0_hangTree, .selects RX0 yX0_hangTree yX0_hangTree, .code yX0_hangTree cX0_hangTree 3 none, .methodLink RX0 17 yX0_write, .instanceMethod yX0_write, .selects RX0 yX0_write yX0_write, .code yX0_write cX0_write 3 none] ++ wsX00)
def wsX0_hangKey : List Cond := .code yX0_hangKey cX0_hangKey 5 none :: ([.methodLink RX0 47 yX0_read, .instanceMethod yX0_read, .selects RX0 yX0_read yX0_read, .initialized RX0, .code yX0_read cX0_read 2 (some .int), .fieldLink RX0 13 "SkewMelds" "row" "[I", .fieldLink RX0 96 "SkewMelds" "steps" "I", .methodLink RX0 17 yX0_write, .instanceMethod yX0_write, .selects RX0 yX0_write yX0_write, .code yX0_write cX0_write 3 none, .methodLink RX0 114 yX0_hangTree, .instanceMethod yX0_hangTree, .selects RX0 yX0_hangTree yX0_hangTree, .code yX0_hangTree cX0_hangTree 3 none] ++ wsX00)
def wsX0_insertCell_r1 : List Cond := [Cond.methodLink RX0 71 yX0_cutTwin, Cond.instanceMethod yX0_cutTwin, Cond.selects RX0 yX0_cutTwin yX0_cutTwin, Cond.initialized RX0, Cond.code yX0_cutTwin cX0_cutTwin 3 (some .int), Cond.methodLink RX0 47 yX0_read, Cond.instanceMethod yX0_read, Cond.selects RX0 yX0_read yX0_read, Cond.code yX0_read cX0_read 2 (some .int), Cond.fieldLink RX0 13 "SkewMelds" "row" "[I", Cond.fieldLink RX0 96 "SkewMelds" "steps" "I", Cond.methodLink RX0 17 yX0_write, Cond.instanceMethod yX0_write, Cond.selects RX0 yX0_write yX0_write, Cond.code yX0_write cX0_write 3 none, Cond.methodLink RX0 77 yX0_cutTop, Cond.instanceMethod yX0_cutTop, Cond.selects RX0 yX0_cutTop yX0_cutTop, Cond.code yX0_cutTop cX0_cutTop 4 (some .int), Cond.methodLink RX0 105 yX0_topAt, Cond.static yX0_topAt, Cond.code yX0_topAt cX0_topAt 2 (some .int), Cond.methodLink RX0 108 yX0_link, Cond.instanceMethod yX0_link]
def wsX0_insertCell_r2 : List Cond := [Cond.selects RX0 yX0_link yX0_link, Cond.code yX0_link cX0_link 5 (some .int), Cond.methodLink RX0 114 yX0_hangTree, Cond.instanceMethod yX0_hangTree, Cond.selects RX0 yX0_hangTree yX0_hangTree, Cond.code yX0_hangTree cX0_hangTree 3 none, Cond.methodLink RX0 111 yX0_hangKey, Cond.instanceMethod yX0_hangKey, Cond.selects RX0 yX0_hangKey yX0_hangKey, Cond.code yX0_hangKey cX0_hangKey 5 none]
def wsX0_insertCell : List Cond := .code yX0_insertCell cX0_insertCell 6 none :: ((wsX0_insertCell_r1 ++ wsX0_insertCell_r2) ++ wsX00)
def wsX0_resize : List Cond := .code yX0_resize cX0_resize 3 (some .int) :: ([.methodLink RX0 17 yX0_write, .instanceMethod yX0_write, .selects RX0 yX0_write yX0_write, .initialized RX0, .code yX0_write cX0_write 3 none, .fieldLink RX0 13 "SkewMelds" "row" "[I", .fieldLink RX0 96 "SkewMelds" "steps" "I"] ++ wsX00)
def wsX0_add_r1 : List Cond := [Cond.fieldLink RX0 21 "SkewMelds" "firstUnused" "I", Cond.methodLink RX0 30 yX0_begin, Cond.instanceMethod yX0_begin, Cond.selects RX0 yX0_begin yX0_begin, Cond.initialized RX0, Cond.code yX0_begin cX0_begin 2 none, Cond.fieldLink RX0 96 "SkewMelds" "steps" "I", Cond.fieldLink RX0 99 "SkewMelds" "limit" "I", Cond.methodLink RX0 36 yX0_exists, Cond.instanceMethod yX0_exists, Cond.selects RX0 yX0_exists yX0_exists, Cond.code yX0_exists cX0_exists 2 (some .boolean), Cond.fieldLink RX0 33 "SkewMelds" "heaps" "I", Cond.methodLink RX0 40 yX0_newCell, Cond.instanceMethod yX0_newCell, Cond.selects RX0 yX0_newCell yX0_newCell, Cond.code yX0_newCell cX0_newCell 3 (some .int), Cond.fieldLink RX0 93 "SkewMelds" "unused" "I", Cond.methodLink RX0 47 yX0_read, Cond.instanceMethod yX0_read, Cond.selects RX0 yX0_read yX0_read, Cond.code yX0_read cX0_read 2 (some .int), Cond.fieldLink RX0 13 "SkewMelds" "row" "[I", Cond.methodLink RX0 17 yX0_write]
def wsX0_add_r2 : List Cond := [Cond.instanceMethod yX0_write, Cond.selects RX0 yX0_write yX0_write, Cond.code yX0_write cX0_write 3 none, Cond.methodLink RX0 44 yX0_insertCell, Cond.instanceMethod yX0_insertCell, Cond.selects RX0 yX0_insertCell yX0_insertCell, Cond.code yX0_insertCell cX0_insertCell 6 none, Cond.methodLink RX0 71 yX0_cutTwin, Cond.instanceMethod yX0_cutTwin, Cond.selects RX0 yX0_cutTwin yX0_cutTwin, Cond.code yX0_cutTwin cX0_cutTwin 3 (some .int), Cond.methodLink RX0 77 yX0_cutTop, Cond.instanceMethod yX0_cutTop, Cond.selects RX0 yX0_cutTop yX0_cutTop, Cond.code yX0_cutTop cX0_cutTop 4 (some .int), Cond.methodLink RX0 105 yX0_topAt, Cond.static yX0_topAt, Cond.code yX0_topAt cX0_topAt 2 (some .int), Cond.methodLink RX0 108 yX0_link, Cond.instanceMethod yX0_link, Cond.selects RX0 yX0_link yX0_link, Cond.code yX0_link cX0_link 5 (some .int), Cond.methodLink RX0 114 yX0_hangTree, Cond.instanceMethod yX0_hangTree]
def wsX0_add_r3 : List Cond := [Cond.selects RX0 yX0_hangTree yX0_hangTree, Cond.code yX0_hangTree cX0_hangTree 3 none, Cond.methodLink RX0 111 yX0_hangKey, Cond.instanceMethod yX0_hangKey, Cond.selects RX0 yX0_hangKey yX0_hangKey, Cond.code yX0_hangKey cX0_hangKey 5 none, Cond.methodLink RX0 50 yX0_resize, Cond.instanceMethod yX0_resize, Cond.selects RX0 yX0_resize yX0_resize, Cond.code yX0_resize cX0_resize 3 (some .int)]
def wsX0_add : List Cond := .code yX0_add cX0_add 3 (some .int) :: ((wsX0_add_r1 ++ (wsX0_add_r2 ++ wsX0_add_r3)) ++ wsX00)
def wsX0_keysIn : List Cond := .code yX0_keysIn cX0_keysIn 2 (some .int) :: ([.methodLink RX0 36 yX0_exists, .instanceMethod yX0_exists, .selects RX0 yX0_exists yX0_exists, .initialized RX0, .code yX0_exists cX0_exists 2 (some .boolean), .fieldLink RX0 33 "SkewMelds" "heaps" "I", .methodLink RX0 47 yX0_read, .instanceMethod yX0_read, .selects RX0 yX0_read yX0_read, .code yX0_read cX0_read 2 (some .int), .fieldLink RX0 13 "SkewMelds" "row" "[I", .fieldLink RX0 96 "SkewMelds" "steps" "I"] ++ wsX00)
def wsX0_limitFor : List Cond := .code yX0_limitFor cX0_limitFor 2 (some .int) :: ([])
def wsX0_beginOn : List Cond := .code yX0_beginOn cX0_beginOn 2 none :: ([.fieldLink RX0 96 "SkewMelds" "steps" "I", .fieldLink RX0 99 "SkewMelds" "limit" "I", .methodLink RX0 80 yX0_keysIn, .instanceMethod yX0_keysIn, .selects RX0 yX0_keysIn yX0_keysIn, .initialized RX0, .code yX0_keysIn cX0_keysIn 2 (some .int), .methodLink RX0 36 yX0_exists, .instanceMethod yX0_exists, .selects RX0 yX0_exists yX0_exists, .code yX0_exists cX0_exists 2 (some .boolean), .fieldLink RX0 33 "SkewMelds" "heaps" "I", .methodLink RX0 47 yX0_read, .instanceMethod yX0_read, .selects RX0 yX0_read yX0_read, .code yX0_read cX0_read 2 (some .int), .fieldLink RX0 13 "SkewMelds" "row" "[I", .methodLink RX0 102 yX0_limitFor, .static yX0_limitFor, .code yX0_limitFor cX0_limitFor 2 (some .int)] ++ wsX00)
def wsX0_lesserRoot : List Cond := .code yX0_lesserRoot cX0_lesserRoot 3 (some .int) :: ([.methodLink RX0 47 yX0_read, .instanceMethod yX0_read, .selects RX0 yX0_read yX0_read, .initialized RX0, .code yX0_read cX0_read 2 (some .int), .fieldLink RX0 13 "SkewMelds" "row" "[I", .fieldLink RX0 96 "SkewMelds" "steps" "I"] ++ wsX00)
def wsX0_leastRoot : List Cond := .code yX0_leastRoot cX0_leastRoot 4 (some .int) :: ([.methodLink RX0 36 yX0_exists, .instanceMethod yX0_exists, .selects RX0 yX0_exists yX0_exists, .initialized RX0, .code yX0_exists cX0_exists 2 (some .boolean), .fieldLink RX0 33 "SkewMelds" "heaps" "I", .methodLink RX0 47 yX0_read, .instanceMethod yX0_read, .selects RX0 yX0_read yX0_read, .code yX0_read cX0_read 2 (some .int), .fieldLink RX0 13 "SkewMelds" "row" "[I", .fieldLink RX0 96 "SkewMelds" "steps" "I", .methodLink RX0 105 yX0_topAt, .static yX0_topAt, .code yX0_topAt cX0_topAt 2 (some .int), .methodLink RX0 117 yX0_lesserRoot, .instanceMethod yX0_lesserRoot, .selects RX0 yX0_lesserRoot yX0_lesserRoot, .code yX0_lesserRoot cX0_lesserRoot 3 (some .int)] ++ wsX00)
def wsX0_least_r1 : List Cond := [Cond.constantLong RX0 60 (-9223372036854775808), Cond.methodLink RX0 54 yX0_beginOn, Cond.instanceMethod yX0_beginOn, Cond.selects RX0 yX0_beginOn yX0_beginOn, Cond.initialized RX0, Cond.code yX0_beginOn cX0_beginOn 2 none, Cond.fieldLink RX0 96 "SkewMelds" "steps" "I", Cond.fieldLink RX0 99 "SkewMelds" "limit" "I", Cond.methodLink RX0 80 yX0_keysIn, Cond.instanceMethod yX0_keysIn, Cond.selects RX0 yX0_keysIn yX0_keysIn, Cond.code yX0_keysIn cX0_keysIn 2 (some .int), Cond.methodLink RX0 36 yX0_exists, Cond.instanceMethod yX0_exists, Cond.selects RX0 yX0_exists yX0_exists, Cond.code yX0_exists cX0_exists 2 (some .boolean), Cond.fieldLink RX0 33 "SkewMelds" "heaps" "I", Cond.methodLink RX0 47 yX0_read, Cond.instanceMethod yX0_read, Cond.selects RX0 yX0_read yX0_read, Cond.code yX0_read cX0_read 2 (some .int), Cond.fieldLink RX0 13 "SkewMelds" "row" "[I", Cond.methodLink RX0 102 yX0_limitFor, Cond.static yX0_limitFor]
def wsX0_least_r2 : List Cond := [Cond.code yX0_limitFor cX0_limitFor 2 (some .int), Cond.methodLink RX0 57 yX0_leastRoot, Cond.instanceMethod yX0_leastRoot, Cond.selects RX0 yX0_leastRoot yX0_leastRoot, Cond.code yX0_leastRoot cX0_leastRoot 4 (some .int), Cond.methodLink RX0 105 yX0_topAt, Cond.static yX0_topAt, Cond.code yX0_topAt cX0_topAt 2 (some .int), Cond.methodLink RX0 117 yX0_lesserRoot, Cond.instanceMethod yX0_lesserRoot, Cond.selects RX0 yX0_lesserRoot yX0_lesserRoot, Cond.code yX0_lesserRoot cX0_lesserRoot 3 (some .int)]
def wsX0_least : List Cond := .code yX0_least cX0_least 3 (some .long) :: ((wsX0_least_r1 ++ wsX0_least_r2) ++ wsX00)
def wsX0_place_r1 : List Cond := [Cond.methodLink RX0 47 yX0_read, Cond.instanceMethod yX0_read, Cond.selects RX0 yX0_read yX0_read, Cond.initialized RX0, Cond.code yX0_read cX0_read 2 (some .int), Cond.fieldLink RX0 13 "SkewMelds" "row" "[I", Cond.fieldLink RX0 96 "SkewMelds" "steps" "I", Cond.methodLink RX0 77 yX0_cutTop, Cond.instanceMethod yX0_cutTop, Cond.selects RX0 yX0_cutTop yX0_cutTop, Cond.code yX0_cutTop cX0_cutTop 4 (some .int), Cond.methodLink RX0 105 yX0_topAt, Cond.static yX0_topAt, Cond.code yX0_topAt cX0_topAt 2 (some .int), Cond.methodLink RX0 17 yX0_write, Cond.instanceMethod yX0_write, Cond.selects RX0 yX0_write yX0_write, Cond.code yX0_write cX0_write 3 none, Cond.methodLink RX0 108 yX0_link, Cond.instanceMethod yX0_link, Cond.selects RX0 yX0_link yX0_link, Cond.code yX0_link cX0_link 5 (some .int), Cond.methodLink RX0 114 yX0_hangTree, Cond.instanceMethod yX0_hangTree]
def wsX0_place_r2 : List Cond := [Cond.selects RX0 yX0_hangTree yX0_hangTree, Cond.code yX0_hangTree cX0_hangTree 3 none]
def wsX0_place : List Cond := .code yX0_place cX0_place 6 none :: ((wsX0_place_r1 ++ wsX0_place_r2) ++ wsX00)
def wsX0_cutRoot_r1 : List Cond := [Cond.methodLink RX0 71 yX0_cutTwin, Cond.instanceMethod yX0_cutTwin, Cond.selects RX0 yX0_cutTwin yX0_cutTwin, Cond.initialized RX0, Cond.code yX0_cutTwin cX0_cutTwin 3 (some .int), Cond.methodLink RX0 47 yX0_read, Cond.instanceMethod yX0_read, Cond.selects RX0 yX0_read yX0_read, Cond.code yX0_read cX0_read 2 (some .int), Cond.fieldLink RX0 13 "SkewMelds" "row" "[I", Cond.fieldLink RX0 96 "SkewMelds" "steps" "I", Cond.methodLink RX0 17 yX0_write, Cond.instanceMethod yX0_write, Cond.selects RX0 yX0_write yX0_write, Cond.code yX0_write cX0_write 3 none, Cond.methodLink RX0 77 yX0_cutTop, Cond.instanceMethod yX0_cutTop, Cond.selects RX0 yX0_cutTop yX0_cutTop, Cond.code yX0_cutTop cX0_cutTop 4 (some .int), Cond.methodLink RX0 105 yX0_topAt, Cond.static yX0_topAt, Cond.code yX0_topAt cX0_topAt 2 (some .int), Cond.methodLink RX0 74 yX0_place, Cond.instanceMethod yX0_place]
def wsX0_cutRoot_r2 : List Cond := [Cond.selects RX0 yX0_place yX0_place, Cond.code yX0_place cX0_place 6 none, Cond.methodLink RX0 108 yX0_link, Cond.instanceMethod yX0_link, Cond.selects RX0 yX0_link yX0_link, Cond.code yX0_link cX0_link 5 (some .int), Cond.methodLink RX0 114 yX0_hangTree, Cond.instanceMethod yX0_hangTree, Cond.selects RX0 yX0_hangTree yX0_hangTree, Cond.code yX0_hangTree cX0_hangTree 3 none]
def wsX0_cutRoot : List Cond := .code yX0_cutRoot cX0_cutRoot 4 none :: ((wsX0_cutRoot_r1 ++ wsX0_cutRoot_r2) ++ wsX00)
def wsX0_placeChildren_r1 : List Cond := [Cond.methodLink RX0 47 yX0_read, Cond.instanceMethod yX0_read, Cond.selects RX0 yX0_read yX0_read, Cond.initialized RX0, Cond.code yX0_read cX0_read 2 (some .int), Cond.fieldLink RX0 13 "SkewMelds" "row" "[I", Cond.fieldLink RX0 96 "SkewMelds" "steps" "I", Cond.methodLink RX0 74 yX0_place, Cond.instanceMethod yX0_place, Cond.selects RX0 yX0_place yX0_place, Cond.code yX0_place cX0_place 6 none, Cond.methodLink RX0 77 yX0_cutTop, Cond.instanceMethod yX0_cutTop, Cond.selects RX0 yX0_cutTop yX0_cutTop, Cond.code yX0_cutTop cX0_cutTop 4 (some .int), Cond.methodLink RX0 105 yX0_topAt, Cond.static yX0_topAt, Cond.code yX0_topAt cX0_topAt 2 (some .int), Cond.methodLink RX0 17 yX0_write, Cond.instanceMethod yX0_write, Cond.selects RX0 yX0_write yX0_write, Cond.code yX0_write cX0_write 3 none, Cond.methodLink RX0 108 yX0_link, Cond.instanceMethod yX0_link]
def wsX0_placeChildren_r2 : List Cond := [Cond.selects RX0 yX0_link yX0_link, Cond.code yX0_link cX0_link 5 (some .int), Cond.methodLink RX0 114 yX0_hangTree, Cond.instanceMethod yX0_hangTree, Cond.selects RX0 yX0_hangTree yX0_hangTree, Cond.code yX0_hangTree cX0_hangTree 3 none]
def wsX0_placeChildren : List Cond := .code yX0_placeChildren cX0_placeChildren 6 none :: ((wsX0_placeChildren_r1 ++ wsX0_placeChildren_r2) ++ wsX00)
def wsX0_take_r1 : List Cond := [Cond.constantLong RX0 60 (-9223372036854775808), Cond.methodLink RX0 54 yX0_beginOn, Cond.instanceMethod yX0_beginOn, Cond.selects RX0 yX0_beginOn yX0_beginOn, Cond.initialized RX0, Cond.code yX0_beginOn cX0_beginOn 2 none, Cond.fieldLink RX0 96 "SkewMelds" "steps" "I", Cond.fieldLink RX0 99 "SkewMelds" "limit" "I", Cond.methodLink RX0 80 yX0_keysIn, Cond.instanceMethod yX0_keysIn, Cond.selects RX0 yX0_keysIn yX0_keysIn, Cond.code yX0_keysIn cX0_keysIn 2 (some .int), Cond.methodLink RX0 36 yX0_exists, Cond.instanceMethod yX0_exists, Cond.selects RX0 yX0_exists yX0_exists, Cond.code yX0_exists cX0_exists 2 (some .boolean), Cond.fieldLink RX0 33 "SkewMelds" "heaps" "I", Cond.methodLink RX0 47 yX0_read, Cond.instanceMethod yX0_read, Cond.selects RX0 yX0_read yX0_read, Cond.code yX0_read cX0_read 2 (some .int), Cond.fieldLink RX0 13 "SkewMelds" "row" "[I", Cond.methodLink RX0 102 yX0_limitFor, Cond.static yX0_limitFor]
def wsX0_take_r2 : List Cond := [Cond.code yX0_limitFor cX0_limitFor 2 (some .int), Cond.methodLink RX0 57 yX0_leastRoot, Cond.instanceMethod yX0_leastRoot, Cond.selects RX0 yX0_leastRoot yX0_leastRoot, Cond.code yX0_leastRoot cX0_leastRoot 4 (some .int), Cond.methodLink RX0 105 yX0_topAt, Cond.static yX0_topAt, Cond.code yX0_topAt cX0_topAt 2 (some .int), Cond.methodLink RX0 117 yX0_lesserRoot, Cond.instanceMethod yX0_lesserRoot, Cond.selects RX0 yX0_lesserRoot yX0_lesserRoot, Cond.code yX0_lesserRoot cX0_lesserRoot 3 (some .int), Cond.methodLink RX0 62 yX0_cutRoot, Cond.instanceMethod yX0_cutRoot, Cond.selects RX0 yX0_cutRoot yX0_cutRoot, Cond.code yX0_cutRoot cX0_cutRoot 4 none, Cond.methodLink RX0 71 yX0_cutTwin, Cond.instanceMethod yX0_cutTwin, Cond.selects RX0 yX0_cutTwin yX0_cutTwin, Cond.code yX0_cutTwin cX0_cutTwin 3 (some .int), Cond.methodLink RX0 17 yX0_write, Cond.instanceMethod yX0_write, Cond.selects RX0 yX0_write yX0_write, Cond.code yX0_write cX0_write 3 none]
def wsX0_take_r3 : List Cond := [Cond.methodLink RX0 77 yX0_cutTop, Cond.instanceMethod yX0_cutTop, Cond.selects RX0 yX0_cutTop yX0_cutTop, Cond.code yX0_cutTop cX0_cutTop 4 (some .int), Cond.methodLink RX0 74 yX0_place, Cond.instanceMethod yX0_place, Cond.selects RX0 yX0_place yX0_place, Cond.code yX0_place cX0_place 6 none, Cond.methodLink RX0 108 yX0_link, Cond.instanceMethod yX0_link, Cond.selects RX0 yX0_link yX0_link, Cond.code yX0_link cX0_link 5 (some .int), Cond.methodLink RX0 114 yX0_hangTree, Cond.instanceMethod yX0_hangTree, Cond.selects RX0 yX0_hangTree yX0_hangTree, Cond.code yX0_hangTree cX0_hangTree 3 none, Cond.methodLink RX0 65 yX0_placeChildren, Cond.instanceMethod yX0_placeChildren, Cond.selects RX0 yX0_placeChildren yX0_placeChildren, Cond.code yX0_placeChildren cX0_placeChildren 6 none, Cond.methodLink RX0 25 yX0_giveBack, Cond.instanceMethod yX0_giveBack, Cond.selects RX0 yX0_giveBack yX0_giveBack, Cond.code yX0_giveBack cX0_giveBack 2 none]
def wsX0_take_r4 : List Cond := [Cond.fieldLink RX0 21 "SkewMelds" "firstUnused" "I", Cond.fieldLink RX0 93 "SkewMelds" "unused" "I", Cond.methodLink RX0 50 yX0_resize, Cond.instanceMethod yX0_resize, Cond.selects RX0 yX0_resize yX0_resize, Cond.code yX0_resize cX0_resize 3 (some .int)]
def wsX0_take : List Cond := .code yX0_take cX0_take 5 (some .long) :: ((wsX0_take_r1 ++ (wsX0_take_r2 ++ (wsX0_take_r3 ++ wsX0_take_r4))) ++ wsX00)
def wsX0_beginOnBoth : List Cond := .code yX0_beginOnBoth cX0_beginOnBoth 3 none :: ([.fieldLink RX0 96 "SkewMelds" "steps" "I", .fieldLink RX0 99 "SkewMelds" "limit" "I", .methodLink RX0 80 yX0_keysIn, .instanceMethod yX0_keysIn, .selects RX0 yX0_keysIn yX0_keysIn, .initialized RX0, .code yX0_keysIn cX0_keysIn 2 (some .int), .methodLink RX0 36 yX0_exists, .instanceMethod yX0_exists, .selects RX0 yX0_exists yX0_exists, .code yX0_exists cX0_exists 2 (some .boolean), .fieldLink RX0 33 "SkewMelds" "heaps" "I", .methodLink RX0 47 yX0_read, .instanceMethod yX0_read, .selects RX0 yX0_read yX0_read, .code yX0_read cX0_read 2 (some .int), .fieldLink RX0 13 "SkewMelds" "row" "[I", .methodLink RX0 102 yX0_limitFor, .static yX0_limitFor, .code yX0_limitFor cX0_limitFor 2 (some .int)] ++ wsX00)
def wsX0_meld_r1 : List Cond := [Cond.methodLink RX0 68 yX0_beginOnBoth, Cond.instanceMethod yX0_beginOnBoth, Cond.selects RX0 yX0_beginOnBoth yX0_beginOnBoth, Cond.initialized RX0, Cond.code yX0_beginOnBoth cX0_beginOnBoth 3 none, Cond.fieldLink RX0 96 "SkewMelds" "steps" "I", Cond.fieldLink RX0 99 "SkewMelds" "limit" "I", Cond.methodLink RX0 80 yX0_keysIn, Cond.instanceMethod yX0_keysIn, Cond.selects RX0 yX0_keysIn yX0_keysIn, Cond.code yX0_keysIn cX0_keysIn 2 (some .int), Cond.methodLink RX0 36 yX0_exists, Cond.instanceMethod yX0_exists, Cond.selects RX0 yX0_exists yX0_exists, Cond.code yX0_exists cX0_exists 2 (some .boolean), Cond.fieldLink RX0 33 "SkewMelds" "heaps" "I", Cond.methodLink RX0 47 yX0_read, Cond.instanceMethod yX0_read, Cond.selects RX0 yX0_read yX0_read, Cond.code yX0_read cX0_read 2 (some .int), Cond.fieldLink RX0 13 "SkewMelds" "row" "[I", Cond.methodLink RX0 102 yX0_limitFor, Cond.static yX0_limitFor, Cond.code yX0_limitFor cX0_limitFor 2 (some .int)]
def wsX0_meld_r2 : List Cond := [Cond.methodLink RX0 71 yX0_cutTwin, Cond.instanceMethod yX0_cutTwin, Cond.selects RX0 yX0_cutTwin yX0_cutTwin, Cond.code yX0_cutTwin cX0_cutTwin 3 (some .int), Cond.methodLink RX0 17 yX0_write, Cond.instanceMethod yX0_write, Cond.selects RX0 yX0_write yX0_write, Cond.code yX0_write cX0_write 3 none, Cond.methodLink RX0 74 yX0_place, Cond.instanceMethod yX0_place, Cond.selects RX0 yX0_place yX0_place, Cond.code yX0_place cX0_place 6 none, Cond.methodLink RX0 77 yX0_cutTop, Cond.instanceMethod yX0_cutTop, Cond.selects RX0 yX0_cutTop yX0_cutTop, Cond.code yX0_cutTop cX0_cutTop 4 (some .int), Cond.methodLink RX0 105 yX0_topAt, Cond.static yX0_topAt, Cond.code yX0_topAt cX0_topAt 2 (some .int), Cond.methodLink RX0 108 yX0_link, Cond.instanceMethod yX0_link, Cond.selects RX0 yX0_link yX0_link, Cond.code yX0_link cX0_link 5 (some .int), Cond.methodLink RX0 114 yX0_hangTree]
def wsX0_meld_r3 : List Cond := [Cond.instanceMethod yX0_hangTree, Cond.selects RX0 yX0_hangTree yX0_hangTree, Cond.code yX0_hangTree cX0_hangTree 3 none, Cond.methodLink RX0 50 yX0_resize, Cond.instanceMethod yX0_resize, Cond.selects RX0 yX0_resize yX0_resize, Cond.code yX0_resize cX0_resize 3 (some .int)]
def wsX0_meld : List Cond := .code yX0_meld cX0_meld 4 (some .int) :: ((wsX0_meld_r1 ++ (wsX0_meld_r2 ++ wsX0_meld_r3)) ++ wsX00)
def wsX0_size : List Cond := .code yX0_size cX0_size 2 (some .int) :: ([.constant RX0 29 (2147483647), .methodLink RX0 30 yX0_begin, .instanceMethod yX0_begin, .selects RX0 yX0_begin yX0_begin, .initialized RX0, .code yX0_begin cX0_begin 2 none, .fieldLink RX0 96 "SkewMelds" "steps" "I", .fieldLink RX0 99 "SkewMelds" "limit" "I", .methodLink RX0 36 yX0_exists, .instanceMethod yX0_exists, .selects RX0 yX0_exists yX0_exists, .code yX0_exists cX0_exists 2 (some .boolean), .fieldLink RX0 33 "SkewMelds" "heaps" "I", .methodLink RX0 47 yX0_read, .instanceMethod yX0_read, .selects RX0 yX0_read yX0_read, .code yX0_read cX0_read 2 (some .int), .fieldLink RX0 13 "SkewMelds" "row" "[I"] ++ wsX00)
def wsX0_listChain : List Cond := .code yX0_listChain cX0_listChain 7 (some .int) :: ([.methodLink RX0 17 yX0_write, .instanceMethod yX0_write, .selects RX0 yX0_write yX0_write, .initialized RX0, .code yX0_write cX0_write 3 none, .fieldLink RX0 13 "SkewMelds" "row" "[I", .fieldLink RX0 96 "SkewMelds" "steps" "I", .methodLink RX0 47 yX0_read, .instanceMethod yX0_read, .selects RX0 yX0_read yX0_read, .code yX0_read cX0_read 2 (some .int)] ++ wsX00)
def wsX0_listCells : List Cond := .code yX0_listCells cX0_listCells 4 (some .int) :: ([.methodLink RX0 47 yX0_read, .instanceMethod yX0_read, .selects RX0 yX0_read yX0_read, .initialized RX0, .code yX0_read cX0_read 2 (some .int), .fieldLink RX0 13 "SkewMelds" "row" "[I", .fieldLink RX0 96 "SkewMelds" "steps" "I", .methodLink RX0 120 yX0_listChain, .instanceMethod yX0_listChain, .selects RX0 yX0_listChain yX0_listChain, .code yX0_listChain cX0_listChain 7 (some .int), .methodLink RX0 17 yX0_write, .instanceMethod yX0_write, .selects RX0 yX0_write yX0_write, .code yX0_write cX0_write 3 none, .methodLink RX0 105 yX0_topAt, .static yX0_topAt, .code yX0_topAt cX0_topAt 2 (some .int)] ++ wsX00)
def wsX0_listedKey : List Cond := .code yX0_listedKey cX0_listedKey 2 (some .int) :: ([.methodLink RX0 47 yX0_read, .instanceMethod yX0_read, .selects RX0 yX0_read yX0_read, .initialized RX0, .code yX0_read cX0_read 2 (some .int), .fieldLink RX0 13 "SkewMelds" "row" "[I", .fieldLink RX0 96 "SkewMelds" "steps" "I"] ++ wsX00)
def wsX0_countUpTo : List Cond := .code yX0_countUpTo cX0_countUpTo 6 (some .int) :: ([.methodLink RX0 90 yX0_listedKey, .instanceMethod yX0_listedKey, .selects RX0 yX0_listedKey yX0_listedKey, .initialized RX0, .code yX0_listedKey cX0_listedKey 2 (some .int), .methodLink RX0 47 yX0_read, .instanceMethod yX0_read, .selects RX0 yX0_read yX0_read, .code yX0_read cX0_read 2 (some .int), .fieldLink RX0 13 "SkewMelds" "row" "[I", .fieldLink RX0 96 "SkewMelds" "steps" "I"] ++ wsX00)
def wsX0_kthListed : List Cond := .code yX0_kthListed cX0_kthListed 10 (some .long) :: ([.constantLong RX0 124 (-2147483648), .constantLong RX0 126 (2147483647), .methodLink RX0 128 yX0_countUpTo, .instanceMethod yX0_countUpTo, .selects RX0 yX0_countUpTo yX0_countUpTo, .initialized RX0, .code yX0_countUpTo cX0_countUpTo 6 (some .int), .methodLink RX0 90 yX0_listedKey, .instanceMethod yX0_listedKey, .selects RX0 yX0_listedKey yX0_listedKey, .code yX0_listedKey cX0_listedKey 2 (some .int), .methodLink RX0 47 yX0_read, .instanceMethod yX0_read, .selects RX0 yX0_read yX0_read, .code yX0_read cX0_read 2 (some .int), .fieldLink RX0 13 "SkewMelds" "row" "[I", .fieldLink RX0 96 "SkewMelds" "steps" "I"] ++ wsX00)
def wsX0_key_r1 : List Cond := [Cond.constant RX0 29 (2147483647), Cond.constantLong RX0 60 (-9223372036854775808), Cond.methodLink RX0 30 yX0_begin, Cond.instanceMethod yX0_begin, Cond.selects RX0 yX0_begin yX0_begin, Cond.initialized RX0, Cond.code yX0_begin cX0_begin 2 none, Cond.fieldLink RX0 96 "SkewMelds" "steps" "I", Cond.fieldLink RX0 99 "SkewMelds" "limit" "I", Cond.methodLink RX0 80 yX0_keysIn, Cond.instanceMethod yX0_keysIn, Cond.selects RX0 yX0_keysIn yX0_keysIn, Cond.code yX0_keysIn cX0_keysIn 2 (some .int), Cond.methodLink RX0 36 yX0_exists, Cond.instanceMethod yX0_exists, Cond.selects RX0 yX0_exists yX0_exists, Cond.code yX0_exists cX0_exists 2 (some .boolean), Cond.fieldLink RX0 33 "SkewMelds" "heaps" "I", Cond.methodLink RX0 47 yX0_read, Cond.instanceMethod yX0_read, Cond.selects RX0 yX0_read yX0_read, Cond.code yX0_read cX0_read 2 (some .int), Cond.fieldLink RX0 13 "SkewMelds" "row" "[I", Cond.methodLink RX0 83 yX0_listCells]
def wsX0_key_r2 : List Cond := [Cond.instanceMethod yX0_listCells, Cond.selects RX0 yX0_listCells yX0_listCells, Cond.code yX0_listCells cX0_listCells 4 (some .int), Cond.methodLink RX0 120 yX0_listChain, Cond.instanceMethod yX0_listChain, Cond.selects RX0 yX0_listChain yX0_listChain, Cond.code yX0_listChain cX0_listChain 7 (some .int), Cond.methodLink RX0 17 yX0_write, Cond.instanceMethod yX0_write, Cond.selects RX0 yX0_write yX0_write, Cond.code yX0_write cX0_write 3 none, Cond.methodLink RX0 105 yX0_topAt, Cond.static yX0_topAt, Cond.code yX0_topAt cX0_topAt 2 (some .int), Cond.methodLink RX0 86 yX0_kthListed, Cond.instanceMethod yX0_kthListed, Cond.selects RX0 yX0_kthListed yX0_kthListed, Cond.code yX0_kthListed cX0_kthListed 10 (some .long), Cond.constantLong RX0 124 (-2147483648), Cond.constantLong RX0 126 (2147483647), Cond.methodLink RX0 128 yX0_countUpTo, Cond.instanceMethod yX0_countUpTo, Cond.selects RX0 yX0_countUpTo yX0_countUpTo, Cond.code yX0_countUpTo cX0_countUpTo 6 (some .int)]
def wsX0_key_r3 : List Cond := [Cond.methodLink RX0 90 yX0_listedKey, Cond.instanceMethod yX0_listedKey, Cond.selects RX0 yX0_listedKey yX0_listedKey, Cond.code yX0_listedKey cX0_listedKey 2 (some .int)]
def wsX0_key : List Cond := .code yX0_key cX0_key 3 (some .long) :: ((wsX0_key_r1 ++ (wsX0_key_r2 ++ wsX0_key_r3)) ++ wsX00)
def wsX0_sum_r1 : List Cond := [Cond.constant RX0 29 (2147483647), Cond.methodLink RX0 30 yX0_begin, Cond.instanceMethod yX0_begin, Cond.selects RX0 yX0_begin yX0_begin, Cond.initialized RX0, Cond.code yX0_begin cX0_begin 2 none, Cond.fieldLink RX0 96 "SkewMelds" "steps" "I", Cond.fieldLink RX0 99 "SkewMelds" "limit" "I", Cond.methodLink RX0 36 yX0_exists, Cond.instanceMethod yX0_exists, Cond.selects RX0 yX0_exists yX0_exists, Cond.code yX0_exists cX0_exists 2 (some .boolean), Cond.fieldLink RX0 33 "SkewMelds" "heaps" "I", Cond.methodLink RX0 83 yX0_listCells, Cond.instanceMethod yX0_listCells, Cond.selects RX0 yX0_listCells yX0_listCells, Cond.code yX0_listCells cX0_listCells 4 (some .int), Cond.methodLink RX0 47 yX0_read, Cond.instanceMethod yX0_read, Cond.selects RX0 yX0_read yX0_read, Cond.code yX0_read cX0_read 2 (some .int), Cond.fieldLink RX0 13 "SkewMelds" "row" "[I", Cond.methodLink RX0 120 yX0_listChain, Cond.instanceMethod yX0_listChain]
def wsX0_sum_r2 : List Cond := [Cond.selects RX0 yX0_listChain yX0_listChain, Cond.code yX0_listChain cX0_listChain 7 (some .int), Cond.methodLink RX0 17 yX0_write, Cond.instanceMethod yX0_write, Cond.selects RX0 yX0_write yX0_write, Cond.code yX0_write cX0_write 3 none, Cond.methodLink RX0 105 yX0_topAt, Cond.static yX0_topAt, Cond.code yX0_topAt cX0_topAt 2 (some .int), Cond.methodLink RX0 90 yX0_listedKey, Cond.instanceMethod yX0_listedKey, Cond.selects RX0 yX0_listedKey yX0_listedKey, Cond.code yX0_listedKey cX0_listedKey 2 (some .int)]
def wsX0_sum : List Cond := .code yX0_sum cX0_sum 6 (some .long) :: ((wsX0_sum_r1 ++ wsX0_sum_r2) ++ wsX00)
def wsX0_free : List Cond := .code yX0_free cX0_free 1 (some .int) :: ([.constant RX0 29 (2147483647), .fieldLink RX0 93 "SkewMelds" "unused" "I", .methodLink RX0 30 yX0_begin, .instanceMethod yX0_begin, .selects RX0 yX0_begin yX0_begin, .initialized RX0, .code yX0_begin cX0_begin 2 none, .fieldLink RX0 96 "SkewMelds" "steps" "I", .fieldLink RX0 99 "SkewMelds" "limit" "I"] ++ wsX00)
def wsX0_few : List Cond := .code yX0_few cX0_few 2 (some .boolean) :: ([.fieldLink RX0 96 "SkewMelds" "steps" "I", .fieldLink RX0 99 "SkewMelds" "limit" "I", .constant RX0 29 (2147483647), .methodLink RX0 30 yX0_begin, .instanceMethod yX0_begin, .selects RX0 yX0_begin yX0_begin, .initialized RX0, .code yX0_begin cX0_begin 2 none] ++ wsX00)
def wsX1_init : List Cond := .code yX1_init cX1_init 1 none :: ([.methodLink RX1 1 objectInit, .instanceMethod objectInit, .code objectInit ⟨#[0xb1]⟩ 1 none, .arrayClass .int, .fieldLink RX1 7 "SkewMeldsModel" "owners" "[I", .fieldLink RX1 13 "SkewMeldsModel" "keys" "[I", .arrayClass .boolean, .fieldLink RX1 16 "SkewMeldsModel" "told" "[Z"] ++ wsX10)
def wsX1_isHeap : List Cond := .code yX1_isHeap cX1_isHeap 2 (some .boolean) :: ([.fieldLink RX1 20 "SkewMeldsModel" "heaps" "I"] ++ wsX10)
def wsX1_heap : List Cond := .code yX1_heap cX1_heap 1 (some .int) :: ([.fieldLink RX1 20 "SkewMeldsModel" "heaps" "I"] ++ wsX10)
def wsX1_sizeOf : List Cond := .code yX1_sizeOf cX1_sizeOf 4 (some .int) :: ([.fieldLink RX1 24 "SkewMeldsModel" "used" "I", .fieldLink RX1 7 "SkewMeldsModel" "owners" "[I"] ++ wsX10)
def wsX1_add : List Cond := .code yX1_add cX1_add 3 (some .int) :: ([.fieldLink RX1 24 "SkewMeldsModel" "used" "I", .fieldLink RX1 7 "SkewMeldsModel" "owners" "[I", .fieldLink RX1 13 "SkewMeldsModel" "keys" "[I", .methodLink RX1 27 yX1_isHeap, .instanceMethod yX1_isHeap, .selects RX1 yX1_isHeap yX1_isHeap, .initialized RX1, .code yX1_isHeap cX1_isHeap 2 (some .boolean), .fieldLink RX1 20 "SkewMeldsModel" "heaps" "I", .methodLink RX1 31 yX1_sizeOf, .instanceMethod yX1_sizeOf, .selects RX1 yX1_sizeOf yX1_sizeOf, .code yX1_sizeOf cX1_sizeOf 4 (some .int)] ++ wsX10)
def wsX1_placeOf : List Cond := .code yX1_placeOf cX1_placeOf 4 (some .int) :: ([.fieldLink RX1 24 "SkewMeldsModel" "used" "I", .fieldLink RX1 7 "SkewMeldsModel" "owners" "[I", .fieldLink RX1 16 "SkewMeldsModel" "told" "[Z", .fieldLink RX1 13 "SkewMeldsModel" "keys" "[I"] ++ wsX10)
def wsX1_untell : List Cond := .code yX1_untell cX1_untell 2 none :: ([.fieldLink RX1 16 "SkewMeldsModel" "told" "[Z"] ++ wsX10)
def wsX1_least : List Cond := .code yX1_least cX1_least 3 (some .long) :: ([.constantLong RX1 41 (-9223372036854775808), .fieldLink RX1 13 "SkewMeldsModel" "keys" "[I", .methodLink RX1 35 yX1_untell, .instanceMethod yX1_untell, .selects RX1 yX1_untell yX1_untell, .initialized RX1, .code yX1_untell cX1_untell 2 none, .fieldLink RX1 16 "SkewMeldsModel" "told" "[Z", .methodLink RX1 27 yX1_isHeap, .instanceMethod yX1_isHeap, .selects RX1 yX1_isHeap yX1_isHeap, .code yX1_isHeap cX1_isHeap 2 (some .boolean), .fieldLink RX1 20 "SkewMeldsModel" "heaps" "I", .methodLink RX1 38 yX1_placeOf, .instanceMethod yX1_placeOf, .selects RX1 yX1_placeOf yX1_placeOf, .code yX1_placeOf cX1_placeOf 4 (some .int), .fieldLink RX1 24 "SkewMeldsModel" "used" "I", .fieldLink RX1 7 "SkewMeldsModel" "owners" "[I"] ++ wsX10)
def wsX1_take : List Cond := .code yX1_take cX1_take 5 (some .long) :: ([.constantLong RX1 41 (-9223372036854775808), .fieldLink RX1 13 "SkewMeldsModel" "keys" "[I", .fieldLink RX1 24 "SkewMeldsModel" "used" "I", .fieldLink RX1 7 "SkewMeldsModel" "owners" "[I", .methodLink RX1 35 yX1_untell, .instanceMethod yX1_untell, .selects RX1 yX1_untell yX1_untell, .initialized RX1, .code yX1_untell cX1_untell 2 none, .fieldLink RX1 16 "SkewMeldsModel" "told" "[Z", .methodLink RX1 27 yX1_isHeap, .instanceMethod yX1_isHeap, .selects RX1 yX1_isHeap yX1_isHeap, .code yX1_isHeap cX1_isHeap 2 (some .boolean), .fieldLink RX1 20 "SkewMeldsModel" "heaps" "I", .methodLink RX1 38 yX1_placeOf, .instanceMethod yX1_placeOf, .selects RX1 yX1_placeOf yX1_placeOf, .code yX1_placeOf cX1_placeOf 4 (some .int)] ++ wsX10)
def wsX1_meld : List Cond := .code yX1_meld cX1_meld 4 (some .int) :: ([.fieldLink RX1 24 "SkewMeldsModel" "used" "I", .fieldLink RX1 7 "SkewMeldsModel" "owners" "[I", .methodLink RX1 27 yX1_isHeap, .instanceMethod yX1_isHeap, .selects RX1 yX1_isHeap yX1_isHeap, .initialized RX1, .code yX1_isHeap cX1_isHeap 2 (some .boolean), .fieldLink RX1 20 "SkewMeldsModel" "heaps" "I", .methodLink RX1 31 yX1_sizeOf, .instanceMethod yX1_sizeOf, .selects RX1 yX1_sizeOf yX1_sizeOf, .code yX1_sizeOf cX1_sizeOf 4 (some .int)] ++ wsX10)
def wsX1_size : List Cond := .code yX1_size cX1_size 2 (some .int) :: ([.methodLink RX1 27 yX1_isHeap, .instanceMethod yX1_isHeap, .selects RX1 yX1_isHeap yX1_isHeap, .initialized RX1, .code yX1_isHeap cX1_isHeap 2 (some .boolean), .fieldLink RX1 20 "SkewMeldsModel" "heaps" "I", .methodLink RX1 31 yX1_sizeOf, .instanceMethod yX1_sizeOf, .selects RX1 yX1_sizeOf yX1_sizeOf, .code yX1_sizeOf cX1_sizeOf 4 (some .int), .fieldLink RX1 24 "SkewMeldsModel" "used" "I", .fieldLink RX1 7 "SkewMeldsModel" "owners" "[I"] ++ wsX10)
def wsX1_key : List Cond := .code yX1_key cX1_key 4 (some .long) :: ([.constantLong RX1 41 (-9223372036854775808), .fieldLink RX1 16 "SkewMeldsModel" "told" "[Z", .fieldLink RX1 13 "SkewMeldsModel" "keys" "[I", .methodLink RX1 27 yX1_isHeap, .instanceMethod yX1_isHeap, .selects RX1 yX1_isHeap yX1_isHeap, .initialized RX1, .code yX1_isHeap cX1_isHeap 2 (some .boolean), .fieldLink RX1 20 "SkewMeldsModel" "heaps" "I", .methodLink RX1 31 yX1_sizeOf, .instanceMethod yX1_sizeOf, .selects RX1 yX1_sizeOf yX1_sizeOf, .code yX1_sizeOf cX1_sizeOf 4 (some .int), .fieldLink RX1 24 "SkewMeldsModel" "used" "I", .fieldLink RX1 7 "SkewMeldsModel" "owners" "[I", .methodLink RX1 35 yX1_untell, .instanceMethod yX1_untell, .selects RX1 yX1_untell yX1_untell, .code yX1_untell cX1_untell 2 none, .methodLink RX1 38 yX1_placeOf, .instanceMethod yX1_placeOf, .selects RX1 yX1_placeOf yX1_placeOf, .code yX1_placeOf cX1_placeOf 4 (some .int)] ++ wsX10)
def wsX1_sum : List Cond := .code yX1_sum cX1_sum 5 (some .long) :: ([.fieldLink RX1 24 "SkewMeldsModel" "used" "I", .fieldLink RX1 7 "SkewMeldsModel" "owners" "[I", .fieldLink RX1 13 "SkewMeldsModel" "keys" "[I", .methodLink RX1 27 yX1_isHeap, .instanceMethod yX1_isHeap, .selects RX1 yX1_isHeap yX1_isHeap, .initialized RX1, .code yX1_isHeap cX1_isHeap 2 (some .boolean), .fieldLink RX1 20 "SkewMeldsModel" "heaps" "I"] ++ wsX10)
def wsX1_free : List Cond := .code yX1_free cX1_free 1 (some .int) :: ([.fieldLink RX1 24 "SkewMeldsModel" "used" "I"] ++ wsX10)
def wsX1_few : List Cond := .code yX1_few cX1_few 1 (some .boolean) :: ([])
def wsL_law_r1 : List Cond := [Cond.classLink RL 7 RX0, Cond.instantiable RX0 6, Cond.initialized RX0, Cond.classLink RL 10 RX1, Cond.instantiable RX1 5, Cond.initialized RX1, Cond.methodLink RL 9 yX0_init, Cond.instanceMethod yX0_init, Cond.code yX0_init cX0_init 2 none, Cond.methodLink RX0 7 objectInit, Cond.instanceMethod objectInit, Cond.code objectInit ⟨#[0xb1]⟩ 1 none, Cond.arrayClass .int, Cond.fieldLink RX0 13 "SkewMelds" "row" "[I", Cond.fieldLink RX0 21 "SkewMelds" "firstUnused" "I", Cond.constant RX0 29 (2147483647), Cond.methodLink RX0 17 yX0_write, Cond.instanceMethod yX0_write, Cond.selects RX0 yX0_write yX0_write, Cond.code yX0_write cX0_write 3 none, Cond.fieldLink RX0 96 "SkewMelds" "steps" "I", Cond.methodLink RX0 25 yX0_giveBack, Cond.instanceMethod yX0_giveBack, Cond.selects RX0 yX0_giveBack yX0_giveBack]
def wsL_law_r2 : List Cond := [Cond.code yX0_giveBack cX0_giveBack 2 none, Cond.fieldLink RX0 93 "SkewMelds" "unused" "I", Cond.methodLink RX0 30 yX0_begin, Cond.instanceMethod yX0_begin, Cond.selects RX0 yX0_begin yX0_begin, Cond.code yX0_begin cX0_begin 2 none, Cond.fieldLink RX0 99 "SkewMelds" "limit" "I", Cond.methodLink RL 12 yX1_init, Cond.instanceMethod yX1_init, Cond.code yX1_init cX1_init 1 none, Cond.methodLink RX1 1 objectInit, Cond.fieldLink RX1 7 "SkewMeldsModel" "owners" "[I", Cond.fieldLink RX1 13 "SkewMeldsModel" "keys" "[I", Cond.arrayClass .boolean, Cond.fieldLink RX1 16 "SkewMeldsModel" "told" "[Z", Cond.methodLink RL 13 yX0_heap, Cond.instanceMethod yX0_heap, Cond.selects RX0 yX0_heap yX0_heap, Cond.code yX0_heap cX0_heap 1 (some .int), Cond.fieldLink RX0 33 "SkewMelds" "heaps" "I", Cond.methodLink RL 17 yX1_heap, Cond.instanceMethod yX1_heap, Cond.selects RX1 yX1_heap yX1_heap, Cond.code yX1_heap cX1_heap 1 (some .int)]
def wsL_law_r3 : List Cond := [Cond.fieldLink RX1 20 "SkewMeldsModel" "heaps" "I", Cond.methodLink RL 18 yX0_add, Cond.instanceMethod yX0_add, Cond.selects RX0 yX0_add yX0_add, Cond.code yX0_add cX0_add 3 (some .int), Cond.methodLink RX0 36 yX0_exists, Cond.instanceMethod yX0_exists, Cond.selects RX0 yX0_exists yX0_exists, Cond.code yX0_exists cX0_exists 2 (some .boolean), Cond.methodLink RX0 40 yX0_newCell, Cond.instanceMethod yX0_newCell, Cond.selects RX0 yX0_newCell yX0_newCell, Cond.code yX0_newCell cX0_newCell 3 (some .int), Cond.methodLink RX0 47 yX0_read, Cond.instanceMethod yX0_read, Cond.selects RX0 yX0_read yX0_read, Cond.code yX0_read cX0_read 2 (some .int), Cond.methodLink RX0 44 yX0_insertCell, Cond.instanceMethod yX0_insertCell, Cond.selects RX0 yX0_insertCell yX0_insertCell, Cond.code yX0_insertCell cX0_insertCell 6 none, Cond.methodLink RX0 71 yX0_cutTwin, Cond.instanceMethod yX0_cutTwin, Cond.selects RX0 yX0_cutTwin yX0_cutTwin]
def wsL_law_r4 : List Cond := [Cond.code yX0_cutTwin cX0_cutTwin 3 (some .int), Cond.methodLink RX0 77 yX0_cutTop, Cond.instanceMethod yX0_cutTop, Cond.selects RX0 yX0_cutTop yX0_cutTop, Cond.code yX0_cutTop cX0_cutTop 4 (some .int), Cond.methodLink RX0 105 yX0_topAt, Cond.static yX0_topAt, Cond.code yX0_topAt cX0_topAt 2 (some .int), Cond.methodLink RX0 108 yX0_link, Cond.instanceMethod yX0_link, Cond.selects RX0 yX0_link yX0_link, Cond.code yX0_link cX0_link 5 (some .int), Cond.methodLink RX0 114 yX0_hangTree, Cond.instanceMethod yX0_hangTree, Cond.selects RX0 yX0_hangTree yX0_hangTree, Cond.code yX0_hangTree cX0_hangTree 3 none, Cond.methodLink RX0 111 yX0_hangKey, Cond.instanceMethod yX0_hangKey, Cond.selects RX0 yX0_hangKey yX0_hangKey, Cond.code yX0_hangKey cX0_hangKey 5 none, Cond.methodLink RX0 50 yX0_resize, Cond.instanceMethod yX0_resize, Cond.selects RX0 yX0_resize yX0_resize, Cond.code yX0_resize cX0_resize 3 (some .int)]
def wsL_law_r5 : List Cond := [Cond.methodLink RL 22 yX1_add, Cond.instanceMethod yX1_add, Cond.selects RX1 yX1_add yX1_add, Cond.code yX1_add cX1_add 3 (some .int), Cond.fieldLink RX1 24 "SkewMeldsModel" "used" "I", Cond.methodLink RX1 27 yX1_isHeap, Cond.instanceMethod yX1_isHeap, Cond.selects RX1 yX1_isHeap yX1_isHeap, Cond.code yX1_isHeap cX1_isHeap 2 (some .boolean), Cond.methodLink RX1 31 yX1_sizeOf, Cond.instanceMethod yX1_sizeOf, Cond.selects RX1 yX1_sizeOf yX1_sizeOf, Cond.code yX1_sizeOf cX1_sizeOf 4 (some .int), Cond.methodLink RL 23 yX0_least, Cond.instanceMethod yX0_least, Cond.selects RX0 yX0_least yX0_least, Cond.code yX0_least cX0_least 3 (some .long), Cond.constantLong RX0 60 (-9223372036854775808), Cond.methodLink RX0 54 yX0_beginOn, Cond.instanceMethod yX0_beginOn, Cond.selects RX0 yX0_beginOn yX0_beginOn, Cond.code yX0_beginOn cX0_beginOn 2 none, Cond.methodLink RX0 80 yX0_keysIn, Cond.instanceMethod yX0_keysIn]
def wsL_law_r6 : List Cond := [Cond.selects RX0 yX0_keysIn yX0_keysIn, Cond.code yX0_keysIn cX0_keysIn 2 (some .int), Cond.methodLink RX0 102 yX0_limitFor, Cond.static yX0_limitFor, Cond.code yX0_limitFor cX0_limitFor 2 (some .int), Cond.methodLink RX0 57 yX0_leastRoot, Cond.instanceMethod yX0_leastRoot, Cond.selects RX0 yX0_leastRoot yX0_leastRoot, Cond.code yX0_leastRoot cX0_leastRoot 4 (some .int), Cond.methodLink RX0 117 yX0_lesserRoot, Cond.instanceMethod yX0_lesserRoot, Cond.selects RX0 yX0_lesserRoot yX0_lesserRoot, Cond.code yX0_lesserRoot cX0_lesserRoot 3 (some .int), Cond.methodLink RL 27 yX1_least, Cond.instanceMethod yX1_least, Cond.selects RX1 yX1_least yX1_least, Cond.code yX1_least cX1_least 3 (some .long), Cond.constantLong RX1 41 (-9223372036854775808), Cond.methodLink RX1 35 yX1_untell, Cond.instanceMethod yX1_untell, Cond.selects RX1 yX1_untell yX1_untell, Cond.code yX1_untell cX1_untell 2 none, Cond.methodLink RX1 38 yX1_placeOf, Cond.instanceMethod yX1_placeOf]
def wsL_law_r7 : List Cond := [Cond.selects RX1 yX1_placeOf yX1_placeOf, Cond.code yX1_placeOf cX1_placeOf 4 (some .int), Cond.methodLink RL 28 yX0_take, Cond.instanceMethod yX0_take, Cond.selects RX0 yX0_take yX0_take, Cond.code yX0_take cX0_take 5 (some .long), Cond.methodLink RX0 62 yX0_cutRoot, Cond.instanceMethod yX0_cutRoot, Cond.selects RX0 yX0_cutRoot yX0_cutRoot, Cond.code yX0_cutRoot cX0_cutRoot 4 none, Cond.methodLink RX0 74 yX0_place, Cond.instanceMethod yX0_place, Cond.selects RX0 yX0_place yX0_place, Cond.code yX0_place cX0_place 6 none, Cond.methodLink RX0 65 yX0_placeChildren, Cond.instanceMethod yX0_placeChildren, Cond.selects RX0 yX0_placeChildren yX0_placeChildren, Cond.code yX0_placeChildren cX0_placeChildren 6 none, Cond.methodLink RL 31 yX1_take, Cond.instanceMethod yX1_take, Cond.selects RX1 yX1_take yX1_take, Cond.code yX1_take cX1_take 5 (some .long), Cond.methodLink RL 32 yX0_meld, Cond.instanceMethod yX0_meld]
def wsL_law_r8 : List Cond := [Cond.selects RX0 yX0_meld yX0_meld, Cond.code yX0_meld cX0_meld 4 (some .int), Cond.methodLink RX0 68 yX0_beginOnBoth, Cond.instanceMethod yX0_beginOnBoth, Cond.selects RX0 yX0_beginOnBoth yX0_beginOnBoth, Cond.code yX0_beginOnBoth cX0_beginOnBoth 3 none, Cond.methodLink RL 35 yX1_meld, Cond.instanceMethod yX1_meld, Cond.selects RX1 yX1_meld yX1_meld, Cond.code yX1_meld cX1_meld 4 (some .int), Cond.methodLink RL 36 yX0_size, Cond.instanceMethod yX0_size, Cond.selects RX0 yX0_size yX0_size, Cond.code yX0_size cX0_size 2 (some .int), Cond.methodLink RL 40 yX1_size, Cond.instanceMethod yX1_size, Cond.selects RX1 yX1_size yX1_size, Cond.code yX1_size cX1_size 2 (some .int), Cond.methodLink RL 41 yX0_key, Cond.instanceMethod yX0_key, Cond.selects RX0 yX0_key yX0_key, Cond.code yX0_key cX0_key 3 (some .long), Cond.methodLink RX0 83 yX0_listCells, Cond.instanceMethod yX0_listCells]
def wsL_law_r9 : List Cond := [Cond.selects RX0 yX0_listCells yX0_listCells, Cond.code yX0_listCells cX0_listCells 4 (some .int), Cond.methodLink RX0 120 yX0_listChain, Cond.instanceMethod yX0_listChain, Cond.selects RX0 yX0_listChain yX0_listChain, Cond.code yX0_listChain cX0_listChain 7 (some .int), Cond.methodLink RX0 86 yX0_kthListed, Cond.instanceMethod yX0_kthListed, Cond.selects RX0 yX0_kthListed yX0_kthListed, Cond.code yX0_kthListed cX0_kthListed 10 (some .long), Cond.constantLong RX0 124 (-2147483648), Cond.constantLong RX0 126 (2147483647), Cond.methodLink RX0 128 yX0_countUpTo, Cond.instanceMethod yX0_countUpTo, Cond.selects RX0 yX0_countUpTo yX0_countUpTo, Cond.code yX0_countUpTo cX0_countUpTo 6 (some .int), Cond.methodLink RX0 90 yX0_listedKey, Cond.instanceMethod yX0_listedKey, Cond.selects RX0 yX0_listedKey yX0_listedKey, Cond.code yX0_listedKey cX0_listedKey 2 (some .int), Cond.methodLink RL 45 yX1_key, Cond.instanceMethod yX1_key, Cond.selects RX1 yX1_key yX1_key, Cond.code yX1_key cX1_key 4 (some .long)]
def wsL_law_r10 : List Cond := [Cond.methodLink RL 46 yX0_sum, Cond.instanceMethod yX0_sum, Cond.selects RX0 yX0_sum yX0_sum, Cond.code yX0_sum cX0_sum 6 (some .long), Cond.methodLink RL 49 yX1_sum, Cond.instanceMethod yX1_sum, Cond.selects RX1 yX1_sum yX1_sum, Cond.code yX1_sum cX1_sum 5 (some .long), Cond.methodLink RL 50 yX0_free, Cond.instanceMethod yX0_free, Cond.selects RX0 yX0_free yX0_free, Cond.code yX0_free cX0_free 1 (some .int), Cond.methodLink RL 53 yX1_free, Cond.instanceMethod yX1_free, Cond.selects RX1 yX1_free yX1_free, Cond.code yX1_free cX1_free 1 (some .int), Cond.methodLink RL 54 yX0_few, Cond.instanceMethod yX0_few, Cond.selects RX0 yX0_few yX0_few, Cond.code yX0_few cX0_few 2 (some .boolean), Cond.methodLink RL 58 yX1_few, Cond.instanceMethod yX1_few, Cond.selects RX1 yX1_few yX1_few, Cond.code yX1_few cX1_few 1 (some .boolean)]
def wsL_law : List Cond := (wsL_law_r1 ++ (wsL_law_r2 ++ (wsL_law_r3 ++ (wsL_law_r4 ++ (wsL_law_r5 ++ (wsL_law_r6 ++ (wsL_law_r7 ++ (wsL_law_r8 ++ (wsL_law_r9 ++ wsL_law_r10))))))))) ++ wsX00 ++ wsX10 ++ ([] : List Cond)
set_option maxRecDepth 20000 in
theorem wsL_law_in : ∀ w ∈ wsL_law, w ∈ lw_tbl := fun w h => (goodIn_p wsL_law [37, 40, 44, 48, 53, 219, 77, 241, 81, 85, 89, 93, 97, 101, 105, 108, 112, 116, 120, 124, 245, 249, 253, 128, 132, 136, 139, 143, 147, 257, 261, 265, 152, 156, 160, 164, 270, 168, 172, 274, 176, 278, 180, 184, 188, 192, 198, 202, 282, 206, 286, 210, 290, 214, 294] (by decide +kernel) (by decide +kernel) w h).1
theorem inlX0 : ∀ w ∈ wsX00, w ∈ wsL_law := fun _ h => List.mem_append_left _ (List.mem_append_left _ (List.mem_append_right _ h))
theorem inX0 : ∀ w ∈ wsX00, w ∈ lw_tbl := fun w h => wsL_law_in w (inlX0 w h)
theorem inlX1 : ∀ w ∈ wsX10, w ∈ wsL_law := fun _ h => List.mem_append_left _ (List.mem_append_right _ h)
theorem inX1 : ∀ w ∈ wsX10, w ∈ lw_tbl := fun w h => wsL_law_in w (inlX1 w h)
set_option maxRecDepth 20000 in
theorem ggX0_init_X0_write : GoodIn wsX0_init wsX0_write := goodIn_r _ [12, 5, 13, 24, 25, 26, 27, 28, 29] (by decide +kernel) (by decide +kernel)
set_option maxRecDepth 20000 in
theorem gX0_init_X0_write : GoodIn wsX0_init (wsV RX0 17 RX0 yX0_write wsX0_write) := goodIn_app (goodIn_of _ (by decide +kernel)) ggX0_init_X0_write
set_option maxRecDepth 20000 in
theorem ggX0_init_X0_giveBack : GoodIn wsX0_init wsX0_giveBack := goodIn_r _ [17, 6, 18, 8, 9, 10, 11, 12, 5, 13, 24, 25, 26, 27, 28, 29] (by decide +kernel) (by decide +kernel)
set_option maxRecDepth 20000 in
theorem gX0_init_X0_giveBack : GoodIn wsX0_init (wsV RX0 25 RX0 yX0_giveBack wsX0_giveBack) := goodIn_app (goodIn_of _ (by decide +kernel)) ggX0_init_X0_giveBack
set_option maxRecDepth 20000 in
theorem ggX0_init_X0_begin : GoodIn wsX0_init wsX0_begin := goodIn_r _ [22, 13, 23, 24, 25, 26, 27, 28, 29] (by decide +kernel) (by decide +kernel)
set_option maxRecDepth 20000 in
theorem gX0_init_X0_begin : GoodIn wsX0_init (wsV RX0 30 RX0 yX0_begin wsX0_begin) := goodIn_app (goodIn_of _ (by decide +kernel)) ggX0_init_X0_begin
theorem dX0_init_0 : decode cX0_init 0 = .ok (.aload_n 0, 1) := by decide +kernel
theorem dX0_init_1 : decode cX0_init 1 = .ok (.invokespecial 7, 3) := by decide +kernel
theorem dX0_init_4 : decode cX0_init 4 = .ok (.aload_n 0, 1) := by decide +kernel
theorem dX0_init_5 : decode cX0_init 5 = .ok (.sipush 1080, 3) := by decide +kernel
theorem dX0_init_8 : decode cX0_init 8 = .ok (.newarray .int, 2) := by decide +kernel
theorem dX0_init_10 : decode cX0_init 10 = .ok (.putfield 13, 3) := by decide +kernel
theorem dX0_init_13 : decode cX0_init 13 = .ok (.sipush 1000, 3) := by decide +kernel
theorem dX0_init_16 : decode cX0_init 16 = .ok (.istore_n 1, 1) := by decide +kernel
theorem dX0_init_17 : decode cX0_init 17 = .ok (.iload_n 1, 1) := by decide +kernel
theorem dX0_init_18 : decode cX0_init 18 = .ok (.sipush 1072, 3) := by decide +kernel
theorem dX0_init_21 : decode cX0_init 21 = .ok (.if_icmp .ge 15, 3) := by decide +kernel
theorem dX0_init_24 : decode cX0_init 24 = .ok (.aload_n 0, 1) := by decide +kernel
theorem dX0_init_25 : decode cX0_init 25 = .ok (.iload_n 1, 1) := by decide +kernel
theorem dX0_init_26 : decode cX0_init 26 = .ok (.iconst (-1), 1) := by decide +kernel
theorem dX0_init_27 : decode cX0_init 27 = .ok (.invokevirtual 17, 3) := by decide +kernel
theorem dX0_init_30 : decode cX0_init 30 = .ok (.iinc 1 1, 3) := by decide +kernel
theorem dX0_init_33 : decode cX0_init 33 = .ok (.goto (-16), 3) := by decide +kernel
theorem dX0_init_36 : decode cX0_init 36 = .ok (.aload_n 0, 1) := by decide +kernel
theorem dX0_init_37 : decode cX0_init 37 = .ok (.iconst (-1), 1) := by decide +kernel
theorem dX0_init_38 : decode cX0_init 38 = .ok (.putfield 21, 3) := by decide +kernel
theorem dX0_init_41 : decode cX0_init 41 = .ok (.sipush 199, 3) := by decide +kernel
theorem dX0_init_44 : decode cX0_init 44 = .ok (.istore_n 1, 1) := by decide +kernel
theorem dX0_init_45 : decode cX0_init 45 = .ok (.iload_n 1, 1) := by decide +kernel
theorem dX0_init_46 : decode cX0_init 46 = .ok (.ifCond .lt 14, 3) := by decide +kernel
theorem dX0_init_49 : decode cX0_init 49 = .ok (.aload_n 0, 1) := by decide +kernel
theorem dX0_init_50 : decode cX0_init 50 = .ok (.iload_n 1, 1) := by decide +kernel
theorem dX0_init_51 : decode cX0_init 51 = .ok (.invokevirtual 25, 3) := by decide +kernel
theorem dX0_init_54 : decode cX0_init 54 = .ok (.iinc 1 (-1), 3) := by decide +kernel
theorem dX0_init_57 : decode cX0_init 57 = .ok (.goto (-12), 3) := by decide +kernel
theorem dX0_init_60 : decode cX0_init 60 = .ok (.aload_n 0, 1) := by decide +kernel
theorem dX0_init_61 : decode cX0_init 61 = .ok (.ldc 29, 2) := by decide +kernel
theorem dX0_init_63 : decode cX0_init 63 = .ok (.invokevirtual 30, 3) := by decide +kernel
theorem dX0_init_66 : decode cX0_init 66 = .ok (.return_, 1) := by decide +kernel
set_option maxRecDepth 20000 in
theorem ggX0_heap_X0_begin : GoodIn wsX0_heap wsX0_begin := goodIn_r _ [7, 8, 9, 10, 11, 12, 13, 14, 15] (by decide +kernel) (by decide +kernel)
set_option maxRecDepth 20000 in
theorem gX0_heap_X0_begin : GoodIn wsX0_heap (wsV RX0 30 RX0 yX0_begin wsX0_begin) := goodIn_app (goodIn_of _ (by decide +kernel)) ggX0_heap_X0_begin
theorem dX0_heap_0 : decode cX0_heap 0 = .ok (.aload_n 0, 1) := by decide +kernel
theorem dX0_heap_1 : decode cX0_heap 1 = .ok (.ldc 29, 2) := by decide +kernel
theorem dX0_heap_3 : decode cX0_heap 3 = .ok (.invokevirtual 30, 3) := by decide +kernel
theorem dX0_heap_6 : decode cX0_heap 6 = .ok (.aload_n 0, 1) := by decide +kernel
theorem dX0_heap_7 : decode cX0_heap 7 = .ok (.getfield 33, 3) := by decide +kernel
theorem dX0_heap_10 : decode cX0_heap 10 = .ok (.bipush 8, 2) := by decide +kernel
theorem dX0_heap_12 : decode cX0_heap 12 = .ok (.if_icmp .lt 5, 3) := by decide +kernel
theorem dX0_heap_15 : decode cX0_heap 15 = .ok (.iconst (-1), 1) := by decide +kernel
theorem dX0_heap_16 : decode cX0_heap 16 = .ok (.ireturn, 1) := by decide +kernel
theorem dX0_heap_17 : decode cX0_heap 17 = .ok (.aload_n 0, 1) := by decide +kernel
theorem dX0_heap_18 : decode cX0_heap 18 = .ok (.dup, 1) := by decide +kernel
theorem dX0_heap_19 : decode cX0_heap 19 = .ok (.getfield 33, 3) := by decide +kernel
theorem dX0_heap_22 : decode cX0_heap 22 = .ok (.iconst 1, 1) := by decide +kernel
theorem dX0_heap_23 : decode cX0_heap 23 = .ok (.iadd, 1) := by decide +kernel
theorem dX0_heap_24 : decode cX0_heap 24 = .ok (.putfield 33, 3) := by decide +kernel
theorem dX0_heap_27 : decode cX0_heap 27 = .ok (.aload_n 0, 1) := by decide +kernel
theorem dX0_heap_28 : decode cX0_heap 28 = .ok (.getfield 33, 3) := by decide +kernel
theorem dX0_heap_31 : decode cX0_heap 31 = .ok (.iconst 1, 1) := by decide +kernel
theorem dX0_heap_32 : decode cX0_heap 32 = .ok (.isub, 1) := by decide +kernel
theorem dX0_heap_33 : decode cX0_heap 33 = .ok (.ireturn, 1) := by decide +kernel
set_option maxRecDepth 20000 in
theorem ggX0_add_X0_begin : GoodIn wsX0_add wsX0_begin := goodIn_r _ [6, 7, 8, 59, 60, 61, 62, 63, 64] (by decide +kernel) (by decide +kernel)
set_option maxRecDepth 20000 in
theorem gX0_add_X0_begin : GoodIn wsX0_add (wsV RX0 30 RX0 yX0_begin wsX0_begin) := goodIn_app (goodIn_of _ (by decide +kernel)) ggX0_add_X0_begin
set_option maxRecDepth 20000 in
theorem ggX0_add_X0_exists : GoodIn wsX0_add wsX0_exists := goodIn_r _ [12, 13, 59, 60, 61, 62, 63, 64] (by decide +kernel) (by decide +kernel)
set_option maxRecDepth 20000 in
theorem gX0_add_X0_exists : GoodIn wsX0_add (wsV RX0 36 RX0 yX0_exists wsX0_exists) := goodIn_app (goodIn_of _ (by decide +kernel)) ggX0_add_X0_exists
set_option maxRecDepth 20000 in
theorem ggX0_add_X0_newCell : GoodIn wsX0_add wsX0_newCell := goodIn_r _ [17, 1, 18, 19, 20, 21, 5, 22, 23, 7, 24, 25, 26, 27, 59, 60, 61, 62, 63, 64] (by decide +kernel) (by decide +kernel)
set_option maxRecDepth 20000 in
theorem gX0_add_X0_newCell : GoodIn wsX0_add (wsV RX0 40 RX0 yX0_newCell wsX0_newCell) := goodIn_app (goodIn_of _ (by decide +kernel)) ggX0_add_X0_newCell
set_option maxRecDepth 20000 in
theorem ggX0_add_X0_insertCell : GoodIn wsX0_add wsX0_insertCell := goodIn_r _ [31, 32, 33, 34, 5, 35, 19, 20, 21, 22, 23, 7, 24, 25, 26, 27, 36, 37, 38, 39, 40, 41, 42, 43, 44, 45, 46, 47, 48, 49, 50, 51, 52, 53, 54, 59, 60, 61, 62, 63, 64] (by decide +kernel) (by decide +kernel)
set_option maxRecDepth 20000 in
theorem gX0_add_X0_insertCell : GoodIn wsX0_add (wsV RX0 44 RX0 yX0_insertCell wsX0_insertCell) := goodIn_app (goodIn_of _ (by decide +kernel)) ggX0_add_X0_insertCell
set_option maxRecDepth 20000 in
theorem ggX0_add_X0_read : GoodIn wsX0_add wsX0_read := goodIn_r _ [22, 23, 7, 59, 60, 61, 62, 63, 64] (by decide +kernel) (by decide +kernel)
set_option maxRecDepth 20000 in
theorem gX0_add_X0_read : GoodIn wsX0_add (wsV RX0 47 RX0 yX0_read wsX0_read) := goodIn_app (goodIn_of _ (by decide +kernel)) ggX0_add_X0_read
set_option maxRecDepth 20000 in
theorem ggX0_add_X0_resize : GoodIn wsX0_add wsX0_resize := goodIn_r _ [58, 24, 25, 26, 5, 27, 23, 7, 59, 60, 61, 62, 63, 64] (by decide +kernel) (by decide +kernel)
set_option maxRecDepth 20000 in
theorem gX0_add_X0_resize : GoodIn wsX0_add (wsV RX0 50 RX0 yX0_resize wsX0_resize) := goodIn_app (goodIn_of _ (by decide +kernel)) ggX0_add_X0_resize
theorem dX0_add_0 : decode cX0_add 0 = .ok (.aload_n 0, 1) := by decide +kernel
theorem dX0_add_1 : decode cX0_add 1 = .ok (.bipush 100, 2) := by decide +kernel
theorem dX0_add_3 : decode cX0_add 3 = .ok (.invokevirtual 30, 3) := by decide +kernel
theorem dX0_add_6 : decode cX0_add 6 = .ok (.aload_n 0, 1) := by decide +kernel
theorem dX0_add_7 : decode cX0_add 7 = .ok (.iload_n 1, 1) := by decide +kernel
theorem dX0_add_8 : decode cX0_add 8 = .ok (.invokevirtual 36, 3) := by decide +kernel
theorem dX0_add_11 : decode cX0_add 11 = .ok (.ifCond .ne 5, 3) := by decide +kernel
theorem dX0_add_14 : decode cX0_add 14 = .ok (.iconst (-1), 1) := by decide +kernel
theorem dX0_add_15 : decode cX0_add 15 = .ok (.ireturn, 1) := by decide +kernel
theorem dX0_add_16 : decode cX0_add 16 = .ok (.aload_n 0, 1) := by decide +kernel
theorem dX0_add_17 : decode cX0_add 17 = .ok (.getfield 21, 3) := by decide +kernel
theorem dX0_add_20 : decode cX0_add 20 = .ok (.iconst (-1), 1) := by decide +kernel
theorem dX0_add_21 : decode cX0_add 21 = .ok (.if_icmp .ne 6, 3) := by decide +kernel
theorem dX0_add_24 : decode cX0_add 24 = .ok (.bipush (-2), 2) := by decide +kernel
theorem dX0_add_26 : decode cX0_add 26 = .ok (.ireturn, 1) := by decide +kernel
theorem dX0_add_27 : decode cX0_add 27 = .ok (.aload_n 0, 1) := by decide +kernel
theorem dX0_add_28 : decode cX0_add 28 = .ok (.iload_n 1, 1) := by decide +kernel
theorem dX0_add_29 : decode cX0_add 29 = .ok (.aload_n 0, 1) := by decide +kernel
theorem dX0_add_30 : decode cX0_add 30 = .ok (.iload_n 2, 1) := by decide +kernel
theorem dX0_add_31 : decode cX0_add 31 = .ok (.invokevirtual 40, 3) := by decide +kernel
theorem dX0_add_34 : decode cX0_add 34 = .ok (.invokevirtual 44, 3) := by decide +kernel
theorem dX0_add_37 : decode cX0_add 37 = .ok (.aload_n 0, 1) := by decide +kernel
theorem dX0_add_38 : decode cX0_add 38 = .ok (.iload_n 1, 1) := by decide +kernel
theorem dX0_add_39 : decode cX0_add 39 = .ok (.aload_n 0, 1) := by decide +kernel
theorem dX0_add_40 : decode cX0_add 40 = .ok (.sipush 1072, 3) := by decide +kernel
theorem dX0_add_43 : decode cX0_add 43 = .ok (.iload_n 1, 1) := by decide +kernel
theorem dX0_add_44 : decode cX0_add 44 = .ok (.iadd, 1) := by decide +kernel
theorem dX0_add_45 : decode cX0_add 45 = .ok (.invokevirtual 47, 3) := by decide +kernel
theorem dX0_add_48 : decode cX0_add 48 = .ok (.iconst 1, 1) := by decide +kernel
theorem dX0_add_49 : decode cX0_add 49 = .ok (.iadd, 1) := by decide +kernel
theorem dX0_add_50 : decode cX0_add 50 = .ok (.invokevirtual 50, 3) := by decide +kernel
theorem dX0_add_53 : decode cX0_add 53 = .ok (.ireturn, 1) := by decide +kernel
set_option maxRecDepth 20000 in
theorem ggX0_least_X0_beginOn : GoodIn wsX0_least wsX0_beginOn := goodIn_r _ [6, 7, 8, 9, 10, 11, 5, 12, 13, 14, 15, 16, 17, 18, 19, 20, 21, 22, 23, 24, 25, 37, 38, 39, 40, 41, 42] (by decide +kernel) (by decide +kernel)
set_option maxRecDepth 20000 in
theorem gX0_least_X0_beginOn : GoodIn wsX0_least (wsV RX0 54 RX0 yX0_beginOn wsX0_beginOn) := goodIn_app (goodIn_of _ (by decide +kernel)) ggX0_least_X0_beginOn
set_option maxRecDepth 20000 in
theorem ggX0_least_X0_leastRoot : GoodIn wsX0_least wsX0_leastRoot := goodIn_r _ [29, 13, 14, 15, 5, 16, 17, 18, 19, 20, 21, 22, 7, 30, 31, 32, 33, 34, 35, 36, 37, 38, 39, 40, 41, 42] (by decide +kernel) (by decide +kernel)
set_option maxRecDepth 20000 in
theorem gX0_least_X0_leastRoot : GoodIn wsX0_least (wsV RX0 57 RX0 yX0_leastRoot wsX0_leastRoot) := goodIn_app (goodIn_of _ (by decide +kernel)) ggX0_least_X0_leastRoot
set_option maxRecDepth 20000 in
theorem ggX0_least_X0_read : GoodIn wsX0_least wsX0_read := goodIn_r _ [21, 22, 7, 37, 38, 39, 40, 41, 42] (by decide +kernel) (by decide +kernel)
set_option maxRecDepth 20000 in
theorem gX0_least_X0_read : GoodIn wsX0_least (wsV RX0 47 RX0 yX0_read wsX0_read) := goodIn_app (goodIn_of _ (by decide +kernel)) ggX0_least_X0_read
theorem dX0_least_0 : decode cX0_least 0 = .ok (.aload_n 0, 1) := by decide +kernel
theorem dX0_least_1 : decode cX0_least 1 = .ok (.iload_n 1, 1) := by decide +kernel
theorem dX0_least_2 : decode cX0_least 2 = .ok (.invokevirtual 54, 3) := by decide +kernel
theorem dX0_least_5 : decode cX0_least 5 = .ok (.aload_n 0, 1) := by decide +kernel
theorem dX0_least_6 : decode cX0_least 6 = .ok (.iload_n 1, 1) := by decide +kernel
theorem dX0_least_7 : decode cX0_least 7 = .ok (.invokevirtual 57, 3) := by decide +kernel
theorem dX0_least_10 : decode cX0_least 10 = .ok (.istore_n 2, 1) := by decide +kernel
theorem dX0_least_11 : decode cX0_least 11 = .ok (.iload_n 2, 1) := by decide +kernel
theorem dX0_least_12 : decode cX0_least 12 = .ok (.iconst (-1), 1) := by decide +kernel
theorem dX0_least_13 : decode cX0_least 13 = .ok (.if_icmp .ne 9, 3) := by decide +kernel
theorem dX0_least_16 : decode cX0_least 16 = .ok (.ldc2_w 60, 3) := by decide +kernel
theorem dX0_least_19 : decode cX0_least 19 = .ok (.goto 11, 3) := by decide +kernel
theorem dX0_least_22 : decode cX0_least 22 = .ok (.aload_n 0, 1) := by decide +kernel
theorem dX0_least_23 : decode cX0_least 23 = .ok (.iconst 0, 1) := by decide +kernel
theorem dX0_least_24 : decode cX0_least 24 = .ok (.iload_n 2, 1) := by decide +kernel
theorem dX0_least_25 : decode cX0_least 25 = .ok (.iadd, 1) := by decide +kernel
theorem dX0_least_26 : decode cX0_least 26 = .ok (.invokevirtual 47, 3) := by decide +kernel
theorem dX0_least_29 : decode cX0_least 29 = .ok (.i2l, 1) := by decide +kernel
theorem dX0_least_30 : decode cX0_least 30 = .ok (.lreturn, 1) := by decide +kernel
set_option maxRecDepth 20000 in
theorem ggX0_take_X0_beginOn : GoodIn wsX0_take wsX0_beginOn := goodIn_r _ [6, 7, 8, 9, 10, 11, 5, 12, 13, 14, 15, 16, 17, 18, 19, 20, 21, 22, 23, 24, 25, 79, 80, 81, 82, 83, 84] (by decide +kernel) (by decide +kernel)
set_option maxRecDepth 20000 in
theorem gX0_take_X0_beginOn : GoodIn wsX0_take (wsV RX0 54 RX0 yX0_beginOn wsX0_beginOn) := goodIn_app (goodIn_of _ (by decide +kernel)) ggX0_take_X0_beginOn
set_option maxRecDepth 20000 in
theorem ggX0_take_X0_leastRoot : GoodIn wsX0_take wsX0_leastRoot := goodIn_r _ [29, 13, 14, 15, 5, 16, 17, 18, 19, 20, 21, 22, 7, 30, 31, 32, 33, 34, 35, 36, 79, 80, 81, 82, 83, 84] (by decide +kernel) (by decide +kernel)
set_option maxRecDepth 20000 in
theorem gX0_take_X0_leastRoot : GoodIn wsX0_take (wsV RX0 57 RX0 yX0_leastRoot wsX0_leastRoot) := goodIn_app (goodIn_of _ (by decide +kernel)) ggX0_take_X0_leastRoot
set_option maxRecDepth 20000 in
theorem ggX0_take_X0_read : GoodIn wsX0_take wsX0_read := goodIn_r _ [21, 22, 7, 79, 80, 81, 82, 83, 84] (by decide +kernel) (by decide +kernel)
set_option maxRecDepth 20000 in
theorem gX0_take_X0_read : GoodIn wsX0_take (wsV RX0 47 RX0 yX0_read wsX0_read) := goodIn_app (goodIn_of _ (by decide +kernel)) ggX0_take_X0_read
set_option maxRecDepth 20000 in
theorem ggX0_take_X0_cutRoot : GoodIn wsX0_take wsX0_cutRoot := goodIn_r _ [40, 41, 42, 43, 5, 44, 18, 19, 20, 21, 22, 7, 45, 46, 47, 48, 49, 50, 51, 52, 30, 31, 32, 53, 54, 55, 56, 57, 58, 59, 60, 61, 62, 63, 64, 79, 80, 81, 82, 83, 84] (by decide +kernel) (by decide +kernel)
set_option maxRecDepth 20000 in
theorem gX0_take_X0_cutRoot : GoodIn wsX0_take (wsV RX0 62 RX0 yX0_cutRoot wsX0_cutRoot) := goodIn_app (goodIn_of _ (by decide +kernel)) ggX0_take_X0_cutRoot
set_option maxRecDepth 20000 in
theorem ggX0_take_X0_placeChildren : GoodIn wsX0_take wsX0_placeChildren := goodIn_r _ [68, 18, 19, 20, 5, 21, 22, 7, 53, 54, 55, 56, 49, 50, 51, 52, 30, 31, 32, 45, 46, 47, 48, 57, 58, 59, 60, 61, 62, 63, 64, 79, 80, 81, 82, 83, 84] (by decide +kernel) (by decide +kernel)
set_option maxRecDepth 20000 in
theorem gX0_take_X0_placeChildren : GoodIn wsX0_take (wsV RX0 65 RX0 yX0_placeChildren wsX0_placeChildren) := goodIn_app (goodIn_of _ (by decide +kernel)) ggX0_take_X0_placeChildren
set_option maxRecDepth 20000 in
theorem ggX0_take_X0_giveBack : GoodIn wsX0_take wsX0_giveBack := goodIn_r _ [72, 73, 74, 45, 46, 47, 5, 48, 22, 7, 79, 80, 81, 82, 83, 84] (by decide +kernel) (by decide +kernel)
set_option maxRecDepth 20000 in
theorem gX0_take_X0_giveBack : GoodIn wsX0_take (wsV RX0 25 RX0 yX0_giveBack wsX0_giveBack) := goodIn_app (goodIn_of _ (by decide +kernel)) ggX0_take_X0_giveBack
set_option maxRecDepth 20000 in
theorem ggX0_take_X0_resize : GoodIn wsX0_take wsX0_resize := goodIn_r _ [78, 45, 46, 47, 5, 48, 22, 7, 79, 80, 81, 82, 83, 84] (by decide +kernel) (by decide +kernel)
set_option maxRecDepth 20000 in
theorem gX0_take_X0_resize : GoodIn wsX0_take (wsV RX0 50 RX0 yX0_resize wsX0_resize) := goodIn_app (goodIn_of _ (by decide +kernel)) ggX0_take_X0_resize
theorem dX0_take_0 : decode cX0_take 0 = .ok (.aload_n 0, 1) := by decide +kernel
theorem dX0_take_1 : decode cX0_take 1 = .ok (.iload_n 1, 1) := by decide +kernel
theorem dX0_take_2 : decode cX0_take 2 = .ok (.invokevirtual 54, 3) := by decide +kernel
theorem dX0_take_5 : decode cX0_take 5 = .ok (.aload_n 0, 1) := by decide +kernel
theorem dX0_take_6 : decode cX0_take 6 = .ok (.iload_n 1, 1) := by decide +kernel
theorem dX0_take_7 : decode cX0_take 7 = .ok (.invokevirtual 57, 3) := by decide +kernel
theorem dX0_take_10 : decode cX0_take 10 = .ok (.istore_n 2, 1) := by decide +kernel
theorem dX0_take_11 : decode cX0_take 11 = .ok (.iload_n 2, 1) := by decide +kernel
theorem dX0_take_12 : decode cX0_take 12 = .ok (.iconst (-1), 1) := by decide +kernel
theorem dX0_take_13 : decode cX0_take 13 = .ok (.if_icmp .ne 7, 3) := by decide +kernel
theorem dX0_take_16 : decode cX0_take 16 = .ok (.ldc2_w 60, 3) := by decide +kernel
theorem dX0_take_19 : decode cX0_take 19 = .ok (.lreturn, 1) := by decide +kernel
theorem dX0_take_20 : decode cX0_take 20 = .ok (.aload_n 0, 1) := by decide +kernel
theorem dX0_take_21 : decode cX0_take 21 = .ok (.iconst 0, 1) := by decide +kernel
theorem dX0_take_22 : decode cX0_take 22 = .ok (.iload_n 2, 1) := by decide +kernel
theorem dX0_take_23 : decode cX0_take 23 = .ok (.iadd, 1) := by decide +kernel
theorem dX0_take_24 : decode cX0_take 24 = .ok (.invokevirtual 47, 3) := by decide +kernel
theorem dX0_take_27 : decode cX0_take 27 = .ok (.i2l, 1) := by decide +kernel
theorem dX0_take_28 : decode cX0_take 28 = .ok (.lstore_n 3, 1) := by decide +kernel
theorem dX0_take_29 : decode cX0_take 29 = .ok (.aload_n 0, 1) := by decide +kernel
theorem dX0_take_30 : decode cX0_take 30 = .ok (.iload_n 1, 1) := by decide +kernel
theorem dX0_take_31 : decode cX0_take 31 = .ok (.iload_n 2, 1) := by decide +kernel
theorem dX0_take_32 : decode cX0_take 32 = .ok (.invokevirtual 62, 3) := by decide +kernel
theorem dX0_take_35 : decode cX0_take 35 = .ok (.aload_n 0, 1) := by decide +kernel
theorem dX0_take_36 : decode cX0_take 36 = .ok (.iload_n 1, 1) := by decide +kernel
theorem dX0_take_37 : decode cX0_take 37 = .ok (.iload_n 2, 1) := by decide +kernel
theorem dX0_take_38 : decode cX0_take 38 = .ok (.invokevirtual 65, 3) := by decide +kernel
theorem dX0_take_41 : decode cX0_take 41 = .ok (.aload_n 0, 1) := by decide +kernel
theorem dX0_take_42 : decode cX0_take 42 = .ok (.iload_n 2, 1) := by decide +kernel
theorem dX0_take_43 : decode cX0_take 43 = .ok (.invokevirtual 25, 3) := by decide +kernel
theorem dX0_take_46 : decode cX0_take 46 = .ok (.aload_n 0, 1) := by decide +kernel
theorem dX0_take_47 : decode cX0_take 47 = .ok (.iload_n 1, 1) := by decide +kernel
theorem dX0_take_48 : decode cX0_take 48 = .ok (.aload_n 0, 1) := by decide +kernel
theorem dX0_take_49 : decode cX0_take 49 = .ok (.sipush 1072, 3) := by decide +kernel
theorem dX0_take_52 : decode cX0_take 52 = .ok (.iload_n 1, 1) := by decide +kernel
theorem dX0_take_53 : decode cX0_take 53 = .ok (.iadd, 1) := by decide +kernel
theorem dX0_take_54 : decode cX0_take 54 = .ok (.invokevirtual 47, 3) := by decide +kernel
theorem dX0_take_57 : decode cX0_take 57 = .ok (.iconst 1, 1) := by decide +kernel
theorem dX0_take_58 : decode cX0_take 58 = .ok (.isub, 1) := by decide +kernel
theorem dX0_take_59 : decode cX0_take 59 = .ok (.invokevirtual 50, 3) := by decide +kernel
theorem dX0_take_62 : decode cX0_take 62 = .ok (.pop, 1) := by decide +kernel
theorem dX0_take_63 : decode cX0_take 63 = .ok (.lload_n 3, 1) := by decide +kernel
theorem dX0_take_64 : decode cX0_take 64 = .ok (.lreturn, 1) := by decide +kernel
set_option maxRecDepth 20000 in
theorem ggX0_meld_X0_beginOnBoth : GoodIn wsX0_meld wsX0_beginOnBoth := goodIn_r _ [5, 6, 7, 8, 9, 10, 4, 11, 12, 13, 14, 15, 16, 17, 18, 19, 20, 21, 22, 23, 24, 56, 57, 58, 59, 60, 61] (by decide +kernel) (by decide +kernel)
set_option maxRecDepth 20000 in
theorem gX0_meld_X0_beginOnBoth : GoodIn wsX0_meld (wsV RX0 68 RX0 yX0_beginOnBoth wsX0_beginOnBoth) := goodIn_app (goodIn_of _ (by decide +kernel)) ggX0_meld_X0_beginOnBoth
set_option maxRecDepth 20000 in
theorem ggX0_meld_X0_exists : GoodIn wsX0_meld wsX0_exists := goodIn_r _ [15, 16, 56, 57, 58, 59, 60, 61] (by decide +kernel) (by decide +kernel)
set_option maxRecDepth 20000 in
theorem gX0_meld_X0_exists : GoodIn wsX0_meld (wsV RX0 36 RX0 yX0_exists wsX0_exists) := goodIn_app (goodIn_of _ (by decide +kernel)) ggX0_meld_X0_exists
set_option maxRecDepth 20000 in
theorem ggX0_meld_X0_cutTwin : GoodIn wsX0_meld wsX0_cutTwin := goodIn_r _ [28, 17, 18, 19, 4, 20, 21, 6, 29, 30, 31, 32, 56, 57, 58, 59, 60, 61] (by decide +kernel) (by decide +kernel)
set_option maxRecDepth 20000 in
theorem gX0_meld_X0_cutTwin : GoodIn wsX0_meld (wsV RX0 71 RX0 yX0_cutTwin wsX0_cutTwin) := goodIn_app (goodIn_of _ (by decide +kernel)) ggX0_meld_X0_cutTwin
set_option maxRecDepth 20000 in
theorem ggX0_meld_X0_place : GoodIn wsX0_meld wsX0_place := goodIn_r _ [36, 17, 18, 19, 4, 20, 21, 6, 37, 38, 39, 40, 41, 42, 43, 29, 30, 31, 32, 44, 45, 46, 47, 48, 49, 50, 51, 56, 57, 58, 59, 60, 61] (by decide +kernel) (by decide +kernel)
set_option maxRecDepth 20000 in
theorem gX0_meld_X0_place : GoodIn wsX0_meld (wsV RX0 74 RX0 yX0_place wsX0_place) := goodIn_app (goodIn_of _ (by decide +kernel)) ggX0_meld_X0_place
set_option maxRecDepth 20000 in
theorem ggX0_meld_X0_cutTop : GoodIn wsX0_meld wsX0_cutTop := goodIn_r _ [40, 41, 42, 4, 43, 17, 18, 19, 20, 21, 6, 29, 30, 31, 32, 56, 57, 58, 59, 60, 61] (by decide +kernel) (by decide +kernel)
set_option maxRecDepth 20000 in
theorem gX0_meld_X0_cutTop : GoodIn wsX0_meld (wsV RX0 77 RX0 yX0_cutTop wsX0_cutTop) := goodIn_app (goodIn_of _ (by decide +kernel)) ggX0_meld_X0_cutTop
set_option maxRecDepth 20000 in
theorem ggX0_meld_X0_read : GoodIn wsX0_meld wsX0_read := goodIn_r _ [20, 21, 6, 56, 57, 58, 59, 60, 61] (by decide +kernel) (by decide +kernel)
set_option maxRecDepth 20000 in
theorem gX0_meld_X0_read : GoodIn wsX0_meld (wsV RX0 47 RX0 yX0_read wsX0_read) := goodIn_app (goodIn_of _ (by decide +kernel)) ggX0_meld_X0_read
set_option maxRecDepth 20000 in
theorem ggX0_meld_X0_resize : GoodIn wsX0_meld wsX0_resize := goodIn_r _ [55, 29, 30, 31, 4, 32, 21, 6, 56, 57, 58, 59, 60, 61] (by decide +kernel) (by decide +kernel)
set_option maxRecDepth 20000 in
theorem gX0_meld_X0_resize : GoodIn wsX0_meld (wsV RX0 50 RX0 yX0_resize wsX0_resize) := goodIn_app (goodIn_of _ (by decide +kernel)) ggX0_meld_X0_resize
theorem dX0_meld_0 : decode cX0_meld 0 = .ok (.aload_n 0, 1) := by decide +kernel
theorem dX0_meld_1 : decode cX0_meld 1 = .ok (.iload_n 1, 1) := by decide +kernel
theorem dX0_meld_2 : decode cX0_meld 2 = .ok (.iload_n 2, 1) := by decide +kernel
theorem dX0_meld_3 : decode cX0_meld 3 = .ok (.invokevirtual 68, 3) := by decide +kernel
theorem dX0_meld_6 : decode cX0_meld 6 = .ok (.aload_n 0, 1) := by decide +kernel
theorem dX0_meld_7 : decode cX0_meld 7 = .ok (.iload_n 1, 1) := by decide +kernel
theorem dX0_meld_8 : decode cX0_meld 8 = .ok (.invokevirtual 36, 3) := by decide +kernel
theorem dX0_meld_11 : decode cX0_meld 11 = .ok (.ifCond .eq 16, 3) := by decide +kernel
theorem dX0_meld_14 : decode cX0_meld 14 = .ok (.aload_n 0, 1) := by decide +kernel
theorem dX0_meld_15 : decode cX0_meld 15 = .ok (.iload_n 2, 1) := by decide +kernel
theorem dX0_meld_16 : decode cX0_meld 16 = .ok (.invokevirtual 36, 3) := by decide +kernel
theorem dX0_meld_19 : decode cX0_meld 19 = .ok (.ifCond .eq 8, 3) := by decide +kernel
theorem dX0_meld_22 : decode cX0_meld 22 = .ok (.iload_n 1, 1) := by decide +kernel
theorem dX0_meld_23 : decode cX0_meld 23 = .ok (.iload_n 2, 1) := by decide +kernel
theorem dX0_meld_24 : decode cX0_meld 24 = .ok (.if_icmp .ne 5, 3) := by decide +kernel
theorem dX0_meld_27 : decode cX0_meld 27 = .ok (.iconst (-1), 1) := by decide +kernel
theorem dX0_meld_28 : decode cX0_meld 28 = .ok (.ireturn, 1) := by decide +kernel
theorem dX0_meld_29 : decode cX0_meld 29 = .ok (.aload_n 0, 1) := by decide +kernel
theorem dX0_meld_30 : decode cX0_meld 30 = .ok (.iload_n 1, 1) := by decide +kernel
theorem dX0_meld_31 : decode cX0_meld 31 = .ok (.aload_n 0, 1) := by decide +kernel
theorem dX0_meld_32 : decode cX0_meld 32 = .ok (.iload_n 1, 1) := by decide +kernel
theorem dX0_meld_33 : decode cX0_meld 33 = .ok (.invokevirtual 71, 3) := by decide +kernel
theorem dX0_meld_36 : decode cX0_meld 36 = .ok (.invokevirtual 74, 3) := by decide +kernel
theorem dX0_meld_39 : decode cX0_meld 39 = .ok (.aload_n 0, 1) := by decide +kernel
theorem dX0_meld_40 : decode cX0_meld 40 = .ok (.iload_n 1, 1) := by decide +kernel
theorem dX0_meld_41 : decode cX0_meld 41 = .ok (.aload_n 0, 1) := by decide +kernel
theorem dX0_meld_42 : decode cX0_meld 42 = .ok (.iload_n 2, 1) := by decide +kernel
theorem dX0_meld_43 : decode cX0_meld 43 = .ok (.invokevirtual 71, 3) := by decide +kernel
theorem dX0_meld_46 : decode cX0_meld 46 = .ok (.invokevirtual 74, 3) := by decide +kernel
theorem dX0_meld_49 : decode cX0_meld 49 = .ok (.iconst 0, 1) := by decide +kernel
theorem dX0_meld_50 : decode cX0_meld 50 = .ok (.istore_n 3, 1) := by decide +kernel
theorem dX0_meld_51 : decode cX0_meld 51 = .ok (.iload_n 3, 1) := by decide +kernel
theorem dX0_meld_52 : decode cX0_meld 52 = .ok (.bipush 8, 2) := by decide +kernel
theorem dX0_meld_54 : decode cX0_meld 54 = .ok (.if_icmp .ge 20, 3) := by decide +kernel
theorem dX0_meld_57 : decode cX0_meld 57 = .ok (.aload_n 0, 1) := by decide +kernel
theorem dX0_meld_58 : decode cX0_meld 58 = .ok (.iload_n 1, 1) := by decide +kernel
theorem dX0_meld_59 : decode cX0_meld 59 = .ok (.aload_n 0, 1) := by decide +kernel
theorem dX0_meld_60 : decode cX0_meld 60 = .ok (.iload_n 2, 1) := by decide +kernel
theorem dX0_meld_61 : decode cX0_meld 61 = .ok (.iload_n 3, 1) := by decide +kernel
theorem dX0_meld_62 : decode cX0_meld 62 = .ok (.invokevirtual 77, 3) := by decide +kernel
theorem dX0_meld_65 : decode cX0_meld 65 = .ok (.invokevirtual 74, 3) := by decide +kernel
theorem dX0_meld_68 : decode cX0_meld 68 = .ok (.iinc 3 1, 3) := by decide +kernel
theorem dX0_meld_71 : decode cX0_meld 71 = .ok (.goto (-20), 3) := by decide +kernel
theorem dX0_meld_74 : decode cX0_meld 74 = .ok (.aload_n 0, 1) := by decide +kernel
theorem dX0_meld_75 : decode cX0_meld 75 = .ok (.sipush 1072, 3) := by decide +kernel
theorem dX0_meld_78 : decode cX0_meld 78 = .ok (.iload_n 2, 1) := by decide +kernel
theorem dX0_meld_79 : decode cX0_meld 79 = .ok (.iadd, 1) := by decide +kernel
theorem dX0_meld_80 : decode cX0_meld 80 = .ok (.invokevirtual 47, 3) := by decide +kernel
theorem dX0_meld_83 : decode cX0_meld 83 = .ok (.istore_n 3, 1) := by decide +kernel
theorem dX0_meld_84 : decode cX0_meld 84 = .ok (.aload_n 0, 1) := by decide +kernel
theorem dX0_meld_85 : decode cX0_meld 85 = .ok (.iload_n 2, 1) := by decide +kernel
theorem dX0_meld_86 : decode cX0_meld 86 = .ok (.iconst 0, 1) := by decide +kernel
theorem dX0_meld_87 : decode cX0_meld 87 = .ok (.invokevirtual 50, 3) := by decide +kernel
theorem dX0_meld_90 : decode cX0_meld 90 = .ok (.pop, 1) := by decide +kernel
theorem dX0_meld_91 : decode cX0_meld 91 = .ok (.aload_n 0, 1) := by decide +kernel
theorem dX0_meld_92 : decode cX0_meld 92 = .ok (.iload_n 1, 1) := by decide +kernel
theorem dX0_meld_93 : decode cX0_meld 93 = .ok (.aload_n 0, 1) := by decide +kernel
theorem dX0_meld_94 : decode cX0_meld 94 = .ok (.sipush 1072, 3) := by decide +kernel
theorem dX0_meld_97 : decode cX0_meld 97 = .ok (.iload_n 1, 1) := by decide +kernel
theorem dX0_meld_98 : decode cX0_meld 98 = .ok (.iadd, 1) := by decide +kernel
theorem dX0_meld_99 : decode cX0_meld 99 = .ok (.invokevirtual 47, 3) := by decide +kernel
theorem dX0_meld_102 : decode cX0_meld 102 = .ok (.iload_n 3, 1) := by decide +kernel
theorem dX0_meld_103 : decode cX0_meld 103 = .ok (.iadd, 1) := by decide +kernel
theorem dX0_meld_104 : decode cX0_meld 104 = .ok (.invokevirtual 50, 3) := by decide +kernel
theorem dX0_meld_107 : decode cX0_meld 107 = .ok (.ireturn, 1) := by decide +kernel
set_option maxRecDepth 20000 in
theorem ggX0_size_X0_begin : GoodIn wsX0_size wsX0_begin := goodIn_r _ [6, 7, 8, 19, 20, 21, 22, 23, 24] (by decide +kernel) (by decide +kernel)
set_option maxRecDepth 20000 in
theorem gX0_size_X0_begin : GoodIn wsX0_size (wsV RX0 30 RX0 yX0_begin wsX0_begin) := goodIn_app (goodIn_of _ (by decide +kernel)) ggX0_size_X0_begin
set_option maxRecDepth 20000 in
theorem ggX0_size_X0_exists : GoodIn wsX0_size wsX0_exists := goodIn_r _ [12, 13, 19, 20, 21, 22, 23, 24] (by decide +kernel) (by decide +kernel)
set_option maxRecDepth 20000 in
theorem gX0_size_X0_exists : GoodIn wsX0_size (wsV RX0 36 RX0 yX0_exists wsX0_exists) := goodIn_app (goodIn_of _ (by decide +kernel)) ggX0_size_X0_exists
set_option maxRecDepth 20000 in
theorem ggX0_size_X0_read : GoodIn wsX0_size wsX0_read := goodIn_r _ [17, 18, 7, 19, 20, 21, 22, 23, 24] (by decide +kernel) (by decide +kernel)
set_option maxRecDepth 20000 in
theorem gX0_size_X0_read : GoodIn wsX0_size (wsV RX0 47 RX0 yX0_read wsX0_read) := goodIn_app (goodIn_of _ (by decide +kernel)) ggX0_size_X0_read
theorem dX0_size_0 : decode cX0_size 0 = .ok (.aload_n 0, 1) := by decide +kernel
theorem dX0_size_1 : decode cX0_size 1 = .ok (.ldc 29, 2) := by decide +kernel
theorem dX0_size_3 : decode cX0_size 3 = .ok (.invokevirtual 30, 3) := by decide +kernel
theorem dX0_size_6 : decode cX0_size 6 = .ok (.aload_n 0, 1) := by decide +kernel
theorem dX0_size_7 : decode cX0_size 7 = .ok (.iload_n 1, 1) := by decide +kernel
theorem dX0_size_8 : decode cX0_size 8 = .ok (.invokevirtual 36, 3) := by decide +kernel
theorem dX0_size_11 : decode cX0_size 11 = .ok (.ifCond .eq 15, 3) := by decide +kernel
theorem dX0_size_14 : decode cX0_size 14 = .ok (.aload_n 0, 1) := by decide +kernel
theorem dX0_size_15 : decode cX0_size 15 = .ok (.sipush 1072, 3) := by decide +kernel
theorem dX0_size_18 : decode cX0_size 18 = .ok (.iload_n 1, 1) := by decide +kernel
theorem dX0_size_19 : decode cX0_size 19 = .ok (.iadd, 1) := by decide +kernel
theorem dX0_size_20 : decode cX0_size 20 = .ok (.invokevirtual 47, 3) := by decide +kernel
theorem dX0_size_23 : decode cX0_size 23 = .ok (.goto 4, 3) := by decide +kernel
theorem dX0_size_26 : decode cX0_size 26 = .ok (.iconst (-1), 1) := by decide +kernel
theorem dX0_size_27 : decode cX0_size 27 = .ok (.ireturn, 1) := by decide +kernel
set_option maxRecDepth 20000 in
theorem ggX0_key_X0_begin : GoodIn wsX0_key wsX0_begin := goodIn_r _ [7, 8, 9, 53, 54, 55, 56, 57, 58] (by decide +kernel) (by decide +kernel)
set_option maxRecDepth 20000 in
theorem gX0_key_X0_begin : GoodIn wsX0_key (wsV RX0 30 RX0 yX0_begin wsX0_begin) := goodIn_app (goodIn_of _ (by decide +kernel)) ggX0_key_X0_begin
set_option maxRecDepth 20000 in
theorem ggX0_key_X0_keysIn : GoodIn wsX0_key wsX0_keysIn := goodIn_r _ [13, 14, 15, 16, 6, 17, 18, 19, 20, 21, 22, 23, 8, 53, 54, 55, 56, 57, 58] (by decide +kernel) (by decide +kernel)
set_option maxRecDepth 20000 in
theorem gX0_key_X0_keysIn : GoodIn wsX0_key (wsV RX0 80 RX0 yX0_keysIn wsX0_keysIn) := goodIn_app (goodIn_of _ (by decide +kernel)) ggX0_key_X0_keysIn
set_option maxRecDepth 20000 in
theorem ggX0_key_X0_listCells : GoodIn wsX0_key wsX0_listCells := goodIn_r _ [27, 19, 20, 21, 6, 22, 23, 8, 28, 29, 30, 31, 32, 33, 34, 35, 36, 37, 38, 53, 54, 55, 56, 57, 58] (by decide +kernel) (by decide +kernel)
set_option maxRecDepth 20000 in
theorem gX0_key_X0_listCells : GoodIn wsX0_key (wsV RX0 83 RX0 yX0_listCells wsX0_listCells) := goodIn_app (goodIn_of _ (by decide +kernel)) ggX0_key_X0_listCells
set_option maxRecDepth 20000 in
theorem ggX0_key_X0_kthListed : GoodIn wsX0_key wsX0_kthListed := goodIn_r _ [42, 43, 44, 45, 46, 47, 6, 48, 49, 50, 51, 52, 19, 20, 21, 22, 23, 8, 53, 54, 55, 56, 57, 58] (by decide +kernel) (by decide +kernel)
set_option maxRecDepth 20000 in
theorem gX0_key_X0_kthListed : GoodIn wsX0_key (wsV RX0 86 RX0 yX0_kthListed wsX0_kthListed) := goodIn_app (goodIn_of _ (by decide +kernel)) ggX0_key_X0_kthListed
theorem dX0_key_0 : decode cX0_key 0 = .ok (.aload_n 0, 1) := by decide +kernel
theorem dX0_key_1 : decode cX0_key 1 = .ok (.ldc 29, 2) := by decide +kernel
theorem dX0_key_3 : decode cX0_key 3 = .ok (.invokevirtual 30, 3) := by decide +kernel
theorem dX0_key_6 : decode cX0_key 6 = .ok (.iload_n 2, 1) := by decide +kernel
theorem dX0_key_7 : decode cX0_key 7 = .ok (.ifCond .lt 12, 3) := by decide +kernel
theorem dX0_key_10 : decode cX0_key 10 = .ok (.iload_n 2, 1) := by decide +kernel
theorem dX0_key_11 : decode cX0_key 11 = .ok (.aload_n 0, 1) := by decide +kernel
theorem dX0_key_12 : decode cX0_key 12 = .ok (.iload_n 1, 1) := by decide +kernel
theorem dX0_key_13 : decode cX0_key 13 = .ok (.invokevirtual 80, 3) := by decide +kernel
theorem dX0_key_16 : decode cX0_key 16 = .ok (.if_icmp .lt 7, 3) := by decide +kernel
theorem dX0_key_19 : decode cX0_key 19 = .ok (.ldc2_w 60, 3) := by decide +kernel
theorem dX0_key_22 : decode cX0_key 22 = .ok (.lreturn, 1) := by decide +kernel
theorem dX0_key_23 : decode cX0_key 23 = .ok (.aload_n 0, 1) := by decide +kernel
theorem dX0_key_24 : decode cX0_key 24 = .ok (.aload_n 0, 1) := by decide +kernel
theorem dX0_key_25 : decode cX0_key 25 = .ok (.iload_n 1, 1) := by decide +kernel
theorem dX0_key_26 : decode cX0_key 26 = .ok (.invokevirtual 83, 3) := by decide +kernel
theorem dX0_key_29 : decode cX0_key 29 = .ok (.iload_n 2, 1) := by decide +kernel
theorem dX0_key_30 : decode cX0_key 30 = .ok (.invokevirtual 86, 3) := by decide +kernel
theorem dX0_key_33 : decode cX0_key 33 = .ok (.lreturn, 1) := by decide +kernel
set_option maxRecDepth 20000 in
theorem ggX0_sum_X0_begin : GoodIn wsX0_sum wsX0_begin := goodIn_r _ [6, 7, 8, 38, 39, 40, 41, 42, 43] (by decide +kernel) (by decide +kernel)
set_option maxRecDepth 20000 in
theorem gX0_sum_X0_begin : GoodIn wsX0_sum (wsV RX0 30 RX0 yX0_begin wsX0_begin) := goodIn_app (goodIn_of _ (by decide +kernel)) ggX0_sum_X0_begin
set_option maxRecDepth 20000 in
theorem ggX0_sum_X0_exists : GoodIn wsX0_sum wsX0_exists := goodIn_r _ [12, 13, 38, 39, 40, 41, 42, 43] (by decide +kernel) (by decide +kernel)
set_option maxRecDepth 20000 in
theorem gX0_sum_X0_exists : GoodIn wsX0_sum (wsV RX0 36 RX0 yX0_exists wsX0_exists) := goodIn_app (goodIn_of _ (by decide +kernel)) ggX0_sum_X0_exists
set_option maxRecDepth 20000 in
theorem ggX0_sum_X0_listCells : GoodIn wsX0_sum wsX0_listCells := goodIn_r _ [17, 18, 19, 20, 5, 21, 22, 7, 23, 24, 25, 26, 27, 28, 29, 30, 31, 32, 33, 38, 39, 40, 41, 42, 43] (by decide +kernel) (by decide +kernel)
set_option maxRecDepth 20000 in
theorem gX0_sum_X0_listCells : GoodIn wsX0_sum (wsV RX0 83 RX0 yX0_listCells wsX0_listCells) := goodIn_app (goodIn_of _ (by decide +kernel)) ggX0_sum_X0_listCells
set_option maxRecDepth 20000 in
theorem ggX0_sum_X0_listedKey : GoodIn wsX0_sum wsX0_listedKey := goodIn_r _ [37, 18, 19, 20, 5, 21, 22, 7, 38, 39, 40, 41, 42, 43] (by decide +kernel) (by decide +kernel)
set_option maxRecDepth 20000 in
theorem gX0_sum_X0_listedKey : GoodIn wsX0_sum (wsV RX0 90 RX0 yX0_listedKey wsX0_listedKey) := goodIn_app (goodIn_of _ (by decide +kernel)) ggX0_sum_X0_listedKey
theorem dX0_sum_0 : decode cX0_sum 0 = .ok (.aload_n 0, 1) := by decide +kernel
theorem dX0_sum_1 : decode cX0_sum 1 = .ok (.ldc 29, 2) := by decide +kernel
theorem dX0_sum_3 : decode cX0_sum 3 = .ok (.invokevirtual 30, 3) := by decide +kernel
theorem dX0_sum_6 : decode cX0_sum 6 = .ok (.aload_n 0, 1) := by decide +kernel
theorem dX0_sum_7 : decode cX0_sum 7 = .ok (.iload_n 1, 1) := by decide +kernel
theorem dX0_sum_8 : decode cX0_sum 8 = .ok (.invokevirtual 36, 3) := by decide +kernel
theorem dX0_sum_11 : decode cX0_sum 11 = .ok (.ifCond .ne 5, 3) := by decide +kernel
theorem dX0_sum_14 : decode cX0_sum 14 = .ok (.lconst 0, 1) := by decide +kernel
theorem dX0_sum_15 : decode cX0_sum 15 = .ok (.lreturn, 1) := by decide +kernel
theorem dX0_sum_16 : decode cX0_sum 16 = .ok (.aload_n 0, 1) := by decide +kernel
theorem dX0_sum_17 : decode cX0_sum 17 = .ok (.iload_n 1, 1) := by decide +kernel
theorem dX0_sum_18 : decode cX0_sum 18 = .ok (.invokevirtual 83, 3) := by decide +kernel
theorem dX0_sum_21 : decode cX0_sum 21 = .ok (.istore_n 2, 1) := by decide +kernel
theorem dX0_sum_22 : decode cX0_sum 22 = .ok (.lconst 0, 1) := by decide +kernel
theorem dX0_sum_23 : decode cX0_sum 23 = .ok (.lstore_n 3, 1) := by decide +kernel
theorem dX0_sum_24 : decode cX0_sum 24 = .ok (.iconst 0, 1) := by decide +kernel
theorem dX0_sum_25 : decode cX0_sum 25 = .ok (.istore 5, 2) := by decide +kernel
theorem dX0_sum_27 : decode cX0_sum 27 = .ok (.iload 5, 2) := by decide +kernel
theorem dX0_sum_29 : decode cX0_sum 29 = .ok (.iload_n 2, 1) := by decide +kernel
theorem dX0_sum_30 : decode cX0_sum 30 = .ok (.if_icmp .ge 19, 3) := by decide +kernel
theorem dX0_sum_33 : decode cX0_sum 33 = .ok (.lload_n 3, 1) := by decide +kernel
theorem dX0_sum_34 : decode cX0_sum 34 = .ok (.aload_n 0, 1) := by decide +kernel
theorem dX0_sum_35 : decode cX0_sum 35 = .ok (.iload 5, 2) := by decide +kernel
theorem dX0_sum_37 : decode cX0_sum 37 = .ok (.invokevirtual 90, 3) := by decide +kernel
theorem dX0_sum_40 : decode cX0_sum 40 = .ok (.i2l, 1) := by decide +kernel
theorem dX0_sum_41 : decode cX0_sum 41 = .ok (.ladd, 1) := by decide +kernel
theorem dX0_sum_42 : decode cX0_sum 42 = .ok (.lstore_n 3, 1) := by decide +kernel
theorem dX0_sum_43 : decode cX0_sum 43 = .ok (.iinc 5 1, 3) := by decide +kernel
theorem dX0_sum_46 : decode cX0_sum 46 = .ok (.goto (-19), 3) := by decide +kernel
theorem dX0_sum_49 : decode cX0_sum 49 = .ok (.lload_n 3, 1) := by decide +kernel
theorem dX0_sum_50 : decode cX0_sum 50 = .ok (.lreturn, 1) := by decide +kernel
set_option maxRecDepth 20000 in
theorem ggX0_free_X0_begin : GoodIn wsX0_free wsX0_begin := goodIn_r _ [7, 8, 9, 10, 11, 12, 13, 14, 15] (by decide +kernel) (by decide +kernel)
set_option maxRecDepth 20000 in
theorem gX0_free_X0_begin : GoodIn wsX0_free (wsV RX0 30 RX0 yX0_begin wsX0_begin) := goodIn_app (goodIn_of _ (by decide +kernel)) ggX0_free_X0_begin
theorem dX0_free_0 : decode cX0_free 0 = .ok (.aload_n 0, 1) := by decide +kernel
theorem dX0_free_1 : decode cX0_free 1 = .ok (.ldc 29, 2) := by decide +kernel
theorem dX0_free_3 : decode cX0_free 3 = .ok (.invokevirtual 30, 3) := by decide +kernel
theorem dX0_free_6 : decode cX0_free 6 = .ok (.aload_n 0, 1) := by decide +kernel
theorem dX0_free_7 : decode cX0_free 7 = .ok (.getfield 93, 3) := by decide +kernel
theorem dX0_free_10 : decode cX0_free 10 = .ok (.ireturn, 1) := by decide +kernel
set_option maxRecDepth 20000 in
theorem ggX0_few_X0_begin : GoodIn wsX0_few wsX0_begin := goodIn_r _ [8, 1, 2, 9, 10, 11, 12, 13, 14] (by decide +kernel) (by decide +kernel)
set_option maxRecDepth 20000 in
theorem gX0_few_X0_begin : GoodIn wsX0_few (wsV RX0 30 RX0 yX0_begin wsX0_begin) := goodIn_app (goodIn_of _ (by decide +kernel)) ggX0_few_X0_begin
theorem dX0_few_0 : decode cX0_few 0 = .ok (.aload_n 0, 1) := by decide +kernel
theorem dX0_few_1 : decode cX0_few 1 = .ok (.getfield 96, 3) := by decide +kernel
theorem dX0_few_4 : decode cX0_few 4 = .ok (.aload_n 0, 1) := by decide +kernel
end
section
theorem dX0_few_5 : decode cX0_few 5 = .ok (.getfield 99, 3) := by decide +kernel
theorem dX0_few_8 : decode cX0_few 8 = .ok (.if_icmp .gt 7, 3) := by decide +kernel
theorem dX0_few_11 : decode cX0_few 11 = .ok (.iconst 1, 1) := by decide +kernel
theorem dX0_few_12 : decode cX0_few 12 = .ok (.goto 4, 3) := by decide +kernel
theorem dX0_few_15 : decode cX0_few 15 = .ok (.iconst 0, 1) := by decide +kernel
theorem dX0_few_16 : decode cX0_few 16 = .ok (.istore_n 1, 1) := by decide +kernel
theorem dX0_few_17 : decode cX0_few 17 = .ok (.aload_n 0, 1) := by decide +kernel
theorem dX0_few_18 : decode cX0_few 18 = .ok (.ldc 29, 2) := by decide +kernel
theorem dX0_few_20 : decode cX0_few 20 = .ok (.invokevirtual 30, 3) := by decide +kernel
theorem dX0_few_23 : decode cX0_few 23 = .ok (.iload_n 1, 1) := by decide +kernel
theorem dX0_few_24 : decode cX0_few 24 = .ok (.ireturn, 1) := by decide +kernel
theorem dX0_read_0 : decode cX0_read 0 = .ok (.iload_n 1, 1) := by decide +kernel
theorem dX0_read_1 : decode cX0_read 1 = .ok (.ifCond .lt 12, 3) := by decide +kernel
theorem dX0_read_4 : decode cX0_read 4 = .ok (.iload_n 1, 1) := by decide +kernel
theorem dX0_read_5 : decode cX0_read 5 = .ok (.aload_n 0, 1) := by decide +kernel
theorem dX0_read_6 : decode cX0_read 6 = .ok (.getfield 13, 3) := by decide +kernel
theorem dX0_read_9 : decode cX0_read 9 = .ok (.arraylength, 1) := by decide +kernel
theorem dX0_read_10 : decode cX0_read 10 = .ok (.if_icmp .lt 5, 3) := by decide +kernel
theorem dX0_read_13 : decode cX0_read 13 = .ok (.iconst (-1), 1) := by decide +kernel
theorem dX0_read_14 : decode cX0_read 14 = .ok (.ireturn, 1) := by decide +kernel
theorem dX0_read_15 : decode cX0_read 15 = .ok (.aload_n 0, 1) := by decide +kernel
theorem dX0_read_16 : decode cX0_read 16 = .ok (.dup, 1) := by decide +kernel
theorem dX0_read_17 : decode cX0_read 17 = .ok (.getfield 96, 3) := by decide +kernel
theorem dX0_read_20 : decode cX0_read 20 = .ok (.iconst 1, 1) := by decide +kernel
theorem dX0_read_21 : decode cX0_read 21 = .ok (.iadd, 1) := by decide +kernel
theorem dX0_read_22 : decode cX0_read 22 = .ok (.putfield 96, 3) := by decide +kernel
theorem dX0_read_25 : decode cX0_read 25 = .ok (.aload_n 0, 1) := by decide +kernel
theorem dX0_read_26 : decode cX0_read 26 = .ok (.getfield 13, 3) := by decide +kernel
theorem dX0_read_29 : decode cX0_read 29 = .ok (.iload_n 1, 1) := by decide +kernel
theorem dX0_read_30 : decode cX0_read 30 = .ok (.iaload, 1) := by decide +kernel
theorem dX0_read_31 : decode cX0_read 31 = .ok (.ireturn, 1) := by decide +kernel
theorem dX0_write_0 : decode cX0_write 0 = .ok (.iload_n 1, 1) := by decide +kernel
theorem dX0_write_1 : decode cX0_write 1 = .ok (.ifCond .lt 12, 3) := by decide +kernel
theorem dX0_write_4 : decode cX0_write 4 = .ok (.iload_n 1, 1) := by decide +kernel
theorem dX0_write_5 : decode cX0_write 5 = .ok (.aload_n 0, 1) := by decide +kernel
theorem dX0_write_6 : decode cX0_write 6 = .ok (.getfield 13, 3) := by decide +kernel
theorem dX0_write_9 : decode cX0_write 9 = .ok (.arraylength, 1) := by decide +kernel
theorem dX0_write_10 : decode cX0_write 10 = .ok (.if_icmp .lt 4, 3) := by decide +kernel
theorem dX0_write_13 : decode cX0_write 13 = .ok (.return_, 1) := by decide +kernel
theorem dX0_write_14 : decode cX0_write 14 = .ok (.aload_n 0, 1) := by decide +kernel
theorem dX0_write_15 : decode cX0_write 15 = .ok (.dup, 1) := by decide +kernel
theorem dX0_write_16 : decode cX0_write 16 = .ok (.getfield 96, 3) := by decide +kernel
theorem dX0_write_19 : decode cX0_write 19 = .ok (.iconst 1, 1) := by decide +kernel
theorem dX0_write_20 : decode cX0_write 20 = .ok (.iadd, 1) := by decide +kernel
theorem dX0_write_21 : decode cX0_write 21 = .ok (.putfield 96, 3) := by decide +kernel
theorem dX0_write_24 : decode cX0_write 24 = .ok (.aload_n 0, 1) := by decide +kernel
theorem dX0_write_25 : decode cX0_write 25 = .ok (.getfield 13, 3) := by decide +kernel
theorem dX0_write_28 : decode cX0_write 28 = .ok (.iload_n 1, 1) := by decide +kernel
theorem dX0_write_29 : decode cX0_write 29 = .ok (.iload_n 2, 1) := by decide +kernel
theorem dX0_write_30 : decode cX0_write 30 = .ok (.iastore, 1) := by decide +kernel
theorem dX0_write_31 : decode cX0_write 31 = .ok (.return_, 1) := by decide +kernel
theorem dX0_begin_0 : decode cX0_begin 0 = .ok (.aload_n 0, 1) := by decide +kernel
theorem dX0_begin_1 : decode cX0_begin 1 = .ok (.iconst 0, 1) := by decide +kernel
theorem dX0_begin_2 : decode cX0_begin 2 = .ok (.putfield 96, 3) := by decide +kernel
theorem dX0_begin_5 : decode cX0_begin 5 = .ok (.aload_n 0, 1) := by decide +kernel
theorem dX0_begin_6 : decode cX0_begin 6 = .ok (.iload_n 1, 1) := by decide +kernel
theorem dX0_begin_7 : decode cX0_begin 7 = .ok (.putfield 99, 3) := by decide +kernel
theorem dX0_begin_10 : decode cX0_begin 10 = .ok (.return_, 1) := by decide +kernel
set_option maxRecDepth 20000 in
theorem ggX0_beginOn_X0_keysIn : GoodIn wsX0_beginOn wsX0_keysIn := goodIn_r _ [7, 8, 9, 10, 6, 11, 12, 13, 14, 15, 16, 17, 1, 21, 22, 23, 24, 25, 26] (by decide +kernel) (by decide +kernel)
set_option maxRecDepth 20000 in
theorem gX0_beginOn_X0_keysIn : GoodIn wsX0_beginOn (wsV RX0 80 RX0 yX0_keysIn wsX0_keysIn) := goodIn_app (goodIn_of _ (by decide +kernel)) ggX0_beginOn_X0_keysIn
set_option maxRecDepth 20000 in
theorem ggX0_beginOn_X0_limitFor : GoodIn wsX0_beginOn wsX0_limitFor := goodIn_r _ [20] (by decide +kernel) (by decide +kernel)
set_option maxRecDepth 20000 in
theorem gX0_beginOn_X0_limitFor : GoodIn wsX0_beginOn (va_wsS RX0 102 yX0_limitFor wsX0_limitFor) := goodIn_app (goodIn_of _ (by decide +kernel)) ggX0_beginOn_X0_limitFor
theorem dX0_beginOn_0 : decode cX0_beginOn 0 = .ok (.aload_n 0, 1) := by decide +kernel
theorem dX0_beginOn_1 : decode cX0_beginOn 1 = .ok (.iconst 0, 1) := by decide +kernel
theorem dX0_beginOn_2 : decode cX0_beginOn 2 = .ok (.putfield 96, 3) := by decide +kernel
theorem dX0_beginOn_5 : decode cX0_beginOn 5 = .ok (.aload_n 0, 1) := by decide +kernel
theorem dX0_beginOn_6 : decode cX0_beginOn 6 = .ok (.aload_n 0, 1) := by decide +kernel
theorem dX0_beginOn_7 : decode cX0_beginOn 7 = .ok (.iload_n 1, 1) := by decide +kernel
theorem dX0_beginOn_8 : decode cX0_beginOn 8 = .ok (.invokevirtual 80, 3) := by decide +kernel
theorem dX0_beginOn_11 : decode cX0_beginOn 11 = .ok (.invokestatic 102, 3) := by decide +kernel
theorem dX0_beginOn_14 : decode cX0_beginOn 14 = .ok (.putfield 99, 3) := by decide +kernel
theorem dX0_beginOn_17 : decode cX0_beginOn 17 = .ok (.return_, 1) := by decide +kernel
set_option maxRecDepth 20000 in
theorem ggX0_beginOnBoth_X0_keysIn : GoodIn wsX0_beginOnBoth wsX0_keysIn := goodIn_r _ [7, 8, 9, 10, 6, 11, 12, 13, 14, 15, 16, 17, 1, 21, 22, 23, 24, 25, 26] (by decide +kernel) (by decide +kernel)
set_option maxRecDepth 20000 in
theorem gX0_beginOnBoth_X0_keysIn : GoodIn wsX0_beginOnBoth (wsV RX0 80 RX0 yX0_keysIn wsX0_keysIn) := goodIn_app (goodIn_of _ (by decide +kernel)) ggX0_beginOnBoth_X0_keysIn
set_option maxRecDepth 20000 in
theorem ggX0_beginOnBoth_X0_limitFor : GoodIn wsX0_beginOnBoth wsX0_limitFor := goodIn_r _ [20] (by decide +kernel) (by decide +kernel)
set_option maxRecDepth 20000 in
theorem gX0_beginOnBoth_X0_limitFor : GoodIn wsX0_beginOnBoth (va_wsS RX0 102 yX0_limitFor wsX0_limitFor) := goodIn_app (goodIn_of _ (by decide +kernel)) ggX0_beginOnBoth_X0_limitFor
theorem dX0_beginOnBoth_0 : decode cX0_beginOnBoth 0 = .ok (.aload_n 0, 1) := by decide +kernel
theorem dX0_beginOnBoth_1 : decode cX0_beginOnBoth 1 = .ok (.iconst 0, 1) := by decide +kernel
theorem dX0_beginOnBoth_2 : decode cX0_beginOnBoth 2 = .ok (.putfield 96, 3) := by decide +kernel
theorem dX0_beginOnBoth_5 : decode cX0_beginOnBoth 5 = .ok (.aload_n 0, 1) := by decide +kernel
theorem dX0_beginOnBoth_6 : decode cX0_beginOnBoth 6 = .ok (.aload_n 0, 1) := by decide +kernel
theorem dX0_beginOnBoth_7 : decode cX0_beginOnBoth 7 = .ok (.iload_n 1, 1) := by decide +kernel
theorem dX0_beginOnBoth_8 : decode cX0_beginOnBoth 8 = .ok (.invokevirtual 80, 3) := by decide +kernel
theorem dX0_beginOnBoth_11 : decode cX0_beginOnBoth 11 = .ok (.aload_n 0, 1) := by decide +kernel
theorem dX0_beginOnBoth_12 : decode cX0_beginOnBoth 12 = .ok (.iload_n 2, 1) := by decide +kernel
theorem dX0_beginOnBoth_13 : decode cX0_beginOnBoth 13 = .ok (.invokevirtual 80, 3) := by decide +kernel
theorem dX0_beginOnBoth_16 : decode cX0_beginOnBoth 16 = .ok (.iadd, 1) := by decide +kernel
theorem dX0_beginOnBoth_17 : decode cX0_beginOnBoth 17 = .ok (.invokestatic 102, 3) := by decide +kernel
theorem dX0_beginOnBoth_20 : decode cX0_beginOnBoth 20 = .ok (.putfield 99, 3) := by decide +kernel
theorem dX0_beginOnBoth_23 : decode cX0_beginOnBoth 23 = .ok (.return_, 1) := by decide +kernel
theorem dX0_limitFor_0 : decode cX0_limitFor 0 = .ok (.iconst 0, 1) := by decide +kernel
theorem dX0_limitFor_1 : decode cX0_limitFor 1 = .ok (.istore_n 1, 1) := by decide +kernel
theorem dX0_limitFor_2 : decode cX0_limitFor 2 = .ok (.iload_n 1, 1) := by decide +kernel
theorem dX0_limitFor_3 : decode cX0_limitFor 3 = .ok (.bipush 30, 2) := by decide +kernel
theorem dX0_limitFor_5 : decode cX0_limitFor 5 = .ok (.if_icmp .ge 18, 3) := by decide +kernel
theorem dX0_limitFor_8 : decode cX0_limitFor 8 = .ok (.iconst 2, 1) := by decide +kernel
theorem dX0_limitFor_9 : decode cX0_limitFor 9 = .ok (.iload_n 1, 1) := by decide +kernel
theorem dX0_limitFor_10 : decode cX0_limitFor 10 = .ok (.ishl, 1) := by decide +kernel
theorem dX0_limitFor_11 : decode cX0_limitFor 11 = .ok (.iload_n 0, 1) := by decide +kernel
theorem dX0_limitFor_12 : decode cX0_limitFor 12 = .ok (.iconst 1, 1) := by decide +kernel
theorem dX0_limitFor_13 : decode cX0_limitFor 13 = .ok (.iadd, 1) := by decide +kernel
theorem dX0_limitFor_14 : decode cX0_limitFor 14 = .ok (.if_icmp .gt 9, 3) := by decide +kernel
theorem dX0_limitFor_17 : decode cX0_limitFor 17 = .ok (.iinc 1 1, 3) := by decide +kernel
theorem dX0_limitFor_20 : decode cX0_limitFor 20 = .ok (.goto (-18), 3) := by decide +kernel
theorem dX0_limitFor_23 : decode cX0_limitFor 23 = .ok (.sipush 200, 3) := by decide +kernel
theorem dX0_limitFor_26 : decode cX0_limitFor 26 = .ok (.iconst 2, 1) := by decide +kernel
theorem dX0_limitFor_27 : decode cX0_limitFor 27 = .ok (.iload_n 1, 1) := by decide +kernel
theorem dX0_limitFor_28 : decode cX0_limitFor 28 = .ok (.iadd, 1) := by decide +kernel
theorem dX0_limitFor_29 : decode cX0_limitFor 29 = .ok (.imul, 1) := by decide +kernel
theorem dX0_limitFor_30 : decode cX0_limitFor 30 = .ok (.ireturn, 1) := by decide +kernel
theorem dX0_exists_0 : decode cX0_exists 0 = .ok (.iload_n 1, 1) := by decide +kernel
theorem dX0_exists_1 : decode cX0_exists 1 = .ok (.ifCond .lt 15, 3) := by decide +kernel
theorem dX0_exists_4 : decode cX0_exists 4 = .ok (.iload_n 1, 1) := by decide +kernel
theorem dX0_exists_5 : decode cX0_exists 5 = .ok (.aload_n 0, 1) := by decide +kernel
theorem dX0_exists_6 : decode cX0_exists 6 = .ok (.getfield 33, 3) := by decide +kernel
theorem dX0_exists_9 : decode cX0_exists 9 = .ok (.if_icmp .ge 7, 3) := by decide +kernel
theorem dX0_exists_12 : decode cX0_exists 12 = .ok (.iconst 1, 1) := by decide +kernel
theorem dX0_exists_13 : decode cX0_exists 13 = .ok (.goto 4, 3) := by decide +kernel
theorem dX0_exists_16 : decode cX0_exists 16 = .ok (.iconst 0, 1) := by decide +kernel
theorem dX0_exists_17 : decode cX0_exists 17 = .ok (.ireturn, 1) := by decide +kernel
set_option maxRecDepth 20000 in
theorem ggX0_keysIn_X0_exists : GoodIn wsX0_keysIn wsX0_exists := goodIn_r _ [5, 6, 13, 14, 15, 16, 17, 18] (by decide +kernel) (by decide +kernel)
set_option maxRecDepth 20000 in
theorem gX0_keysIn_X0_exists : GoodIn wsX0_keysIn (wsV RX0 36 RX0 yX0_exists wsX0_exists) := goodIn_app (goodIn_of _ (by decide +kernel)) ggX0_keysIn_X0_exists
set_option maxRecDepth 20000 in
theorem ggX0_keysIn_X0_read : GoodIn wsX0_keysIn wsX0_read := goodIn_r _ [10, 11, 12, 13, 14, 15, 16, 17, 18] (by decide +kernel) (by decide +kernel)
set_option maxRecDepth 20000 in
theorem gX0_keysIn_X0_read : GoodIn wsX0_keysIn (wsV RX0 47 RX0 yX0_read wsX0_read) := goodIn_app (goodIn_of _ (by decide +kernel)) ggX0_keysIn_X0_read
theorem dX0_keysIn_0 : decode cX0_keysIn 0 = .ok (.aload_n 0, 1) := by decide +kernel
theorem dX0_keysIn_1 : decode cX0_keysIn 1 = .ok (.iload_n 1, 1) := by decide +kernel
theorem dX0_keysIn_2 : decode cX0_keysIn 2 = .ok (.invokevirtual 36, 3) := by decide +kernel
theorem dX0_keysIn_5 : decode cX0_keysIn 5 = .ok (.ifCond .eq 15, 3) := by decide +kernel
theorem dX0_keysIn_8 : decode cX0_keysIn 8 = .ok (.aload_n 0, 1) := by decide +kernel
theorem dX0_keysIn_9 : decode cX0_keysIn 9 = .ok (.sipush 1072, 3) := by decide +kernel
theorem dX0_keysIn_12 : decode cX0_keysIn 12 = .ok (.iload_n 1, 1) := by decide +kernel
theorem dX0_keysIn_13 : decode cX0_keysIn 13 = .ok (.iadd, 1) := by decide +kernel
theorem dX0_keysIn_14 : decode cX0_keysIn 14 = .ok (.invokevirtual 47, 3) := by decide +kernel
theorem dX0_keysIn_17 : decode cX0_keysIn 17 = .ok (.goto 4, 3) := by decide +kernel
theorem dX0_keysIn_20 : decode cX0_keysIn 20 = .ok (.iconst 0, 1) := by decide +kernel
theorem dX0_keysIn_21 : decode cX0_keysIn 21 = .ok (.ireturn, 1) := by decide +kernel
set_option maxRecDepth 20000 in
theorem ggX0_resize_X0_write : GoodIn wsX0_resize wsX0_write := goodIn_r _ [5, 6, 7, 8, 9, 10, 11, 12, 13] (by decide +kernel) (by decide +kernel)
set_option maxRecDepth 20000 in
theorem gX0_resize_X0_write : GoodIn wsX0_resize (wsV RX0 17 RX0 yX0_write wsX0_write) := goodIn_app (goodIn_of _ (by decide +kernel)) ggX0_resize_X0_write
theorem dX0_resize_0 : decode cX0_resize 0 = .ok (.aload_n 0, 1) := by decide +kernel
theorem dX0_resize_1 : decode cX0_resize 1 = .ok (.sipush 1072, 3) := by decide +kernel
theorem dX0_resize_4 : decode cX0_resize 4 = .ok (.iload_n 1, 1) := by decide +kernel
theorem dX0_resize_5 : decode cX0_resize 5 = .ok (.iadd, 1) := by decide +kernel
theorem dX0_resize_6 : decode cX0_resize 6 = .ok (.iload_n 2, 1) := by decide +kernel
theorem dX0_resize_7 : decode cX0_resize 7 = .ok (.invokevirtual 17, 3) := by decide +kernel
theorem dX0_resize_10 : decode cX0_resize 10 = .ok (.iload_n 2, 1) := by decide +kernel
theorem dX0_resize_11 : decode cX0_resize 11 = .ok (.ireturn, 1) := by decide +kernel
set_option maxRecDepth 20000 in
theorem ggX0_newCell_X0_read : GoodIn wsX0_newCell wsX0_read := goodIn_r _ [7, 8, 9, 14, 15, 16, 17, 18, 19] (by decide +kernel) (by decide +kernel)
set_option maxRecDepth 20000 in
theorem gX0_newCell_X0_read : GoodIn wsX0_newCell (wsV RX0 47 RX0 yX0_read wsX0_read) := goodIn_app (goodIn_of _ (by decide +kernel)) ggX0_newCell_X0_read
set_option maxRecDepth 20000 in
theorem ggX0_newCell_X0_write : GoodIn wsX0_newCell wsX0_write := goodIn_r _ [13, 8, 9, 14, 15, 16, 17, 18, 19] (by decide +kernel) (by decide +kernel)
set_option maxRecDepth 20000 in
theorem gX0_newCell_X0_write : GoodIn wsX0_newCell (wsV RX0 17 RX0 yX0_write wsX0_write) := goodIn_app (goodIn_of _ (by decide +kernel)) ggX0_newCell_X0_write
theorem dX0_newCell_0 : decode cX0_newCell 0 = .ok (.aload_n 0, 1) := by decide +kernel
theorem dX0_newCell_1 : decode cX0_newCell 1 = .ok (.getfield 21, 3) := by decide +kernel
theorem dX0_newCell_4 : decode cX0_newCell 4 = .ok (.istore_n 2, 1) := by decide +kernel
theorem dX0_newCell_5 : decode cX0_newCell 5 = .ok (.aload_n 0, 1) := by decide +kernel
theorem dX0_newCell_6 : decode cX0_newCell 6 = .ok (.aload_n 0, 1) := by decide +kernel
theorem dX0_newCell_7 : decode cX0_newCell 7 = .ok (.sipush 600, 3) := by decide +kernel
theorem dX0_newCell_10 : decode cX0_newCell 10 = .ok (.iload_n 2, 1) := by decide +kernel
theorem dX0_newCell_11 : decode cX0_newCell 11 = .ok (.iadd, 1) := by decide +kernel
theorem dX0_newCell_12 : decode cX0_newCell 12 = .ok (.invokevirtual 47, 3) := by decide +kernel
theorem dX0_newCell_15 : decode cX0_newCell 15 = .ok (.putfield 21, 3) := by decide +kernel
theorem dX0_newCell_18 : decode cX0_newCell 18 = .ok (.aload_n 0, 1) := by decide +kernel
theorem dX0_newCell_19 : decode cX0_newCell 19 = .ok (.dup, 1) := by decide +kernel
theorem dX0_newCell_20 : decode cX0_newCell 20 = .ok (.getfield 93, 3) := by decide +kernel
theorem dX0_newCell_23 : decode cX0_newCell 23 = .ok (.iconst 1, 1) := by decide +kernel
theorem dX0_newCell_24 : decode cX0_newCell 24 = .ok (.isub, 1) := by decide +kernel
theorem dX0_newCell_25 : decode cX0_newCell 25 = .ok (.putfield 93, 3) := by decide +kernel
theorem dX0_newCell_28 : decode cX0_newCell 28 = .ok (.aload_n 0, 1) := by decide +kernel
theorem dX0_newCell_29 : decode cX0_newCell 29 = .ok (.iconst 0, 1) := by decide +kernel
theorem dX0_newCell_30 : decode cX0_newCell 30 = .ok (.iload_n 2, 1) := by decide +kernel
theorem dX0_newCell_31 : decode cX0_newCell 31 = .ok (.iadd, 1) := by decide +kernel
theorem dX0_newCell_32 : decode cX0_newCell 32 = .ok (.iload_n 1, 1) := by decide +kernel
theorem dX0_newCell_33 : decode cX0_newCell 33 = .ok (.invokevirtual 17, 3) := by decide +kernel
theorem dX0_newCell_36 : decode cX0_newCell 36 = .ok (.aload_n 0, 1) := by decide +kernel
theorem dX0_newCell_37 : decode cX0_newCell 37 = .ok (.sipush 200, 3) := by decide +kernel
theorem dX0_newCell_40 : decode cX0_newCell 40 = .ok (.iload_n 2, 1) := by decide +kernel
theorem dX0_newCell_41 : decode cX0_newCell 41 = .ok (.iadd, 1) := by decide +kernel
theorem dX0_newCell_42 : decode cX0_newCell 42 = .ok (.iconst 0, 1) := by decide +kernel
theorem dX0_newCell_43 : decode cX0_newCell 43 = .ok (.invokevirtual 17, 3) := by decide +kernel
theorem dX0_newCell_46 : decode cX0_newCell 46 = .ok (.aload_n 0, 1) := by decide +kernel
theorem dX0_newCell_47 : decode cX0_newCell 47 = .ok (.sipush 400, 3) := by decide +kernel
theorem dX0_newCell_50 : decode cX0_newCell 50 = .ok (.iload_n 2, 1) := by decide +kernel
theorem dX0_newCell_51 : decode cX0_newCell 51 = .ok (.iadd, 1) := by decide +kernel
theorem dX0_newCell_52 : decode cX0_newCell 52 = .ok (.iconst (-1), 1) := by decide +kernel
theorem dX0_newCell_53 : decode cX0_newCell 53 = .ok (.invokevirtual 17, 3) := by decide +kernel
theorem dX0_newCell_56 : decode cX0_newCell 56 = .ok (.iload_n 2, 1) := by decide +kernel
theorem dX0_newCell_57 : decode cX0_newCell 57 = .ok (.ireturn, 1) := by decide +kernel
set_option maxRecDepth 20000 in
theorem ggX0_giveBack_X0_write : GoodIn wsX0_giveBack wsX0_write := goodIn_r _ [7, 8, 9, 10, 11, 12, 13, 14, 15] (by decide +kernel) (by decide +kernel)
set_option maxRecDepth 20000 in
theorem gX0_giveBack_X0_write : GoodIn wsX0_giveBack (wsV RX0 17 RX0 yX0_write wsX0_write) := goodIn_app (goodIn_of _ (by decide +kernel)) ggX0_giveBack_X0_write
theorem dX0_giveBack_0 : decode cX0_giveBack 0 = .ok (.aload_n 0, 1) := by decide +kernel
theorem dX0_giveBack_1 : decode cX0_giveBack 1 = .ok (.sipush 600, 3) := by decide +kernel
theorem dX0_giveBack_4 : decode cX0_giveBack 4 = .ok (.iload_n 1, 1) := by decide +kernel
theorem dX0_giveBack_5 : decode cX0_giveBack 5 = .ok (.iadd, 1) := by decide +kernel
theorem dX0_giveBack_6 : decode cX0_giveBack 6 = .ok (.aload_n 0, 1) := by decide +kernel
theorem dX0_giveBack_7 : decode cX0_giveBack 7 = .ok (.getfield 21, 3) := by decide +kernel
theorem dX0_giveBack_10 : decode cX0_giveBack 10 = .ok (.invokevirtual 17, 3) := by decide +kernel
theorem dX0_giveBack_13 : decode cX0_giveBack 13 = .ok (.aload_n 0, 1) := by decide +kernel
theorem dX0_giveBack_14 : decode cX0_giveBack 14 = .ok (.iload_n 1, 1) := by decide +kernel
theorem dX0_giveBack_15 : decode cX0_giveBack 15 = .ok (.putfield 21, 3) := by decide +kernel
theorem dX0_giveBack_18 : decode cX0_giveBack 18 = .ok (.aload_n 0, 1) := by decide +kernel
theorem dX0_giveBack_19 : decode cX0_giveBack 19 = .ok (.dup, 1) := by decide +kernel
theorem dX0_giveBack_20 : decode cX0_giveBack 20 = .ok (.getfield 93, 3) := by decide +kernel
theorem dX0_giveBack_23 : decode cX0_giveBack 23 = .ok (.iconst 1, 1) := by decide +kernel
theorem dX0_giveBack_24 : decode cX0_giveBack 24 = .ok (.iadd, 1) := by decide +kernel
theorem dX0_giveBack_25 : decode cX0_giveBack 25 = .ok (.putfield 93, 3) := by decide +kernel
theorem dX0_giveBack_28 : decode cX0_giveBack 28 = .ok (.return_, 1) := by decide +kernel
theorem dX0_topAt_0 : decode cX0_topAt 0 = .ok (.sipush 1000, 3) := by decide +kernel
theorem dX0_topAt_3 : decode cX0_topAt 3 = .ok (.iload_n 0, 1) := by decide +kernel
theorem dX0_topAt_4 : decode cX0_topAt 4 = .ok (.bipush 8, 2) := by decide +kernel
theorem dX0_topAt_6 : decode cX0_topAt 6 = .ok (.imul, 1) := by decide +kernel
theorem dX0_topAt_7 : decode cX0_topAt 7 = .ok (.iadd, 1) := by decide +kernel
theorem dX0_topAt_8 : decode cX0_topAt 8 = .ok (.iload_n 1, 1) := by decide +kernel
theorem dX0_topAt_9 : decode cX0_topAt 9 = .ok (.iadd, 1) := by decide +kernel
theorem dX0_topAt_10 : decode cX0_topAt 10 = .ok (.ireturn, 1) := by decide +kernel
set_option maxRecDepth 20000 in
theorem ggX0_cutTop_X0_topAt : GoodIn wsX0_cutTop wsX0_topAt := goodIn_r _ [4] (by decide +kernel) (by decide +kernel)
set_option maxRecDepth 20000 in
theorem gX0_cutTop_X0_topAt : GoodIn wsX0_cutTop (va_wsS RX0 105 yX0_topAt wsX0_topAt) := goodIn_app (goodIn_of _ (by decide +kernel)) ggX0_cutTop_X0_topAt
set_option maxRecDepth 20000 in
theorem ggX0_cutTop_X0_read : GoodIn wsX0_cutTop wsX0_read := goodIn_r _ [8, 9, 10, 15, 16, 17, 18, 19, 20] (by decide +kernel) (by decide +kernel)
set_option maxRecDepth 20000 in
theorem gX0_cutTop_X0_read : GoodIn wsX0_cutTop (wsV RX0 47 RX0 yX0_read wsX0_read) := goodIn_app (goodIn_of _ (by decide +kernel)) ggX0_cutTop_X0_read
set_option maxRecDepth 20000 in
theorem ggX0_cutTop_X0_write : GoodIn wsX0_cutTop wsX0_write := goodIn_r _ [14, 9, 10, 15, 16, 17, 18, 19, 20] (by decide +kernel) (by decide +kernel)
set_option maxRecDepth 20000 in
theorem gX0_cutTop_X0_write : GoodIn wsX0_cutTop (wsV RX0 17 RX0 yX0_write wsX0_write) := goodIn_app (goodIn_of _ (by decide +kernel)) ggX0_cutTop_X0_write
theorem dX0_cutTop_0 : decode cX0_cutTop 0 = .ok (.aload_n 0, 1) := by decide +kernel
theorem dX0_cutTop_1 : decode cX0_cutTop 1 = .ok (.iload_n 1, 1) := by decide +kernel
theorem dX0_cutTop_2 : decode cX0_cutTop 2 = .ok (.iload_n 2, 1) := by decide +kernel
theorem dX0_cutTop_3 : decode cX0_cutTop 3 = .ok (.invokestatic 105, 3) := by decide +kernel
theorem dX0_cutTop_6 : decode cX0_cutTop 6 = .ok (.invokevirtual 47, 3) := by decide +kernel
theorem dX0_cutTop_9 : decode cX0_cutTop 9 = .ok (.istore_n 3, 1) := by decide +kernel
theorem dX0_cutTop_10 : decode cX0_cutTop 10 = .ok (.aload_n 0, 1) := by decide +kernel
theorem dX0_cutTop_11 : decode cX0_cutTop 11 = .ok (.iload_n 1, 1) := by decide +kernel
theorem dX0_cutTop_12 : decode cX0_cutTop 12 = .ok (.iload_n 2, 1) := by decide +kernel
theorem dX0_cutTop_13 : decode cX0_cutTop 13 = .ok (.invokestatic 105, 3) := by decide +kernel
theorem dX0_cutTop_16 : decode cX0_cutTop 16 = .ok (.iconst (-1), 1) := by decide +kernel
theorem dX0_cutTop_17 : decode cX0_cutTop 17 = .ok (.invokevirtual 17, 3) := by decide +kernel
theorem dX0_cutTop_20 : decode cX0_cutTop 20 = .ok (.iload_n 3, 1) := by decide +kernel
theorem dX0_cutTop_21 : decode cX0_cutTop 21 = .ok (.ireturn, 1) := by decide +kernel
set_option maxRecDepth 20000 in
theorem ggX0_cutTwin_X0_read : GoodIn wsX0_cutTwin wsX0_read := goodIn_r _ [5, 6, 7, 12, 13, 14, 15, 16, 17] (by decide +kernel) (by decide +kernel)
set_option maxRecDepth 20000 in
theorem gX0_cutTwin_X0_read : GoodIn wsX0_cutTwin (wsV RX0 47 RX0 yX0_read wsX0_read) := goodIn_app (goodIn_of _ (by decide +kernel)) ggX0_cutTwin_X0_read
set_option maxRecDepth 20000 in
theorem ggX0_cutTwin_X0_write : GoodIn wsX0_cutTwin wsX0_write := goodIn_r _ [11, 6, 7, 12, 13, 14, 15, 16, 17] (by decide +kernel) (by decide +kernel)
set_option maxRecDepth 20000 in
theorem gX0_cutTwin_X0_write : GoodIn wsX0_cutTwin (wsV RX0 17 RX0 yX0_write wsX0_write) := goodIn_app (goodIn_of _ (by decide +kernel)) ggX0_cutTwin_X0_write
theorem dX0_cutTwin_0 : decode cX0_cutTwin 0 = .ok (.aload_n 0, 1) := by decide +kernel
theorem dX0_cutTwin_1 : decode cX0_cutTwin 1 = .ok (.sipush 1064, 3) := by decide +kernel
theorem dX0_cutTwin_4 : decode cX0_cutTwin 4 = .ok (.iload_n 1, 1) := by decide +kernel
theorem dX0_cutTwin_5 : decode cX0_cutTwin 5 = .ok (.iadd, 1) := by decide +kernel
theorem dX0_cutTwin_6 : decode cX0_cutTwin 6 = .ok (.invokevirtual 47, 3) := by decide +kernel
theorem dX0_cutTwin_9 : decode cX0_cutTwin 9 = .ok (.istore_n 2, 1) := by decide +kernel
theorem dX0_cutTwin_10 : decode cX0_cutTwin 10 = .ok (.aload_n 0, 1) := by decide +kernel
theorem dX0_cutTwin_11 : decode cX0_cutTwin 11 = .ok (.sipush 1064, 3) := by decide +kernel
theorem dX0_cutTwin_14 : decode cX0_cutTwin 14 = .ok (.iload_n 1, 1) := by decide +kernel
theorem dX0_cutTwin_15 : decode cX0_cutTwin 15 = .ok (.iadd, 1) := by decide +kernel
theorem dX0_cutTwin_16 : decode cX0_cutTwin 16 = .ok (.iconst (-1), 1) := by decide +kernel
theorem dX0_cutTwin_17 : decode cX0_cutTwin 17 = .ok (.invokevirtual 17, 3) := by decide +kernel
theorem dX0_cutTwin_20 : decode cX0_cutTwin 20 = .ok (.iload_n 2, 1) := by decide +kernel
theorem dX0_cutTwin_21 : decode cX0_cutTwin 21 = .ok (.ireturn, 1) := by decide +kernel
set_option maxRecDepth 20000 in
theorem ggX0_insertCell_X0_cutTwin : GoodIn wsX0_insertCell wsX0_cutTwin := goodIn_r _ [5, 6, 7, 8, 4, 9, 10, 11, 12, 13, 14, 15, 35, 36, 37, 38, 39, 40] (by decide +kernel) (by decide +kernel)
set_option maxRecDepth 20000 in
theorem gX0_insertCell_X0_cutTwin : GoodIn wsX0_insertCell (wsV RX0 71 RX0 yX0_cutTwin wsX0_cutTwin) := goodIn_app (goodIn_of _ (by decide +kernel)) ggX0_insertCell_X0_cutTwin
set_option maxRecDepth 20000 in
theorem ggX0_insertCell_X0_read : GoodIn wsX0_insertCell wsX0_read := goodIn_r _ [9, 10, 11, 35, 36, 37, 38, 39, 40] (by decide +kernel) (by decide +kernel)
set_option maxRecDepth 20000 in
theorem gX0_insertCell_X0_read : GoodIn wsX0_insertCell (wsV RX0 47 RX0 yX0_read wsX0_read) := goodIn_app (goodIn_of _ (by decide +kernel)) ggX0_insertCell_X0_read
set_option maxRecDepth 20000 in
theorem ggX0_insertCell_X0_cutTop : GoodIn wsX0_insertCell wsX0_cutTop := goodIn_r _ [19, 20, 21, 4, 22, 6, 7, 8, 9, 10, 11, 12, 13, 14, 15, 35, 36, 37, 38, 39, 40] (by decide +kernel) (by decide +kernel)
set_option maxRecDepth 20000 in
theorem gX0_insertCell_X0_cutTop : GoodIn wsX0_insertCell (wsV RX0 77 RX0 yX0_cutTop wsX0_cutTop) := goodIn_app (goodIn_of _ (by decide +kernel)) ggX0_insertCell_X0_cutTop
set_option maxRecDepth 20000 in
theorem ggX0_insertCell_X0_link : GoodIn wsX0_insertCell wsX0_link := goodIn_r _ [26, 6, 7, 8, 4, 9, 10, 11, 27, 28, 29, 30, 12, 13, 14, 15, 35, 36, 37, 38, 39, 40] (by decide +kernel) (by decide +kernel)
set_option maxRecDepth 20000 in
theorem gX0_insertCell_X0_link : GoodIn wsX0_insertCell (wsV RX0 108 RX0 yX0_link wsX0_link) := goodIn_app (goodIn_of _ (by decide +kernel)) ggX0_insertCell_X0_link
set_option maxRecDepth 20000 in
theorem ggX0_insertCell_X0_hangKey : GoodIn wsX0_insertCell wsX0_hangKey := goodIn_r _ [34, 6, 7, 8, 4, 9, 10, 11, 12, 13, 14, 15, 27, 28, 29, 30, 35, 36, 37, 38, 39, 40] (by decide +kernel) (by decide +kernel)
set_option maxRecDepth 20000 in
theorem gX0_insertCell_X0_hangKey : GoodIn wsX0_insertCell (wsV RX0 111 RX0 yX0_hangKey wsX0_hangKey) := goodIn_app (goodIn_of _ (by decide +kernel)) ggX0_insertCell_X0_hangKey
set_option maxRecDepth 20000 in
theorem ggX0_insertCell_X0_topAt : GoodIn wsX0_insertCell wsX0_topAt := goodIn_r _ [22] (by decide +kernel) (by decide +kernel)
set_option maxRecDepth 20000 in
theorem gX0_insertCell_X0_topAt : GoodIn wsX0_insertCell (va_wsS RX0 105 yX0_topAt wsX0_topAt) := goodIn_app (goodIn_of _ (by decide +kernel)) ggX0_insertCell_X0_topAt
set_option maxRecDepth 20000 in
theorem ggX0_insertCell_X0_write : GoodIn wsX0_insertCell wsX0_write := goodIn_r _ [15, 10, 11, 35, 36, 37, 38, 39, 40] (by decide +kernel) (by decide +kernel)
set_option maxRecDepth 20000 in
theorem gX0_insertCell_X0_write : GoodIn wsX0_insertCell (wsV RX0 17 RX0 yX0_write wsX0_write) := goodIn_app (goodIn_of _ (by decide +kernel)) ggX0_insertCell_X0_write
theorem dX0_insertCell_0 : decode cX0_insertCell 0 = .ok (.iload_n 2, 1) := by decide +kernel
theorem dX0_insertCell_1 : decode cX0_insertCell 1 = .ok (.istore_n 3, 1) := by decide +kernel
theorem dX0_insertCell_2 : decode cX0_insertCell 2 = .ok (.aload_n 0, 1) := by decide +kernel
theorem dX0_insertCell_3 : decode cX0_insertCell 3 = .ok (.iload_n 1, 1) := by decide +kernel
theorem dX0_insertCell_4 : decode cX0_insertCell 4 = .ok (.invokevirtual 71, 3) := by decide +kernel
theorem dX0_insertCell_7 : decode cX0_insertCell 7 = .ok (.istore 4, 2) := by decide +kernel
theorem dX0_insertCell_9 : decode cX0_insertCell 9 = .ok (.iload 4, 2) := by decide +kernel
theorem dX0_insertCell_11 : decode cX0_insertCell 11 = .ok (.iconst (-1), 1) := by decide +kernel
theorem dX0_insertCell_12 : decode cX0_insertCell 12 = .ok (.if_icmp .eq 31, 3) := by decide +kernel
theorem dX0_insertCell_15 : decode cX0_insertCell 15 = .ok (.aload_n 0, 1) := by decide +kernel
theorem dX0_insertCell_16 : decode cX0_insertCell 16 = .ok (.iload 4, 2) := by decide +kernel
theorem dX0_insertCell_18 : decode cX0_insertCell 18 = .ok (.aload_n 0, 1) := by decide +kernel
theorem dX0_insertCell_19 : decode cX0_insertCell 19 = .ok (.iload_n 1, 1) := by decide +kernel
theorem dX0_insertCell_20 : decode cX0_insertCell 20 = .ok (.aload_n 0, 1) := by decide +kernel
theorem dX0_insertCell_21 : decode cX0_insertCell 21 = .ok (.sipush 200, 3) := by decide +kernel
theorem dX0_insertCell_24 : decode cX0_insertCell 24 = .ok (.iload 4, 2) := by decide +kernel
theorem dX0_insertCell_26 : decode cX0_insertCell 26 = .ok (.iadd, 1) := by decide +kernel
theorem dX0_insertCell_27 : decode cX0_insertCell 27 = .ok (.invokevirtual 47, 3) := by decide +kernel
theorem dX0_insertCell_30 : decode cX0_insertCell 30 = .ok (.invokevirtual 77, 3) := by decide +kernel
theorem dX0_insertCell_33 : decode cX0_insertCell 33 = .ok (.invokevirtual 108, 3) := by decide +kernel
theorem dX0_insertCell_36 : decode cX0_insertCell 36 = .ok (.istore_n 3, 1) := by decide +kernel
theorem dX0_insertCell_37 : decode cX0_insertCell 37 = .ok (.aload_n 0, 1) := by decide +kernel
theorem dX0_insertCell_38 : decode cX0_insertCell 38 = .ok (.iload_n 3, 1) := by decide +kernel
theorem dX0_insertCell_39 : decode cX0_insertCell 39 = .ok (.iload_n 2, 1) := by decide +kernel
theorem dX0_insertCell_40 : decode cX0_insertCell 40 = .ok (.invokevirtual 111, 3) := by decide +kernel
theorem dX0_insertCell_43 : decode cX0_insertCell 43 = .ok (.iload_n 1, 1) := by decide +kernel
theorem dX0_insertCell_44 : decode cX0_insertCell 44 = .ok (.aload_n 0, 1) := by decide +kernel
theorem dX0_insertCell_45 : decode cX0_insertCell 45 = .ok (.sipush 200, 3) := by decide +kernel
theorem dX0_insertCell_48 : decode cX0_insertCell 48 = .ok (.iload_n 3, 1) := by decide +kernel
theorem dX0_insertCell_49 : decode cX0_insertCell 49 = .ok (.iadd, 1) := by decide +kernel
theorem dX0_insertCell_50 : decode cX0_insertCell 50 = .ok (.invokevirtual 47, 3) := by decide +kernel
theorem dX0_insertCell_53 : decode cX0_insertCell 53 = .ok (.invokestatic 105, 3) := by decide +kernel
theorem dX0_insertCell_56 : decode cX0_insertCell 56 = .ok (.istore 5, 2) := by decide +kernel
theorem dX0_insertCell_58 : decode cX0_insertCell 58 = .ok (.aload_n 0, 1) := by decide +kernel
theorem dX0_insertCell_59 : decode cX0_insertCell 59 = .ok (.aload_n 0, 1) := by decide +kernel
theorem dX0_insertCell_60 : decode cX0_insertCell 60 = .ok (.iload 5, 2) := by decide +kernel
theorem dX0_insertCell_62 : decode cX0_insertCell 62 = .ok (.invokevirtual 47, 3) := by decide +kernel
theorem dX0_insertCell_65 : decode cX0_insertCell 65 = .ok (.iconst (-1), 1) := by decide +kernel
theorem dX0_insertCell_66 : decode cX0_insertCell 66 = .ok (.if_icmp .ne 8, 3) := by decide +kernel
theorem dX0_insertCell_69 : decode cX0_insertCell 69 = .ok (.iload 5, 2) := by decide +kernel
theorem dX0_insertCell_71 : decode cX0_insertCell 71 = .ok (.goto 8, 3) := by decide +kernel
theorem dX0_insertCell_74 : decode cX0_insertCell 74 = .ok (.sipush 1064, 3) := by decide +kernel
theorem dX0_insertCell_77 : decode cX0_insertCell 77 = .ok (.iload_n 1, 1) := by decide +kernel
theorem dX0_insertCell_78 : decode cX0_insertCell 78 = .ok (.iadd, 1) := by decide +kernel
theorem dX0_insertCell_79 : decode cX0_insertCell 79 = .ok (.iload_n 3, 1) := by decide +kernel
theorem dX0_insertCell_80 : decode cX0_insertCell 80 = .ok (.invokevirtual 17, 3) := by decide +kernel
theorem dX0_insertCell_83 : decode cX0_insertCell 83 = .ok (.return_, 1) := by decide +kernel
set_option maxRecDepth 20000 in
theorem ggX0_link_X0_read : GoodIn wsX0_link wsX0_read := goodIn_r _ [5, 6, 7, 16, 17, 18, 19, 20, 21] (by decide +kernel) (by decide +kernel)
set_option maxRecDepth 20000 in
theorem gX0_link_X0_read : GoodIn wsX0_link (wsV RX0 47 RX0 yX0_read wsX0_read) := goodIn_app (goodIn_of _ (by decide +kernel)) ggX0_link_X0_read
set_option maxRecDepth 20000 in
theorem ggX0_link_X0_hangTree : GoodIn wsX0_link wsX0_hangTree := goodIn_r _ [11, 1, 2, 3, 4, 5, 6, 7, 12, 13, 14, 15, 16, 17, 18, 19, 20, 21] (by decide +kernel) (by decide +kernel)
set_option maxRecDepth 20000 in
theorem gX0_link_X0_hangTree : GoodIn wsX0_link (wsV RX0 114 RX0 yX0_hangTree wsX0_hangTree) := goodIn_app (goodIn_of _ (by decide +kernel)) ggX0_link_X0_hangTree
set_option maxRecDepth 20000 in
theorem ggX0_link_X0_write : GoodIn wsX0_link wsX0_write := goodIn_r _ [15, 6, 7, 16, 17, 18, 19, 20, 21] (by decide +kernel) (by decide +kernel)
set_option maxRecDepth 20000 in
theorem gX0_link_X0_write : GoodIn wsX0_link (wsV RX0 17 RX0 yX0_write wsX0_write) := goodIn_app (goodIn_of _ (by decide +kernel)) ggX0_link_X0_write
theorem dX0_link_0 : decode cX0_link 0 = .ok (.aload_n 0, 1) := by decide +kernel
theorem dX0_link_1 : decode cX0_link 1 = .ok (.iconst 0, 1) := by decide +kernel
theorem dX0_link_2 : decode cX0_link 2 = .ok (.iload_n 1, 1) := by decide +kernel
theorem dX0_link_3 : decode cX0_link 3 = .ok (.iadd, 1) := by decide +kernel
theorem dX0_link_4 : decode cX0_link 4 = .ok (.invokevirtual 47, 3) := by decide +kernel
theorem dX0_link_7 : decode cX0_link 7 = .ok (.aload_n 0, 1) := by decide +kernel
theorem dX0_link_8 : decode cX0_link 8 = .ok (.iconst 0, 1) := by decide +kernel
theorem dX0_link_9 : decode cX0_link 9 = .ok (.iload_n 2, 1) := by decide +kernel
theorem dX0_link_10 : decode cX0_link 10 = .ok (.iadd, 1) := by decide +kernel
theorem dX0_link_11 : decode cX0_link 11 = .ok (.invokevirtual 47, 3) := by decide +kernel
theorem dX0_link_14 : decode cX0_link 14 = .ok (.if_icmp .gt 7, 3) := by decide +kernel
theorem dX0_link_17 : decode cX0_link 17 = .ok (.iconst 1, 1) := by decide +kernel
theorem dX0_link_18 : decode cX0_link 18 = .ok (.goto 4, 3) := by decide +kernel
theorem dX0_link_21 : decode cX0_link 21 = .ok (.iconst 0, 1) := by decide +kernel
theorem dX0_link_22 : decode cX0_link 22 = .ok (.istore_n 3, 1) := by decide +kernel
theorem dX0_link_23 : decode cX0_link 23 = .ok (.iload_n 3, 1) := by decide +kernel
theorem dX0_link_24 : decode cX0_link 24 = .ok (.ifCond .eq 7, 3) := by decide +kernel
theorem dX0_link_27 : decode cX0_link 27 = .ok (.iload_n 1, 1) := by decide +kernel
theorem dX0_link_28 : decode cX0_link 28 = .ok (.goto 4, 3) := by decide +kernel
theorem dX0_link_31 : decode cX0_link 31 = .ok (.iload_n 2, 1) := by decide +kernel
theorem dX0_link_32 : decode cX0_link 32 = .ok (.istore 4, 2) := by decide +kernel
theorem dX0_link_34 : decode cX0_link 34 = .ok (.aload_n 0, 1) := by decide +kernel
theorem dX0_link_35 : decode cX0_link 35 = .ok (.iload 4, 2) := by decide +kernel
theorem dX0_link_37 : decode cX0_link 37 = .ok (.iload_n 3, 1) := by decide +kernel
theorem dX0_link_38 : decode cX0_link 38 = .ok (.ifCond .eq 7, 3) := by decide +kernel
theorem dX0_link_41 : decode cX0_link 41 = .ok (.iload_n 2, 1) := by decide +kernel
theorem dX0_link_42 : decode cX0_link 42 = .ok (.goto 4, 3) := by decide +kernel
theorem dX0_link_45 : decode cX0_link 45 = .ok (.iload_n 1, 1) := by decide +kernel
theorem dX0_link_46 : decode cX0_link 46 = .ok (.invokevirtual 114, 3) := by decide +kernel
theorem dX0_link_49 : decode cX0_link 49 = .ok (.aload_n 0, 1) := by decide +kernel
theorem dX0_link_50 : decode cX0_link 50 = .ok (.sipush 200, 3) := by decide +kernel
theorem dX0_link_53 : decode cX0_link 53 = .ok (.iload 4, 2) := by decide +kernel
theorem dX0_link_55 : decode cX0_link 55 = .ok (.iadd, 1) := by decide +kernel
theorem dX0_link_56 : decode cX0_link 56 = .ok (.aload_n 0, 1) := by decide +kernel
theorem dX0_link_57 : decode cX0_link 57 = .ok (.sipush 200, 3) := by decide +kernel
theorem dX0_link_60 : decode cX0_link 60 = .ok (.iload 4, 2) := by decide +kernel
theorem dX0_link_62 : decode cX0_link 62 = .ok (.iadd, 1) := by decide +kernel
theorem dX0_link_63 : decode cX0_link 63 = .ok (.invokevirtual 47, 3) := by decide +kernel
theorem dX0_link_66 : decode cX0_link 66 = .ok (.iconst 1, 1) := by decide +kernel
theorem dX0_link_67 : decode cX0_link 67 = .ok (.iadd, 1) := by decide +kernel
theorem dX0_link_68 : decode cX0_link 68 = .ok (.invokevirtual 17, 3) := by decide +kernel
theorem dX0_link_71 : decode cX0_link 71 = .ok (.iload 4, 2) := by decide +kernel
theorem dX0_link_73 : decode cX0_link 73 = .ok (.ireturn, 1) := by decide +kernel
set_option maxRecDepth 20000 in
theorem ggX0_hangTree_X0_read : GoodIn wsX0_hangTree wsX0_read := goodIn_r _ [5, 6, 7, 12, 13, 14, 15, 16, 17] (by decide +kernel) (by decide +kernel)
set_option maxRecDepth 20000 in
theorem gX0_hangTree_X0_read : GoodIn wsX0_hangTree (wsV RX0 47 RX0 yX0_read wsX0_read) := goodIn_app (goodIn_of _ (by decide +kernel)) ggX0_hangTree_X0_read
set_option maxRecDepth 20000 in
theorem ggX0_hangTree_X0_write : GoodIn wsX0_hangTree wsX0_write := goodIn_r _ [11, 6, 7, 12, 13, 14, 15, 16, 17] (by decide +kernel) (by decide +kernel)
set_option maxRecDepth 20000 in
theorem gX0_hangTree_X0_write : GoodIn wsX0_hangTree (wsV RX0 17 RX0 yX0_write wsX0_write) := goodIn_app (goodIn_of _ (by decide +kernel)) ggX0_hangTree_X0_write
theorem dX0_hangTree_0 : decode cX0_hangTree 0 = .ok (.aload_n 0, 1) := by decide +kernel
theorem dX0_hangTree_1 : decode cX0_hangTree 1 = .ok (.sipush 600, 3) := by decide +kernel
theorem dX0_hangTree_4 : decode cX0_hangTree 4 = .ok (.iload_n 2, 1) := by decide +kernel
theorem dX0_hangTree_5 : decode cX0_hangTree 5 = .ok (.iadd, 1) := by decide +kernel
theorem dX0_hangTree_6 : decode cX0_hangTree 6 = .ok (.aload_n 0, 1) := by decide +kernel
theorem dX0_hangTree_7 : decode cX0_hangTree 7 = .ok (.sipush 400, 3) := by decide +kernel
theorem dX0_hangTree_10 : decode cX0_hangTree 10 = .ok (.iload_n 1, 1) := by decide +kernel
theorem dX0_hangTree_11 : decode cX0_hangTree 11 = .ok (.iadd, 1) := by decide +kernel
theorem dX0_hangTree_12 : decode cX0_hangTree 12 = .ok (.invokevirtual 47, 3) := by decide +kernel
theorem dX0_hangTree_15 : decode cX0_hangTree 15 = .ok (.invokevirtual 17, 3) := by decide +kernel
theorem dX0_hangTree_18 : decode cX0_hangTree 18 = .ok (.aload_n 0, 1) := by decide +kernel
theorem dX0_hangTree_19 : decode cX0_hangTree 19 = .ok (.sipush 400, 3) := by decide +kernel
theorem dX0_hangTree_22 : decode cX0_hangTree 22 = .ok (.iload_n 1, 1) := by decide +kernel
theorem dX0_hangTree_23 : decode cX0_hangTree 23 = .ok (.iadd, 1) := by decide +kernel
theorem dX0_hangTree_24 : decode cX0_hangTree 24 = .ok (.iload_n 2, 1) := by decide +kernel
theorem dX0_hangTree_25 : decode cX0_hangTree 25 = .ok (.invokevirtual 17, 3) := by decide +kernel
theorem dX0_hangTree_28 : decode cX0_hangTree 28 = .ok (.return_, 1) := by decide +kernel
set_option maxRecDepth 20000 in
theorem ggX0_hangKey_X0_read : GoodIn wsX0_hangKey wsX0_read := goodIn_r _ [5, 6, 7, 16, 17, 18, 19, 20, 21] (by decide +kernel) (by decide +kernel)
set_option maxRecDepth 20000 in
theorem gX0_hangKey_X0_read : GoodIn wsX0_hangKey (wsV RX0 47 RX0 yX0_read wsX0_read) := goodIn_app (goodIn_of _ (by decide +kernel)) ggX0_hangKey_X0_read
set_option maxRecDepth 20000 in
theorem ggX0_hangKey_X0_write : GoodIn wsX0_hangKey wsX0_write := goodIn_r _ [11, 6, 7, 16, 17, 18, 19, 20, 21] (by decide +kernel) (by decide +kernel)
set_option maxRecDepth 20000 in
theorem gX0_hangKey_X0_write : GoodIn wsX0_hangKey (wsV RX0 17 RX0 yX0_write wsX0_write) := goodIn_app (goodIn_of _ (by decide +kernel)) ggX0_hangKey_X0_write
set_option maxRecDepth 20000 in
theorem ggX0_hangKey_X0_hangTree : GoodIn wsX0_hangKey wsX0_hangTree := goodIn_r _ [15, 1, 2, 3, 4, 5, 6, 7, 8, 9, 10, 11, 16, 17, 18, 19, 20, 21] (by decide +kernel) (by decide +kernel)
set_option maxRecDepth 20000 in
theorem gX0_hangKey_X0_hangTree : GoodIn wsX0_hangKey (wsV RX0 114 RX0 yX0_hangTree wsX0_hangTree) := goodIn_app (goodIn_of _ (by decide +kernel)) ggX0_hangKey_X0_hangTree
theorem dX0_hangKey_0 : decode cX0_hangKey 0 = .ok (.aload_n 0, 1) := by decide +kernel
theorem dX0_hangKey_1 : decode cX0_hangKey 1 = .ok (.iconst 0, 1) := by decide +kernel
theorem dX0_hangKey_2 : decode cX0_hangKey 2 = .ok (.iload_n 1, 1) := by decide +kernel
theorem dX0_hangKey_3 : decode cX0_hangKey 3 = .ok (.iadd, 1) := by decide +kernel
theorem dX0_hangKey_4 : decode cX0_hangKey 4 = .ok (.invokevirtual 47, 3) := by decide +kernel
theorem dX0_hangKey_7 : decode cX0_hangKey 7 = .ok (.istore_n 3, 1) := by decide +kernel
theorem dX0_hangKey_8 : decode cX0_hangKey 8 = .ok (.aload_n 0, 1) := by decide +kernel
theorem dX0_hangKey_9 : decode cX0_hangKey 9 = .ok (.iconst 0, 1) := by decide +kernel
theorem dX0_hangKey_10 : decode cX0_hangKey 10 = .ok (.iload_n 2, 1) := by decide +kernel
theorem dX0_hangKey_11 : decode cX0_hangKey 11 = .ok (.iadd, 1) := by decide +kernel
theorem dX0_hangKey_12 : decode cX0_hangKey 12 = .ok (.invokevirtual 47, 3) := by decide +kernel
theorem dX0_hangKey_15 : decode cX0_hangKey 15 = .ok (.istore 4, 2) := by decide +kernel
theorem dX0_hangKey_17 : decode cX0_hangKey 17 = .ok (.iload 4, 2) := by decide +kernel
theorem dX0_hangKey_19 : decode cX0_hangKey 19 = .ok (.iload_n 3, 1) := by decide +kernel
theorem dX0_hangKey_20 : decode cX0_hangKey 20 = .ok (.if_icmp .ge 20, 3) := by decide +kernel
theorem dX0_hangKey_23 : decode cX0_hangKey 23 = .ok (.aload_n 0, 1) := by decide +kernel
theorem dX0_hangKey_24 : decode cX0_hangKey 24 = .ok (.iconst 0, 1) := by decide +kernel
theorem dX0_hangKey_25 : decode cX0_hangKey 25 = .ok (.iload_n 1, 1) := by decide +kernel
theorem dX0_hangKey_26 : decode cX0_hangKey 26 = .ok (.iadd, 1) := by decide +kernel
theorem dX0_hangKey_27 : decode cX0_hangKey 27 = .ok (.iload 4, 2) := by decide +kernel
theorem dX0_hangKey_29 : decode cX0_hangKey 29 = .ok (.invokevirtual 17, 3) := by decide +kernel
theorem dX0_hangKey_32 : decode cX0_hangKey 32 = .ok (.aload_n 0, 1) := by decide +kernel
theorem dX0_hangKey_33 : decode cX0_hangKey 33 = .ok (.iconst 0, 1) := by decide +kernel
theorem dX0_hangKey_34 : decode cX0_hangKey 34 = .ok (.iload_n 2, 1) := by decide +kernel
theorem dX0_hangKey_35 : decode cX0_hangKey 35 = .ok (.iadd, 1) := by decide +kernel
theorem dX0_hangKey_36 : decode cX0_hangKey 36 = .ok (.iload_n 3, 1) := by decide +kernel
theorem dX0_hangKey_37 : decode cX0_hangKey 37 = .ok (.invokevirtual 17, 3) := by decide +kernel
theorem dX0_hangKey_40 : decode cX0_hangKey 40 = .ok (.aload_n 0, 1) := by decide +kernel
theorem dX0_hangKey_41 : decode cX0_hangKey 41 = .ok (.iload_n 1, 1) := by decide +kernel
theorem dX0_hangKey_42 : decode cX0_hangKey 42 = .ok (.iload_n 2, 1) := by decide +kernel
theorem dX0_hangKey_43 : decode cX0_hangKey 43 = .ok (.invokevirtual 114, 3) := by decide +kernel
theorem dX0_hangKey_46 : decode cX0_hangKey 46 = .ok (.return_, 1) := by decide +kernel
set_option maxRecDepth 20000 in
theorem ggX0_place_X0_read : GoodIn wsX0_place wsX0_read := goodIn_r _ [5, 6, 7, 27, 28, 29, 30, 31, 32] (by decide +kernel) (by decide +kernel)
set_option maxRecDepth 20000 in
theorem gX0_place_X0_read : GoodIn wsX0_place (wsV RX0 47 RX0 yX0_read wsX0_read) := goodIn_app (goodIn_of _ (by decide +kernel)) ggX0_place_X0_read
set_option maxRecDepth 20000 in
theorem ggX0_place_X0_cutTop : GoodIn wsX0_place wsX0_cutTop := goodIn_r _ [11, 12, 13, 4, 14, 1, 2, 3, 5, 6, 7, 15, 16, 17, 18, 27, 28, 29, 30, 31, 32] (by decide +kernel) (by decide +kernel)
set_option maxRecDepth 20000 in
theorem gX0_place_X0_cutTop : GoodIn wsX0_place (wsV RX0 77 RX0 yX0_cutTop wsX0_cutTop) := goodIn_app (goodIn_of _ (by decide +kernel)) ggX0_place_X0_cutTop
set_option maxRecDepth 20000 in
theorem ggX0_place_X0_topAt : GoodIn wsX0_place wsX0_topAt := goodIn_r _ [14] (by decide +kernel) (by decide +kernel)
set_option maxRecDepth 20000 in
theorem gX0_place_X0_topAt : GoodIn wsX0_place (va_wsS RX0 105 yX0_topAt wsX0_topAt) := goodIn_app (goodIn_of _ (by decide +kernel)) ggX0_place_X0_topAt
set_option maxRecDepth 20000 in
theorem ggX0_place_X0_write : GoodIn wsX0_place wsX0_write := goodIn_r _ [18, 6, 7, 27, 28, 29, 30, 31, 32] (by decide +kernel) (by decide +kernel)
set_option maxRecDepth 20000 in
theorem gX0_place_X0_write : GoodIn wsX0_place (wsV RX0 17 RX0 yX0_write wsX0_write) := goodIn_app (goodIn_of _ (by decide +kernel)) ggX0_place_X0_write
set_option maxRecDepth 20000 in
theorem ggX0_place_X0_link : GoodIn wsX0_place wsX0_link := goodIn_r _ [22, 1, 2, 3, 4, 5, 6, 7, 23, 24, 25, 26, 15, 16, 17, 18, 27, 28, 29, 30, 31, 32] (by decide +kernel) (by decide +kernel)
set_option maxRecDepth 20000 in
theorem gX0_place_X0_link : GoodIn wsX0_place (wsV RX0 108 RX0 yX0_link wsX0_link) := goodIn_app (goodIn_of _ (by decide +kernel)) ggX0_place_X0_link
theorem dX0_place_0 : decode cX0_place 0 = .ok (.iload_n 2, 1) := by decide +kernel
theorem dX0_place_1 : decode cX0_place 1 = .ok (.iconst (-1), 1) := by decide +kernel
theorem dX0_place_2 : decode cX0_place 2 = .ok (.if_icmp .ne 4, 3) := by decide +kernel
theorem dX0_place_5 : decode cX0_place 5 = .ok (.return_, 1) := by decide +kernel
theorem dX0_place_6 : decode cX0_place 6 = .ok (.iload_n 2, 1) := by decide +kernel
theorem dX0_place_7 : decode cX0_place 7 = .ok (.istore_n 3, 1) := by decide +kernel
theorem dX0_place_8 : decode cX0_place 8 = .ok (.aload_n 0, 1) := by decide +kernel
theorem dX0_place_9 : decode cX0_place 9 = .ok (.sipush 200, 3) := by decide +kernel
theorem dX0_place_12 : decode cX0_place 12 = .ok (.iload_n 2, 1) := by decide +kernel
theorem dX0_place_13 : decode cX0_place 13 = .ok (.iadd, 1) := by decide +kernel
theorem dX0_place_14 : decode cX0_place 14 = .ok (.invokevirtual 47, 3) := by decide +kernel
theorem dX0_place_17 : decode cX0_place 17 = .ok (.istore 4, 2) := by decide +kernel
theorem dX0_place_19 : decode cX0_place 19 = .ok (.iload 4, 2) := by decide +kernel
theorem dX0_place_21 : decode cX0_place 21 = .ok (.bipush 8, 2) := by decide +kernel
theorem dX0_place_23 : decode cX0_place 23 = .ok (.if_icmp .ge 44, 3) := by decide +kernel
theorem dX0_place_26 : decode cX0_place 26 = .ok (.aload_n 0, 1) := by decide +kernel
theorem dX0_place_27 : decode cX0_place 27 = .ok (.iload_n 1, 1) := by decide +kernel
theorem dX0_place_28 : decode cX0_place 28 = .ok (.iload 4, 2) := by decide +kernel
theorem dX0_place_30 : decode cX0_place 30 = .ok (.invokevirtual 77, 3) := by decide +kernel
theorem dX0_place_33 : decode cX0_place 33 = .ok (.istore 5, 2) := by decide +kernel
theorem dX0_place_35 : decode cX0_place 35 = .ok (.iload 5, 2) := by decide +kernel
theorem dX0_place_37 : decode cX0_place 37 = .ok (.iconst (-1), 1) := by decide +kernel
theorem dX0_place_38 : decode cX0_place 38 = .ok (.if_icmp .ne 15, 3) := by decide +kernel
theorem dX0_place_41 : decode cX0_place 41 = .ok (.aload_n 0, 1) := by decide +kernel
theorem dX0_place_42 : decode cX0_place 42 = .ok (.iload_n 1, 1) := by decide +kernel
theorem dX0_place_43 : decode cX0_place 43 = .ok (.iload 4, 2) := by decide +kernel
theorem dX0_place_45 : decode cX0_place 45 = .ok (.invokestatic 105, 3) := by decide +kernel
theorem dX0_place_48 : decode cX0_place 48 = .ok (.iload_n 3, 1) := by decide +kernel
theorem dX0_place_49 : decode cX0_place 49 = .ok (.invokevirtual 17, 3) := by decide +kernel
theorem dX0_place_52 : decode cX0_place 52 = .ok (.return_, 1) := by decide +kernel
theorem dX0_place_53 : decode cX0_place 53 = .ok (.aload_n 0, 1) := by decide +kernel
theorem dX0_place_54 : decode cX0_place 54 = .ok (.iload_n 3, 1) := by decide +kernel
theorem dX0_place_55 : decode cX0_place 55 = .ok (.iload 5, 2) := by decide +kernel
theorem dX0_place_57 : decode cX0_place 57 = .ok (.invokevirtual 108, 3) := by decide +kernel
theorem dX0_place_60 : decode cX0_place 60 = .ok (.istore_n 3, 1) := by decide +kernel
theorem dX0_place_61 : decode cX0_place 61 = .ok (.iinc 4 1, 3) := by decide +kernel
theorem dX0_place_64 : decode cX0_place 64 = .ok (.goto (-45), 3) := by decide +kernel
theorem dX0_place_67 : decode cX0_place 67 = .ok (.return_, 1) := by decide +kernel
set_option maxRecDepth 20000 in
theorem ggX0_placeChildren_X0_read : GoodIn wsX0_placeChildren wsX0_read := goodIn_r _ [5, 6, 7, 31, 32, 33, 34, 35, 36] (by decide +kernel) (by decide +kernel)
set_option maxRecDepth 20000 in
theorem gX0_placeChildren_X0_read : GoodIn wsX0_placeChildren (wsV RX0 47 RX0 yX0_read wsX0_read) := goodIn_app (goodIn_of _ (by decide +kernel)) ggX0_placeChildren_X0_read
set_option maxRecDepth 20000 in
theorem ggX0_placeChildren_X0_place : GoodIn wsX0_placeChildren wsX0_place := goodIn_r _ [11, 1, 2, 3, 4, 5, 6, 7, 12, 13, 14, 15, 16, 17, 18, 19, 20, 21, 22, 23, 24, 25, 26, 27, 28, 29, 30, 31, 32, 33, 34, 35, 36] (by decide +kernel) (by decide +kernel)
set_option maxRecDepth 20000 in
theorem gX0_placeChildren_X0_place : GoodIn wsX0_placeChildren (wsV RX0 74 RX0 yX0_place wsX0_place) := goodIn_app (goodIn_of _ (by decide +kernel)) ggX0_placeChildren_X0_place
theorem dX0_placeChildren_0 : decode cX0_placeChildren 0 = .ok (.aload_n 0, 1) := by decide +kernel
theorem dX0_placeChildren_1 : decode cX0_placeChildren 1 = .ok (.sipush 400, 3) := by decide +kernel
theorem dX0_placeChildren_4 : decode cX0_placeChildren 4 = .ok (.iload_n 2, 1) := by decide +kernel
theorem dX0_placeChildren_5 : decode cX0_placeChildren 5 = .ok (.iadd, 1) := by decide +kernel
theorem dX0_placeChildren_6 : decode cX0_placeChildren 6 = .ok (.invokevirtual 47, 3) := by decide +kernel
theorem dX0_placeChildren_9 : decode cX0_placeChildren 9 = .ok (.istore_n 3, 1) := by decide +kernel
theorem dX0_placeChildren_10 : decode cX0_placeChildren 10 = .ok (.iconst 0, 1) := by decide +kernel
theorem dX0_placeChildren_11 : decode cX0_placeChildren 11 = .ok (.istore 4, 2) := by decide +kernel
theorem dX0_placeChildren_13 : decode cX0_placeChildren 13 = .ok (.iload 4, 2) := by decide +kernel
theorem dX0_placeChildren_15 : decode cX0_placeChildren 15 = .ok (.sipush 200, 3) := by decide +kernel
theorem dX0_placeChildren_18 : decode cX0_placeChildren 18 = .ok (.if_icmp .ge 34, 3) := by decide +kernel
theorem dX0_placeChildren_21 : decode cX0_placeChildren 21 = .ok (.iload_n 3, 1) := by decide +kernel
theorem dX0_placeChildren_22 : decode cX0_placeChildren 22 = .ok (.iconst (-1), 1) := by decide +kernel
theorem dX0_placeChildren_23 : decode cX0_placeChildren 23 = .ok (.if_icmp .eq 29, 3) := by decide +kernel
theorem dX0_placeChildren_26 : decode cX0_placeChildren 26 = .ok (.aload_n 0, 1) := by decide +kernel
theorem dX0_placeChildren_27 : decode cX0_placeChildren 27 = .ok (.sipush 600, 3) := by decide +kernel
theorem dX0_placeChildren_30 : decode cX0_placeChildren 30 = .ok (.iload_n 3, 1) := by decide +kernel
theorem dX0_placeChildren_31 : decode cX0_placeChildren 31 = .ok (.iadd, 1) := by decide +kernel
theorem dX0_placeChildren_32 : decode cX0_placeChildren 32 = .ok (.invokevirtual 47, 3) := by decide +kernel
theorem dX0_placeChildren_35 : decode cX0_placeChildren 35 = .ok (.istore 5, 2) := by decide +kernel
theorem dX0_placeChildren_37 : decode cX0_placeChildren 37 = .ok (.aload_n 0, 1) := by decide +kernel
theorem dX0_placeChildren_38 : decode cX0_placeChildren 38 = .ok (.iload_n 1, 1) := by decide +kernel
theorem dX0_placeChildren_39 : decode cX0_placeChildren 39 = .ok (.iload_n 3, 1) := by decide +kernel
theorem dX0_placeChildren_40 : decode cX0_placeChildren 40 = .ok (.invokevirtual 74, 3) := by decide +kernel
theorem dX0_placeChildren_43 : decode cX0_placeChildren 43 = .ok (.iload 5, 2) := by decide +kernel
theorem dX0_placeChildren_45 : decode cX0_placeChildren 45 = .ok (.istore_n 3, 1) := by decide +kernel
theorem dX0_placeChildren_46 : decode cX0_placeChildren 46 = .ok (.iinc 4 1, 3) := by decide +kernel
theorem dX0_placeChildren_49 : decode cX0_placeChildren 49 = .ok (.goto (-36), 3) := by decide +kernel
theorem dX0_placeChildren_52 : decode cX0_placeChildren 52 = .ok (.return_, 1) := by decide +kernel
set_option maxRecDepth 20000 in
theorem ggX0_leastRoot_X0_exists : GoodIn wsX0_leastRoot wsX0_exists := goodIn_r _ [5, 6, 20, 21, 22, 23, 24, 25] (by decide +kernel) (by decide +kernel)
set_option maxRecDepth 20000 in
theorem gX0_leastRoot_X0_exists : GoodIn wsX0_leastRoot (wsV RX0 36 RX0 yX0_exists wsX0_exists) := goodIn_app (goodIn_of _ (by decide +kernel)) ggX0_leastRoot_X0_exists
set_option maxRecDepth 20000 in
theorem ggX0_leastRoot_X0_read : GoodIn wsX0_leastRoot wsX0_read := goodIn_r _ [10, 11, 12, 20, 21, 22, 23, 24, 25] (by decide +kernel) (by decide +kernel)
set_option maxRecDepth 20000 in
theorem gX0_leastRoot_X0_read : GoodIn wsX0_leastRoot (wsV RX0 47 RX0 yX0_read wsX0_read) := goodIn_app (goodIn_of _ (by decide +kernel)) ggX0_leastRoot_X0_read
set_option maxRecDepth 20000 in
theorem ggX0_leastRoot_X0_topAt : GoodIn wsX0_leastRoot wsX0_topAt := goodIn_r _ [15] (by decide +kernel) (by decide +kernel)
set_option maxRecDepth 20000 in
theorem gX0_leastRoot_X0_topAt : GoodIn wsX0_leastRoot (va_wsS RX0 105 yX0_topAt wsX0_topAt) := goodIn_app (goodIn_of _ (by decide +kernel)) ggX0_leastRoot_X0_topAt
set_option maxRecDepth 20000 in
theorem ggX0_leastRoot_X0_lesserRoot : GoodIn wsX0_leastRoot wsX0_lesserRoot := goodIn_r _ [19, 7, 8, 9, 4, 10, 11, 12, 20, 21, 22, 23, 24, 25] (by decide +kernel) (by decide +kernel)
set_option maxRecDepth 20000 in
theorem gX0_leastRoot_X0_lesserRoot : GoodIn wsX0_leastRoot (wsV RX0 117 RX0 yX0_lesserRoot wsX0_lesserRoot) := goodIn_app (goodIn_of _ (by decide +kernel)) ggX0_leastRoot_X0_lesserRoot
theorem dX0_leastRoot_0 : decode cX0_leastRoot 0 = .ok (.aload_n 0, 1) := by decide +kernel
theorem dX0_leastRoot_1 : decode cX0_leastRoot 1 = .ok (.iload_n 1, 1) := by decide +kernel
theorem dX0_leastRoot_2 : decode cX0_leastRoot 2 = .ok (.invokevirtual 36, 3) := by decide +kernel
theorem dX0_leastRoot_5 : decode cX0_leastRoot 5 = .ok (.ifCond .ne 5, 3) := by decide +kernel
theorem dX0_leastRoot_8 : decode cX0_leastRoot 8 = .ok (.iconst (-1), 1) := by decide +kernel
theorem dX0_leastRoot_9 : decode cX0_leastRoot 9 = .ok (.ireturn, 1) := by decide +kernel
theorem dX0_leastRoot_10 : decode cX0_leastRoot 10 = .ok (.aload_n 0, 1) := by decide +kernel
theorem dX0_leastRoot_11 : decode cX0_leastRoot 11 = .ok (.sipush 1064, 3) := by decide +kernel
theorem dX0_leastRoot_14 : decode cX0_leastRoot 14 = .ok (.iload_n 1, 1) := by decide +kernel
theorem dX0_leastRoot_15 : decode cX0_leastRoot 15 = .ok (.iadd, 1) := by decide +kernel
theorem dX0_leastRoot_16 : decode cX0_leastRoot 16 = .ok (.invokevirtual 47, 3) := by decide +kernel
theorem dX0_leastRoot_19 : decode cX0_leastRoot 19 = .ok (.istore_n 2, 1) := by decide +kernel
theorem dX0_leastRoot_20 : decode cX0_leastRoot 20 = .ok (.iconst 0, 1) := by decide +kernel
theorem dX0_leastRoot_21 : decode cX0_leastRoot 21 = .ok (.istore_n 3, 1) := by decide +kernel
theorem dX0_leastRoot_22 : decode cX0_leastRoot 22 = .ok (.iload_n 3, 1) := by decide +kernel
theorem dX0_leastRoot_23 : decode cX0_leastRoot 23 = .ok (.bipush 8, 2) := by decide +kernel
theorem dX0_leastRoot_25 : decode cX0_leastRoot 25 = .ok (.if_icmp .ge 24, 3) := by decide +kernel
theorem dX0_leastRoot_28 : decode cX0_leastRoot 28 = .ok (.aload_n 0, 1) := by decide +kernel
theorem dX0_leastRoot_29 : decode cX0_leastRoot 29 = .ok (.iload_n 2, 1) := by decide +kernel
theorem dX0_leastRoot_30 : decode cX0_leastRoot 30 = .ok (.aload_n 0, 1) := by decide +kernel
theorem dX0_leastRoot_31 : decode cX0_leastRoot 31 = .ok (.iload_n 1, 1) := by decide +kernel
theorem dX0_leastRoot_32 : decode cX0_leastRoot 32 = .ok (.iload_n 3, 1) := by decide +kernel
theorem dX0_leastRoot_33 : decode cX0_leastRoot 33 = .ok (.invokestatic 105, 3) := by decide +kernel
theorem dX0_leastRoot_36 : decode cX0_leastRoot 36 = .ok (.invokevirtual 47, 3) := by decide +kernel
theorem dX0_leastRoot_39 : decode cX0_leastRoot 39 = .ok (.invokevirtual 117, 3) := by decide +kernel
theorem dX0_leastRoot_42 : decode cX0_leastRoot 42 = .ok (.istore_n 2, 1) := by decide +kernel
theorem dX0_leastRoot_43 : decode cX0_leastRoot 43 = .ok (.iinc 3 1, 3) := by decide +kernel
theorem dX0_leastRoot_46 : decode cX0_leastRoot 46 = .ok (.goto (-24), 3) := by decide +kernel
theorem dX0_leastRoot_49 : decode cX0_leastRoot 49 = .ok (.iload_n 2, 1) := by decide +kernel
theorem dX0_leastRoot_50 : decode cX0_leastRoot 50 = .ok (.ireturn, 1) := by decide +kernel
set_option maxRecDepth 20000 in
theorem ggX0_lesserRoot_X0_read : GoodIn wsX0_lesserRoot wsX0_read := goodIn_r _ [5, 6, 7, 8, 9, 10, 11, 12, 13] (by decide +kernel) (by decide +kernel)
set_option maxRecDepth 20000 in
theorem gX0_lesserRoot_X0_read : GoodIn wsX0_lesserRoot (wsV RX0 47 RX0 yX0_read wsX0_read) := goodIn_app (goodIn_of _ (by decide +kernel)) ggX0_lesserRoot_X0_read
theorem dX0_lesserRoot_0 : decode cX0_lesserRoot 0 = .ok (.iload_n 1, 1) := by decide +kernel
theorem dX0_lesserRoot_1 : decode cX0_lesserRoot 1 = .ok (.iconst (-1), 1) := by decide +kernel
theorem dX0_lesserRoot_2 : decode cX0_lesserRoot 2 = .ok (.if_icmp .eq 8, 3) := by decide +kernel
theorem dX0_lesserRoot_5 : decode cX0_lesserRoot 5 = .ok (.iload_n 2, 1) := by decide +kernel
theorem dX0_lesserRoot_6 : decode cX0_lesserRoot 6 = .ok (.iconst (-1), 1) := by decide +kernel
theorem dX0_lesserRoot_7 : decode cX0_lesserRoot 7 = .ok (.if_icmp .ne 14, 3) := by decide +kernel
theorem dX0_lesserRoot_10 : decode cX0_lesserRoot 10 = .ok (.iload_n 1, 1) := by decide +kernel
theorem dX0_lesserRoot_11 : decode cX0_lesserRoot 11 = .ok (.iconst (-1), 1) := by decide +kernel
theorem dX0_lesserRoot_12 : decode cX0_lesserRoot 12 = .ok (.if_icmp .ne 7, 3) := by decide +kernel
theorem dX0_lesserRoot_15 : decode cX0_lesserRoot 15 = .ok (.iload_n 2, 1) := by decide +kernel
theorem dX0_lesserRoot_16 : decode cX0_lesserRoot 16 = .ok (.goto 4, 3) := by decide +kernel
theorem dX0_lesserRoot_19 : decode cX0_lesserRoot 19 = .ok (.iload_n 1, 1) := by decide +kernel
theorem dX0_lesserRoot_20 : decode cX0_lesserRoot 20 = .ok (.ireturn, 1) := by decide +kernel
theorem dX0_lesserRoot_21 : decode cX0_lesserRoot 21 = .ok (.aload_n 0, 1) := by decide +kernel
theorem dX0_lesserRoot_22 : decode cX0_lesserRoot 22 = .ok (.iconst 0, 1) := by decide +kernel
theorem dX0_lesserRoot_23 : decode cX0_lesserRoot 23 = .ok (.iload_n 1, 1) := by decide +kernel
theorem dX0_lesserRoot_24 : decode cX0_lesserRoot 24 = .ok (.iadd, 1) := by decide +kernel
theorem dX0_lesserRoot_25 : decode cX0_lesserRoot 25 = .ok (.invokevirtual 47, 3) := by decide +kernel
theorem dX0_lesserRoot_28 : decode cX0_lesserRoot 28 = .ok (.aload_n 0, 1) := by decide +kernel
theorem dX0_lesserRoot_29 : decode cX0_lesserRoot 29 = .ok (.iconst 0, 1) := by decide +kernel
theorem dX0_lesserRoot_30 : decode cX0_lesserRoot 30 = .ok (.iload_n 2, 1) := by decide +kernel
theorem dX0_lesserRoot_31 : decode cX0_lesserRoot 31 = .ok (.iadd, 1) := by decide +kernel
theorem dX0_lesserRoot_32 : decode cX0_lesserRoot 32 = .ok (.invokevirtual 47, 3) := by decide +kernel
theorem dX0_lesserRoot_35 : decode cX0_lesserRoot 35 = .ok (.if_icmp .gt 7, 3) := by decide +kernel
theorem dX0_lesserRoot_38 : decode cX0_lesserRoot 38 = .ok (.iload_n 1, 1) := by decide +kernel
theorem dX0_lesserRoot_39 : decode cX0_lesserRoot 39 = .ok (.goto 4, 3) := by decide +kernel
theorem dX0_lesserRoot_42 : decode cX0_lesserRoot 42 = .ok (.iload_n 2, 1) := by decide +kernel
theorem dX0_lesserRoot_43 : decode cX0_lesserRoot 43 = .ok (.ireturn, 1) := by decide +kernel
set_option maxRecDepth 20000 in
theorem ggX0_cutRoot_X0_cutTwin : GoodIn wsX0_cutRoot wsX0_cutTwin := goodIn_r _ [5, 6, 7, 8, 4, 9, 10, 11, 12, 13, 14, 15, 35, 36, 37, 38, 39, 40] (by decide +kernel) (by decide +kernel)
set_option maxRecDepth 20000 in
theorem gX0_cutRoot_X0_cutTwin : GoodIn wsX0_cutRoot (wsV RX0 71 RX0 yX0_cutTwin wsX0_cutTwin) := goodIn_app (goodIn_of _ (by decide +kernel)) ggX0_cutRoot_X0_cutTwin
set_option maxRecDepth 20000 in
theorem ggX0_cutRoot_X0_read : GoodIn wsX0_cutRoot wsX0_read := goodIn_r _ [9, 10, 11, 35, 36, 37, 38, 39, 40] (by decide +kernel) (by decide +kernel)
set_option maxRecDepth 20000 in
theorem gX0_cutRoot_X0_read : GoodIn wsX0_cutRoot (wsV RX0 47 RX0 yX0_read wsX0_read) := goodIn_app (goodIn_of _ (by decide +kernel)) ggX0_cutRoot_X0_read
set_option maxRecDepth 20000 in
theorem ggX0_cutRoot_X0_cutTop : GoodIn wsX0_cutRoot wsX0_cutTop := goodIn_r _ [19, 20, 21, 4, 22, 6, 7, 8, 9, 10, 11, 12, 13, 14, 15, 35, 36, 37, 38, 39, 40] (by decide +kernel) (by decide +kernel)
set_option maxRecDepth 20000 in
theorem gX0_cutRoot_X0_cutTop : GoodIn wsX0_cutRoot (wsV RX0 77 RX0 yX0_cutTop wsX0_cutTop) := goodIn_app (goodIn_of _ (by decide +kernel)) ggX0_cutRoot_X0_cutTop
set_option maxRecDepth 20000 in
theorem ggX0_cutRoot_X0_place : GoodIn wsX0_cutRoot wsX0_place := goodIn_r _ [26, 6, 7, 8, 4, 9, 10, 11, 16, 17, 18, 19, 20, 21, 22, 12, 13, 14, 15, 27, 28, 29, 30, 31, 32, 33, 34, 35, 36, 37, 38, 39, 40] (by decide +kernel) (by decide +kernel)
set_option maxRecDepth 20000 in
theorem gX0_cutRoot_X0_place : GoodIn wsX0_cutRoot (wsV RX0 74 RX0 yX0_place wsX0_place) := goodIn_app (goodIn_of _ (by decide +kernel)) ggX0_cutRoot_X0_place
theorem dX0_cutRoot_0 : decode cX0_cutRoot 0 = .ok (.aload_n 0, 1) := by decide +kernel
theorem dX0_cutRoot_1 : decode cX0_cutRoot 1 = .ok (.iload_n 1, 1) := by decide +kernel
theorem dX0_cutRoot_2 : decode cX0_cutRoot 2 = .ok (.invokevirtual 71, 3) := by decide +kernel
theorem dX0_cutRoot_5 : decode cX0_cutRoot 5 = .ok (.istore_n 3, 1) := by decide +kernel
theorem dX0_cutRoot_6 : decode cX0_cutRoot 6 = .ok (.iload_n 3, 1) := by decide +kernel
theorem dX0_cutRoot_7 : decode cX0_cutRoot 7 = .ok (.iload_n 2, 1) := by decide +kernel
theorem dX0_cutRoot_8 : decode cX0_cutRoot 8 = .ok (.if_icmp .eq 24, 3) := by decide +kernel
theorem dX0_cutRoot_11 : decode cX0_cutRoot 11 = .ok (.aload_n 0, 1) := by decide +kernel
theorem dX0_cutRoot_12 : decode cX0_cutRoot 12 = .ok (.iload_n 1, 1) := by decide +kernel
theorem dX0_cutRoot_13 : decode cX0_cutRoot 13 = .ok (.aload_n 0, 1) := by decide +kernel
theorem dX0_cutRoot_14 : decode cX0_cutRoot 14 = .ok (.sipush 200, 3) := by decide +kernel
theorem dX0_cutRoot_17 : decode cX0_cutRoot 17 = .ok (.iload_n 2, 1) := by decide +kernel
theorem dX0_cutRoot_18 : decode cX0_cutRoot 18 = .ok (.iadd, 1) := by decide +kernel
theorem dX0_cutRoot_19 : decode cX0_cutRoot 19 = .ok (.invokevirtual 47, 3) := by decide +kernel
theorem dX0_cutRoot_22 : decode cX0_cutRoot 22 = .ok (.invokevirtual 77, 3) := by decide +kernel
theorem dX0_cutRoot_25 : decode cX0_cutRoot 25 = .ok (.pop, 1) := by decide +kernel
theorem dX0_cutRoot_26 : decode cX0_cutRoot 26 = .ok (.aload_n 0, 1) := by decide +kernel
theorem dX0_cutRoot_27 : decode cX0_cutRoot 27 = .ok (.iload_n 1, 1) := by decide +kernel
theorem dX0_cutRoot_28 : decode cX0_cutRoot 28 = .ok (.iload_n 3, 1) := by decide +kernel
theorem dX0_cutRoot_29 : decode cX0_cutRoot 29 = .ok (.invokevirtual 74, 3) := by decide +kernel
theorem dX0_cutRoot_32 : decode cX0_cutRoot 32 = .ok (.return_, 1) := by decide +kernel
set_option maxRecDepth 20000 in
theorem ggX0_listCells_X0_read : GoodIn wsX0_listCells wsX0_read := goodIn_r _ [5, 6, 7, 19, 20, 21, 22, 23, 24] (by decide +kernel) (by decide +kernel)
set_option maxRecDepth 20000 in
theorem gX0_listCells_X0_read : GoodIn wsX0_listCells (wsV RX0 47 RX0 yX0_read wsX0_read) := goodIn_app (goodIn_of _ (by decide +kernel)) ggX0_listCells_X0_read
set_option maxRecDepth 20000 in
theorem ggX0_listCells_X0_listChain : GoodIn wsX0_listCells wsX0_listChain := goodIn_r _ [11, 12, 13, 14, 4, 15, 6, 7, 1, 2, 3, 5, 19, 20, 21, 22, 23, 24] (by decide +kernel) (by decide +kernel)
set_option maxRecDepth 20000 in
theorem gX0_listCells_X0_listChain : GoodIn wsX0_listCells (wsV RX0 120 RX0 yX0_listChain wsX0_listChain) := goodIn_app (goodIn_of _ (by decide +kernel)) ggX0_listCells_X0_listChain
set_option maxRecDepth 20000 in
theorem ggX0_listCells_X0_topAt : GoodIn wsX0_listCells wsX0_topAt := goodIn_r _ [18] (by decide +kernel) (by decide +kernel)
set_option maxRecDepth 20000 in
theorem gX0_listCells_X0_topAt : GoodIn wsX0_listCells (va_wsS RX0 105 yX0_topAt wsX0_topAt) := goodIn_app (goodIn_of _ (by decide +kernel)) ggX0_listCells_X0_topAt
end
section
theorem dX0_listCells_0 : decode cX0_listCells 0 = .ok (.aload_n 0, 1) := by decide +kernel
theorem dX0_listCells_1 : decode cX0_listCells 1 = .ok (.iconst 0, 1) := by decide +kernel
theorem dX0_listCells_2 : decode cX0_listCells 2 = .ok (.aload_n 0, 1) := by decide +kernel
theorem dX0_listCells_3 : decode cX0_listCells 3 = .ok (.sipush 1064, 3) := by decide +kernel
theorem dX0_listCells_6 : decode cX0_listCells 6 = .ok (.iload_n 1, 1) := by decide +kernel
theorem dX0_listCells_7 : decode cX0_listCells 7 = .ok (.iadd, 1) := by decide +kernel
theorem dX0_listCells_8 : decode cX0_listCells 8 = .ok (.invokevirtual 47, 3) := by decide +kernel
theorem dX0_listCells_11 : decode cX0_listCells 11 = .ok (.iconst 1, 1) := by decide +kernel
theorem dX0_listCells_12 : decode cX0_listCells 12 = .ok (.invokevirtual 120, 3) := by decide +kernel
theorem dX0_listCells_15 : decode cX0_listCells 15 = .ok (.istore_n 2, 1) := by decide +kernel
theorem dX0_listCells_16 : decode cX0_listCells 16 = .ok (.iconst 0, 1) := by decide +kernel
theorem dX0_listCells_17 : decode cX0_listCells 17 = .ok (.istore_n 3, 1) := by decide +kernel
theorem dX0_listCells_18 : decode cX0_listCells 18 = .ok (.iload_n 3, 1) := by decide +kernel
theorem dX0_listCells_19 : decode cX0_listCells 19 = .ok (.bipush 8, 2) := by decide +kernel
theorem dX0_listCells_21 : decode cX0_listCells 21 = .ok (.if_icmp .ge 25, 3) := by decide +kernel
theorem dX0_listCells_24 : decode cX0_listCells 24 = .ok (.aload_n 0, 1) := by decide +kernel
theorem dX0_listCells_25 : decode cX0_listCells 25 = .ok (.iload_n 2, 1) := by decide +kernel
theorem dX0_listCells_26 : decode cX0_listCells 26 = .ok (.aload_n 0, 1) := by decide +kernel
theorem dX0_listCells_27 : decode cX0_listCells 27 = .ok (.iload_n 1, 1) := by decide +kernel
theorem dX0_listCells_28 : decode cX0_listCells 28 = .ok (.iload_n 3, 1) := by decide +kernel
theorem dX0_listCells_29 : decode cX0_listCells 29 = .ok (.invokestatic 105, 3) := by decide +kernel
theorem dX0_listCells_32 : decode cX0_listCells 32 = .ok (.invokevirtual 47, 3) := by decide +kernel
theorem dX0_listCells_35 : decode cX0_listCells 35 = .ok (.iconst 1, 1) := by decide +kernel
theorem dX0_listCells_36 : decode cX0_listCells 36 = .ok (.invokevirtual 120, 3) := by decide +kernel
theorem dX0_listCells_39 : decode cX0_listCells 39 = .ok (.istore_n 2, 1) := by decide +kernel
theorem dX0_listCells_40 : decode cX0_listCells 40 = .ok (.iinc 3 1, 3) := by decide +kernel
theorem dX0_listCells_43 : decode cX0_listCells 43 = .ok (.goto (-25), 3) := by decide +kernel
theorem dX0_listCells_46 : decode cX0_listCells 46 = .ok (.iconst 0, 1) := by decide +kernel
theorem dX0_listCells_47 : decode cX0_listCells 47 = .ok (.istore_n 3, 1) := by decide +kernel
theorem dX0_listCells_48 : decode cX0_listCells 48 = .ok (.iload_n 3, 1) := by decide +kernel
theorem dX0_listCells_49 : decode cX0_listCells 49 = .ok (.iload_n 2, 1) := by decide +kernel
theorem dX0_listCells_50 : decode cX0_listCells 50 = .ok (.if_icmp .ge 42, 3) := by decide +kernel
theorem dX0_listCells_53 : decode cX0_listCells 53 = .ok (.iload_n 3, 1) := by decide +kernel
theorem dX0_listCells_54 : decode cX0_listCells 54 = .ok (.sipush 200, 3) := by decide +kernel
theorem dX0_listCells_57 : decode cX0_listCells 57 = .ok (.if_icmp .ge 35, 3) := by decide +kernel
theorem dX0_listCells_60 : decode cX0_listCells 60 = .ok (.aload_n 0, 1) := by decide +kernel
theorem dX0_listCells_61 : decode cX0_listCells 61 = .ok (.iload_n 2, 1) := by decide +kernel
theorem dX0_listCells_62 : decode cX0_listCells 62 = .ok (.aload_n 0, 1) := by decide +kernel
theorem dX0_listCells_63 : decode cX0_listCells 63 = .ok (.sipush 400, 3) := by decide +kernel
theorem dX0_listCells_66 : decode cX0_listCells 66 = .ok (.aload_n 0, 1) := by decide +kernel
theorem dX0_listCells_67 : decode cX0_listCells 67 = .ok (.sipush 800, 3) := by decide +kernel
theorem dX0_listCells_70 : decode cX0_listCells 70 = .ok (.iload_n 3, 1) := by decide +kernel
theorem dX0_listCells_71 : decode cX0_listCells 71 = .ok (.iadd, 1) := by decide +kernel
theorem dX0_listCells_72 : decode cX0_listCells 72 = .ok (.invokevirtual 47, 3) := by decide +kernel
theorem dX0_listCells_75 : decode cX0_listCells 75 = .ok (.iadd, 1) := by decide +kernel
theorem dX0_listCells_76 : decode cX0_listCells 76 = .ok (.invokevirtual 47, 3) := by decide +kernel
theorem dX0_listCells_79 : decode cX0_listCells 79 = .ok (.sipush 200, 3) := by decide +kernel
theorem dX0_listCells_82 : decode cX0_listCells 82 = .ok (.invokevirtual 120, 3) := by decide +kernel
theorem dX0_listCells_85 : decode cX0_listCells 85 = .ok (.istore_n 2, 1) := by decide +kernel
theorem dX0_listCells_86 : decode cX0_listCells 86 = .ok (.iinc 3 1, 3) := by decide +kernel
theorem dX0_listCells_89 : decode cX0_listCells 89 = .ok (.goto (-41), 3) := by decide +kernel
theorem dX0_listCells_92 : decode cX0_listCells 92 = .ok (.iload_n 2, 1) := by decide +kernel
theorem dX0_listCells_93 : decode cX0_listCells 93 = .ok (.ireturn, 1) := by decide +kernel
set_option maxRecDepth 20000 in
theorem ggX0_listChain_X0_write : GoodIn wsX0_listChain wsX0_write := goodIn_r _ [5, 6, 7, 12, 13, 14, 15, 16, 17] (by decide +kernel) (by decide +kernel)
set_option maxRecDepth 20000 in
theorem gX0_listChain_X0_write : GoodIn wsX0_listChain (wsV RX0 17 RX0 yX0_write wsX0_write) := goodIn_app (goodIn_of _ (by decide +kernel)) ggX0_listChain_X0_write
set_option maxRecDepth 20000 in
theorem ggX0_listChain_X0_read : GoodIn wsX0_listChain wsX0_read := goodIn_r _ [11, 6, 7, 12, 13, 14, 15, 16, 17] (by decide +kernel) (by decide +kernel)
set_option maxRecDepth 20000 in
theorem gX0_listChain_X0_read : GoodIn wsX0_listChain (wsV RX0 47 RX0 yX0_read wsX0_read) := goodIn_app (goodIn_of _ (by decide +kernel)) ggX0_listChain_X0_read
theorem dX0_listChain_0 : decode cX0_listChain 0 = .ok (.iload_n 1, 1) := by decide +kernel
theorem dX0_listChain_1 : decode cX0_listChain 1 = .ok (.istore 4, 2) := by decide +kernel
theorem dX0_listChain_3 : decode cX0_listChain 3 = .ok (.iload_n 2, 1) := by decide +kernel
theorem dX0_listChain_4 : decode cX0_listChain 4 = .ok (.istore 5, 2) := by decide +kernel
theorem dX0_listChain_6 : decode cX0_listChain 6 = .ok (.iconst 0, 1) := by decide +kernel
theorem dX0_listChain_7 : decode cX0_listChain 7 = .ok (.istore 6, 2) := by decide +kernel
theorem dX0_listChain_9 : decode cX0_listChain 9 = .ok (.iload 6, 2) := by decide +kernel
theorem dX0_listChain_11 : decode cX0_listChain 11 = .ok (.iload_n 3, 1) := by decide +kernel
theorem dX0_listChain_12 : decode cX0_listChain 12 = .ok (.if_icmp .ge 50, 3) := by decide +kernel
theorem dX0_listChain_15 : decode cX0_listChain 15 = .ok (.iload 5, 2) := by decide +kernel
theorem dX0_listChain_17 : decode cX0_listChain 17 = .ok (.iconst (-1), 1) := by decide +kernel
theorem dX0_listChain_18 : decode cX0_listChain 18 = .ok (.if_icmp .eq 44, 3) := by decide +kernel
theorem dX0_listChain_21 : decode cX0_listChain 21 = .ok (.iload 4, 2) := by decide +kernel
theorem dX0_listChain_23 : decode cX0_listChain 23 = .ok (.sipush 200, 3) := by decide +kernel
theorem dX0_listChain_26 : decode cX0_listChain 26 = .ok (.if_icmp .ge 36, 3) := by decide +kernel
theorem dX0_listChain_29 : decode cX0_listChain 29 = .ok (.aload_n 0, 1) := by decide +kernel
theorem dX0_listChain_30 : decode cX0_listChain 30 = .ok (.sipush 800, 3) := by decide +kernel
theorem dX0_listChain_33 : decode cX0_listChain 33 = .ok (.iload 4, 2) := by decide +kernel
theorem dX0_listChain_35 : decode cX0_listChain 35 = .ok (.iadd, 1) := by decide +kernel
theorem dX0_listChain_36 : decode cX0_listChain 36 = .ok (.iload 5, 2) := by decide +kernel
theorem dX0_listChain_38 : decode cX0_listChain 38 = .ok (.invokevirtual 17, 3) := by decide +kernel
theorem dX0_listChain_41 : decode cX0_listChain 41 = .ok (.iinc 4 1, 3) := by decide +kernel
theorem dX0_listChain_44 : decode cX0_listChain 44 = .ok (.aload_n 0, 1) := by decide +kernel
theorem dX0_listChain_45 : decode cX0_listChain 45 = .ok (.sipush 600, 3) := by decide +kernel
theorem dX0_listChain_48 : decode cX0_listChain 48 = .ok (.iload 5, 2) := by decide +kernel
theorem dX0_listChain_50 : decode cX0_listChain 50 = .ok (.iadd, 1) := by decide +kernel
theorem dX0_listChain_51 : decode cX0_listChain 51 = .ok (.invokevirtual 47, 3) := by decide +kernel
theorem dX0_listChain_54 : decode cX0_listChain 54 = .ok (.istore 5, 2) := by decide +kernel
theorem dX0_listChain_56 : decode cX0_listChain 56 = .ok (.iinc 6 1, 3) := by decide +kernel
theorem dX0_listChain_59 : decode cX0_listChain 59 = .ok (.goto (-50), 3) := by decide +kernel
theorem dX0_listChain_62 : decode cX0_listChain 62 = .ok (.iload 4, 2) := by decide +kernel
theorem dX0_listChain_64 : decode cX0_listChain 64 = .ok (.ireturn, 1) := by decide +kernel
set_option maxRecDepth 20000 in
theorem ggX0_listedKey_X0_read : GoodIn wsX0_listedKey wsX0_read := goodIn_r _ [5, 6, 7, 8, 9, 10, 11, 12, 13] (by decide +kernel) (by decide +kernel)
set_option maxRecDepth 20000 in
theorem gX0_listedKey_X0_read : GoodIn wsX0_listedKey (wsV RX0 47 RX0 yX0_read wsX0_read) := goodIn_app (goodIn_of _ (by decide +kernel)) ggX0_listedKey_X0_read
theorem dX0_listedKey_0 : decode cX0_listedKey 0 = .ok (.aload_n 0, 1) := by decide +kernel
theorem dX0_listedKey_1 : decode cX0_listedKey 1 = .ok (.iconst 0, 1) := by decide +kernel
theorem dX0_listedKey_2 : decode cX0_listedKey 2 = .ok (.aload_n 0, 1) := by decide +kernel
theorem dX0_listedKey_3 : decode cX0_listedKey 3 = .ok (.sipush 800, 3) := by decide +kernel
theorem dX0_listedKey_6 : decode cX0_listedKey 6 = .ok (.iload_n 1, 1) := by decide +kernel
theorem dX0_listedKey_7 : decode cX0_listedKey 7 = .ok (.iadd, 1) := by decide +kernel
theorem dX0_listedKey_8 : decode cX0_listedKey 8 = .ok (.invokevirtual 47, 3) := by decide +kernel
theorem dX0_listedKey_11 : decode cX0_listedKey 11 = .ok (.iadd, 1) := by decide +kernel
theorem dX0_listedKey_12 : decode cX0_listedKey 12 = .ok (.invokevirtual 47, 3) := by decide +kernel
theorem dX0_listedKey_15 : decode cX0_listedKey 15 = .ok (.ireturn, 1) := by decide +kernel
set_option maxRecDepth 20000 in
theorem ggX0_kthListed_X0_countUpTo : GoodIn wsX0_kthListed wsX0_countUpTo := goodIn_r _ [7, 8, 9, 10, 6, 11, 12, 13, 14, 15, 16, 17, 18, 19, 20, 21, 22, 23] (by decide +kernel) (by decide +kernel)
set_option maxRecDepth 20000 in
theorem gX0_kthListed_X0_countUpTo : GoodIn wsX0_kthListed (wsV RX0 128 RX0 yX0_countUpTo wsX0_countUpTo) := goodIn_app (goodIn_of _ (by decide +kernel)) ggX0_kthListed_X0_countUpTo
theorem dX0_kthListed_0 : decode cX0_kthListed 0 = .ok (.ldc2_w 124, 3) := by decide +kernel
theorem dX0_kthListed_3 : decode cX0_kthListed 3 = .ok (.lstore_n 3, 1) := by decide +kernel
theorem dX0_kthListed_4 : decode cX0_kthListed 4 = .ok (.ldc2_w 126, 3) := by decide +kernel
theorem dX0_kthListed_7 : decode cX0_kthListed 7 = .ok (.lstore 5, 2) := by decide +kernel
theorem dX0_kthListed_9 : decode cX0_kthListed 9 = .ok (.iconst 0, 1) := by decide +kernel
theorem dX0_kthListed_10 : decode cX0_kthListed 10 = .ok (.istore 7, 2) := by decide +kernel
theorem dX0_kthListed_12 : decode cX0_kthListed 12 = .ok (.iload 7, 2) := by decide +kernel
theorem dX0_kthListed_14 : decode cX0_kthListed 14 = .ok (.bipush 32, 2) := by decide +kernel
theorem dX0_kthListed_16 : decode cX0_kthListed 16 = .ok (.if_icmp .ge 40, 3) := by decide +kernel
theorem dX0_kthListed_19 : decode cX0_kthListed 19 = .ok (.lload_n 3, 1) := by decide +kernel
theorem dX0_kthListed_20 : decode cX0_kthListed 20 = .ok (.lload 5, 2) := by decide +kernel
theorem dX0_kthListed_22 : decode cX0_kthListed 22 = .ok (.ladd, 1) := by decide +kernel
theorem dX0_kthListed_23 : decode cX0_kthListed 23 = .ok (.iconst 1, 1) := by decide +kernel
theorem dX0_kthListed_24 : decode cX0_kthListed 24 = .ok (.lshr, 1) := by decide +kernel
theorem dX0_kthListed_25 : decode cX0_kthListed 25 = .ok (.lstore 8, 2) := by decide +kernel
theorem dX0_kthListed_27 : decode cX0_kthListed 27 = .ok (.aload_n 0, 1) := by decide +kernel
theorem dX0_kthListed_28 : decode cX0_kthListed 28 = .ok (.iload_n 1, 1) := by decide +kernel
theorem dX0_kthListed_29 : decode cX0_kthListed 29 = .ok (.lload 8, 2) := by decide +kernel
theorem dX0_kthListed_31 : decode cX0_kthListed 31 = .ok (.invokevirtual 128, 3) := by decide +kernel
theorem dX0_kthListed_34 : decode cX0_kthListed 34 = .ok (.iload_n 2, 1) := by decide +kernel
theorem dX0_kthListed_35 : decode cX0_kthListed 35 = .ok (.if_icmp .le 10, 3) := by decide +kernel
theorem dX0_kthListed_38 : decode cX0_kthListed 38 = .ok (.lload 8, 2) := by decide +kernel
theorem dX0_kthListed_40 : decode cX0_kthListed 40 = .ok (.lstore 5, 2) := by decide +kernel
theorem dX0_kthListed_42 : decode cX0_kthListed 42 = .ok (.goto 8, 3) := by decide +kernel
theorem dX0_kthListed_45 : decode cX0_kthListed 45 = .ok (.lload 8, 2) := by decide +kernel
theorem dX0_kthListed_47 : decode cX0_kthListed 47 = .ok (.lconst 1, 1) := by decide +kernel
theorem dX0_kthListed_48 : decode cX0_kthListed 48 = .ok (.ladd, 1) := by decide +kernel
theorem dX0_kthListed_49 : decode cX0_kthListed 49 = .ok (.lstore_n 3, 1) := by decide +kernel
theorem dX0_kthListed_50 : decode cX0_kthListed 50 = .ok (.iinc 7 1, 3) := by decide +kernel
theorem dX0_kthListed_53 : decode cX0_kthListed 53 = .ok (.goto (-41), 3) := by decide +kernel
theorem dX0_kthListed_56 : decode cX0_kthListed 56 = .ok (.lload_n 3, 1) := by decide +kernel
theorem dX0_kthListed_57 : decode cX0_kthListed 57 = .ok (.lreturn, 1) := by decide +kernel
set_option maxRecDepth 20000 in
theorem ggX0_countUpTo_X0_listedKey : GoodIn wsX0_countUpTo wsX0_listedKey := goodIn_r _ [5, 6, 7, 8, 4, 9, 10, 11, 12, 13, 14, 15, 16, 17] (by decide +kernel) (by decide +kernel)
set_option maxRecDepth 20000 in
theorem gX0_countUpTo_X0_listedKey : GoodIn wsX0_countUpTo (wsV RX0 90 RX0 yX0_listedKey wsX0_listedKey) := goodIn_app (goodIn_of _ (by decide +kernel)) ggX0_countUpTo_X0_listedKey
theorem dX0_countUpTo_0 : decode cX0_countUpTo 0 = .ok (.iconst 0, 1) := by decide +kernel
theorem dX0_countUpTo_1 : decode cX0_countUpTo 1 = .ok (.istore 4, 2) := by decide +kernel
theorem dX0_countUpTo_3 : decode cX0_countUpTo 3 = .ok (.iconst 0, 1) := by decide +kernel
theorem dX0_countUpTo_4 : decode cX0_countUpTo 4 = .ok (.istore 5, 2) := by decide +kernel
theorem dX0_countUpTo_6 : decode cX0_countUpTo 6 = .ok (.iload 5, 2) := by decide +kernel
theorem dX0_countUpTo_8 : decode cX0_countUpTo 8 = .ok (.iload_n 1, 1) := by decide +kernel
theorem dX0_countUpTo_9 : decode cX0_countUpTo 9 = .ok (.if_icmp .ge 24, 3) := by decide +kernel
theorem dX0_countUpTo_12 : decode cX0_countUpTo 12 = .ok (.aload_n 0, 1) := by decide +kernel
theorem dX0_countUpTo_13 : decode cX0_countUpTo 13 = .ok (.iload 5, 2) := by decide +kernel
theorem dX0_countUpTo_15 : decode cX0_countUpTo 15 = .ok (.invokevirtual 90, 3) := by decide +kernel
theorem dX0_countUpTo_18 : decode cX0_countUpTo 18 = .ok (.i2l, 1) := by decide +kernel
theorem dX0_countUpTo_19 : decode cX0_countUpTo 19 = .ok (.lload_n 2, 1) := by decide +kernel
theorem dX0_countUpTo_20 : decode cX0_countUpTo 20 = .ok (.lcmp, 1) := by decide +kernel
theorem dX0_countUpTo_21 : decode cX0_countUpTo 21 = .ok (.ifCond .gt 6, 3) := by decide +kernel
theorem dX0_countUpTo_24 : decode cX0_countUpTo 24 = .ok (.iinc 4 1, 3) := by decide +kernel
theorem dX0_countUpTo_27 : decode cX0_countUpTo 27 = .ok (.iinc 5 1, 3) := by decide +kernel
theorem dX0_countUpTo_30 : decode cX0_countUpTo 30 = .ok (.goto (-24), 3) := by decide +kernel
theorem dX0_countUpTo_33 : decode cX0_countUpTo 33 = .ok (.iload 4, 2) := by decide +kernel
theorem dX0_countUpTo_35 : decode cX0_countUpTo 35 = .ok (.ireturn, 1) := by decide +kernel
theorem dX1_init_0 : decode cX1_init 0 = .ok (.aload_n 0, 1) := by decide +kernel
theorem dX1_init_1 : decode cX1_init 1 = .ok (.invokespecial 1, 3) := by decide +kernel
theorem dX1_init_4 : decode cX1_init 4 = .ok (.aload_n 0, 1) := by decide +kernel
theorem dX1_init_5 : decode cX1_init 5 = .ok (.sipush 200, 3) := by decide +kernel
theorem dX1_init_8 : decode cX1_init 8 = .ok (.newarray .int, 2) := by decide +kernel
theorem dX1_init_10 : decode cX1_init 10 = .ok (.putfield 7, 3) := by decide +kernel
theorem dX1_init_13 : decode cX1_init 13 = .ok (.aload_n 0, 1) := by decide +kernel
theorem dX1_init_14 : decode cX1_init 14 = .ok (.sipush 200, 3) := by decide +kernel
theorem dX1_init_17 : decode cX1_init 17 = .ok (.newarray .int, 2) := by decide +kernel
theorem dX1_init_19 : decode cX1_init 19 = .ok (.putfield 13, 3) := by decide +kernel
theorem dX1_init_22 : decode cX1_init 22 = .ok (.aload_n 0, 1) := by decide +kernel
theorem dX1_init_23 : decode cX1_init 23 = .ok (.sipush 200, 3) := by decide +kernel
theorem dX1_init_26 : decode cX1_init 26 = .ok (.newarray .boolean, 2) := by decide +kernel
theorem dX1_init_28 : decode cX1_init 28 = .ok (.putfield 16, 3) := by decide +kernel
theorem dX1_init_31 : decode cX1_init 31 = .ok (.return_, 1) := by decide +kernel
theorem dX1_isHeap_0 : decode cX1_isHeap 0 = .ok (.iload_n 1, 1) := by decide +kernel
theorem dX1_isHeap_1 : decode cX1_isHeap 1 = .ok (.ifCond .lt 15, 3) := by decide +kernel
theorem dX1_isHeap_4 : decode cX1_isHeap 4 = .ok (.iload_n 1, 1) := by decide +kernel
theorem dX1_isHeap_5 : decode cX1_isHeap 5 = .ok (.aload_n 0, 1) := by decide +kernel
theorem dX1_isHeap_6 : decode cX1_isHeap 6 = .ok (.getfield 20, 3) := by decide +kernel
theorem dX1_isHeap_9 : decode cX1_isHeap 9 = .ok (.if_icmp .ge 7, 3) := by decide +kernel
theorem dX1_isHeap_12 : decode cX1_isHeap 12 = .ok (.iconst 1, 1) := by decide +kernel
theorem dX1_isHeap_13 : decode cX1_isHeap 13 = .ok (.goto 4, 3) := by decide +kernel
theorem dX1_isHeap_16 : decode cX1_isHeap 16 = .ok (.iconst 0, 1) := by decide +kernel
theorem dX1_isHeap_17 : decode cX1_isHeap 17 = .ok (.ireturn, 1) := by decide +kernel
theorem dX1_heap_0 : decode cX1_heap 0 = .ok (.aload_n 0, 1) := by decide +kernel
theorem dX1_heap_1 : decode cX1_heap 1 = .ok (.getfield 20, 3) := by decide +kernel
theorem dX1_heap_4 : decode cX1_heap 4 = .ok (.bipush 8, 2) := by decide +kernel
theorem dX1_heap_6 : decode cX1_heap 6 = .ok (.if_icmp .ne 5, 3) := by decide +kernel
theorem dX1_heap_9 : decode cX1_heap 9 = .ok (.iconst (-1), 1) := by decide +kernel
theorem dX1_heap_10 : decode cX1_heap 10 = .ok (.ireturn, 1) := by decide +kernel
theorem dX1_heap_11 : decode cX1_heap 11 = .ok (.aload_n 0, 1) := by decide +kernel
theorem dX1_heap_12 : decode cX1_heap 12 = .ok (.dup, 1) := by decide +kernel
theorem dX1_heap_13 : decode cX1_heap 13 = .ok (.getfield 20, 3) := by decide +kernel
theorem dX1_heap_16 : decode cX1_heap 16 = .ok (.iconst 1, 1) := by decide +kernel
theorem dX1_heap_17 : decode cX1_heap 17 = .ok (.iadd, 1) := by decide +kernel
theorem dX1_heap_18 : decode cX1_heap 18 = .ok (.putfield 20, 3) := by decide +kernel
theorem dX1_heap_21 : decode cX1_heap 21 = .ok (.aload_n 0, 1) := by decide +kernel
theorem dX1_heap_22 : decode cX1_heap 22 = .ok (.getfield 20, 3) := by decide +kernel
theorem dX1_heap_25 : decode cX1_heap 25 = .ok (.iconst 1, 1) := by decide +kernel
theorem dX1_heap_26 : decode cX1_heap 26 = .ok (.isub, 1) := by decide +kernel
theorem dX1_heap_27 : decode cX1_heap 27 = .ok (.ireturn, 1) := by decide +kernel
theorem dX1_sizeOf_0 : decode cX1_sizeOf 0 = .ok (.iconst 0, 1) := by decide +kernel
theorem dX1_sizeOf_1 : decode cX1_sizeOf 1 = .ok (.istore_n 2, 1) := by decide +kernel
theorem dX1_sizeOf_2 : decode cX1_sizeOf 2 = .ok (.iconst 0, 1) := by decide +kernel
theorem dX1_sizeOf_3 : decode cX1_sizeOf 3 = .ok (.istore_n 3, 1) := by decide +kernel
theorem dX1_sizeOf_4 : decode cX1_sizeOf 4 = .ok (.iload_n 3, 1) := by decide +kernel
theorem dX1_sizeOf_5 : decode cX1_sizeOf 5 = .ok (.aload_n 0, 1) := by decide +kernel
theorem dX1_sizeOf_6 : decode cX1_sizeOf 6 = .ok (.getfield 24, 3) := by decide +kernel
theorem dX1_sizeOf_9 : decode cX1_sizeOf 9 = .ok (.if_icmp .ge 27, 3) := by decide +kernel
theorem dX1_sizeOf_12 : decode cX1_sizeOf 12 = .ok (.iload_n 2, 1) := by decide +kernel
theorem dX1_sizeOf_13 : decode cX1_sizeOf 13 = .ok (.aload_n 0, 1) := by decide +kernel
theorem dX1_sizeOf_14 : decode cX1_sizeOf 14 = .ok (.getfield 7, 3) := by decide +kernel
theorem dX1_sizeOf_17 : decode cX1_sizeOf 17 = .ok (.iload_n 3, 1) := by decide +kernel
theorem dX1_sizeOf_18 : decode cX1_sizeOf 18 = .ok (.iaload, 1) := by decide +kernel
theorem dX1_sizeOf_19 : decode cX1_sizeOf 19 = .ok (.iload_n 1, 1) := by decide +kernel
theorem dX1_sizeOf_20 : decode cX1_sizeOf 20 = .ok (.if_icmp .ne 7, 3) := by decide +kernel
theorem dX1_sizeOf_23 : decode cX1_sizeOf 23 = .ok (.iconst 1, 1) := by decide +kernel
theorem dX1_sizeOf_24 : decode cX1_sizeOf 24 = .ok (.goto 4, 3) := by decide +kernel
theorem dX1_sizeOf_27 : decode cX1_sizeOf 27 = .ok (.iconst 0, 1) := by decide +kernel
theorem dX1_sizeOf_28 : decode cX1_sizeOf 28 = .ok (.iadd, 1) := by decide +kernel
theorem dX1_sizeOf_29 : decode cX1_sizeOf 29 = .ok (.istore_n 2, 1) := by decide +kernel
theorem dX1_sizeOf_30 : decode cX1_sizeOf 30 = .ok (.iinc 3 1, 3) := by decide +kernel
theorem dX1_sizeOf_33 : decode cX1_sizeOf 33 = .ok (.goto (-29), 3) := by decide +kernel
theorem dX1_sizeOf_36 : decode cX1_sizeOf 36 = .ok (.iload_n 2, 1) := by decide +kernel
theorem dX1_sizeOf_37 : decode cX1_sizeOf 37 = .ok (.ireturn, 1) := by decide +kernel
set_option maxRecDepth 20000 in
theorem ggX1_add_X1_isHeap : GoodIn wsX1_add wsX1_isHeap := goodIn_r _ [8, 9, 14, 15, 16, 17, 18] (by decide +kernel) (by decide +kernel)
set_option maxRecDepth 20000 in
theorem gX1_add_X1_isHeap : GoodIn wsX1_add (wsV RX1 27 RX1 yX1_isHeap wsX1_isHeap) := goodIn_app (goodIn_of _ (by decide +kernel)) ggX1_add_X1_isHeap
set_option maxRecDepth 20000 in
theorem ggX1_add_X1_sizeOf : GoodIn wsX1_add wsX1_sizeOf := goodIn_r _ [13, 1, 2, 14, 15, 16, 17, 18] (by decide +kernel) (by decide +kernel)
set_option maxRecDepth 20000 in
theorem gX1_add_X1_sizeOf : GoodIn wsX1_add (wsV RX1 31 RX1 yX1_sizeOf wsX1_sizeOf) := goodIn_app (goodIn_of _ (by decide +kernel)) ggX1_add_X1_sizeOf
theorem dX1_add_0 : decode cX1_add 0 = .ok (.aload_n 0, 1) := by decide +kernel
theorem dX1_add_1 : decode cX1_add 1 = .ok (.iload_n 1, 1) := by decide +kernel
theorem dX1_add_2 : decode cX1_add 2 = .ok (.invokevirtual 27, 3) := by decide +kernel
theorem dX1_add_5 : decode cX1_add 5 = .ok (.ifCond .ne 5, 3) := by decide +kernel
theorem dX1_add_8 : decode cX1_add 8 = .ok (.iconst (-1), 1) := by decide +kernel
theorem dX1_add_9 : decode cX1_add 9 = .ok (.ireturn, 1) := by decide +kernel
theorem dX1_add_10 : decode cX1_add 10 = .ok (.aload_n 0, 1) := by decide +kernel
theorem dX1_add_11 : decode cX1_add 11 = .ok (.getfield 24, 3) := by decide +kernel
theorem dX1_add_14 : decode cX1_add 14 = .ok (.sipush 200, 3) := by decide +kernel
theorem dX1_add_17 : decode cX1_add 17 = .ok (.if_icmp .ne 6, 3) := by decide +kernel
theorem dX1_add_20 : decode cX1_add 20 = .ok (.bipush (-2), 2) := by decide +kernel
theorem dX1_add_22 : decode cX1_add 22 = .ok (.ireturn, 1) := by decide +kernel
theorem dX1_add_23 : decode cX1_add 23 = .ok (.aload_n 0, 1) := by decide +kernel
theorem dX1_add_24 : decode cX1_add 24 = .ok (.getfield 7, 3) := by decide +kernel
theorem dX1_add_27 : decode cX1_add 27 = .ok (.aload_n 0, 1) := by decide +kernel
theorem dX1_add_28 : decode cX1_add 28 = .ok (.getfield 24, 3) := by decide +kernel
theorem dX1_add_31 : decode cX1_add 31 = .ok (.iload_n 1, 1) := by decide +kernel
theorem dX1_add_32 : decode cX1_add 32 = .ok (.iastore, 1) := by decide +kernel
theorem dX1_add_33 : decode cX1_add 33 = .ok (.aload_n 0, 1) := by decide +kernel
theorem dX1_add_34 : decode cX1_add 34 = .ok (.getfield 13, 3) := by decide +kernel
theorem dX1_add_37 : decode cX1_add 37 = .ok (.aload_n 0, 1) := by decide +kernel
theorem dX1_add_38 : decode cX1_add 38 = .ok (.getfield 24, 3) := by decide +kernel
theorem dX1_add_41 : decode cX1_add 41 = .ok (.iload_n 2, 1) := by decide +kernel
theorem dX1_add_42 : decode cX1_add 42 = .ok (.iastore, 1) := by decide +kernel
theorem dX1_add_43 : decode cX1_add 43 = .ok (.aload_n 0, 1) := by decide +kernel
theorem dX1_add_44 : decode cX1_add 44 = .ok (.dup, 1) := by decide +kernel
theorem dX1_add_45 : decode cX1_add 45 = .ok (.getfield 24, 3) := by decide +kernel
theorem dX1_add_48 : decode cX1_add 48 = .ok (.iconst 1, 1) := by decide +kernel
theorem dX1_add_49 : decode cX1_add 49 = .ok (.iadd, 1) := by decide +kernel
theorem dX1_add_50 : decode cX1_add 50 = .ok (.putfield 24, 3) := by decide +kernel
theorem dX1_add_53 : decode cX1_add 53 = .ok (.aload_n 0, 1) := by decide +kernel
theorem dX1_add_54 : decode cX1_add 54 = .ok (.iload_n 1, 1) := by decide +kernel
theorem dX1_add_55 : decode cX1_add 55 = .ok (.invokevirtual 31, 3) := by decide +kernel
theorem dX1_add_58 : decode cX1_add 58 = .ok (.ireturn, 1) := by decide +kernel
theorem dX1_placeOf_0 : decode cX1_placeOf 0 = .ok (.iconst (-1), 1) := by decide +kernel
theorem dX1_placeOf_1 : decode cX1_placeOf 1 = .ok (.istore_n 2, 1) := by decide +kernel
theorem dX1_placeOf_2 : decode cX1_placeOf 2 = .ok (.iconst 0, 1) := by decide +kernel
theorem dX1_placeOf_3 : decode cX1_placeOf 3 = .ok (.istore_n 3, 1) := by decide +kernel
theorem dX1_placeOf_4 : decode cX1_placeOf 4 = .ok (.iload_n 3, 1) := by decide +kernel
theorem dX1_placeOf_5 : decode cX1_placeOf 5 = .ok (.aload_n 0, 1) := by decide +kernel
theorem dX1_placeOf_6 : decode cX1_placeOf 6 = .ok (.getfield 24, 3) := by decide +kernel
theorem dX1_placeOf_9 : decode cX1_placeOf 9 = .ok (.if_icmp .ge 53, 3) := by decide +kernel
theorem dX1_placeOf_12 : decode cX1_placeOf 12 = .ok (.aload_n 0, 1) := by decide +kernel
theorem dX1_placeOf_13 : decode cX1_placeOf 13 = .ok (.getfield 7, 3) := by decide +kernel
theorem dX1_placeOf_16 : decode cX1_placeOf 16 = .ok (.iload_n 3, 1) := by decide +kernel
theorem dX1_placeOf_17 : decode cX1_placeOf 17 = .ok (.iaload, 1) := by decide +kernel
theorem dX1_placeOf_18 : decode cX1_placeOf 18 = .ok (.iload_n 1, 1) := by decide +kernel
theorem dX1_placeOf_19 : decode cX1_placeOf 19 = .ok (.if_icmp .ne 35, 3) := by decide +kernel
theorem dX1_placeOf_22 : decode cX1_placeOf 22 = .ok (.aload_n 0, 1) := by decide +kernel
theorem dX1_placeOf_23 : decode cX1_placeOf 23 = .ok (.getfield 16, 3) := by decide +kernel
theorem dX1_placeOf_26 : decode cX1_placeOf 26 = .ok (.iload_n 3, 1) := by decide +kernel
theorem dX1_placeOf_27 : decode cX1_placeOf 27 = .ok (.baload, 1) := by decide +kernel
theorem dX1_placeOf_28 : decode cX1_placeOf 28 = .ok (.ifCond .ne 26, 3) := by decide +kernel
theorem dX1_placeOf_31 : decode cX1_placeOf 31 = .ok (.iload_n 2, 1) := by decide +kernel
theorem dX1_placeOf_32 : decode cX1_placeOf 32 = .ok (.ifCond .lt 18, 3) := by decide +kernel
theorem dX1_placeOf_35 : decode cX1_placeOf 35 = .ok (.aload_n 0, 1) := by decide +kernel
theorem dX1_placeOf_36 : decode cX1_placeOf 36 = .ok (.getfield 13, 3) := by decide +kernel
theorem dX1_placeOf_39 : decode cX1_placeOf 39 = .ok (.iload_n 3, 1) := by decide +kernel
theorem dX1_placeOf_40 : decode cX1_placeOf 40 = .ok (.iaload, 1) := by decide +kernel
theorem dX1_placeOf_41 : decode cX1_placeOf 41 = .ok (.aload_n 0, 1) := by decide +kernel
theorem dX1_placeOf_42 : decode cX1_placeOf 42 = .ok (.getfield 13, 3) := by decide +kernel
theorem dX1_placeOf_45 : decode cX1_placeOf 45 = .ok (.iload_n 2, 1) := by decide +kernel
theorem dX1_placeOf_46 : decode cX1_placeOf 46 = .ok (.iaload, 1) := by decide +kernel
theorem dX1_placeOf_47 : decode cX1_placeOf 47 = .ok (.if_icmp .ge 7, 3) := by decide +kernel
theorem dX1_placeOf_50 : decode cX1_placeOf 50 = .ok (.iload_n 3, 1) := by decide +kernel
theorem dX1_placeOf_51 : decode cX1_placeOf 51 = .ok (.goto 4, 3) := by decide +kernel
theorem dX1_placeOf_54 : decode cX1_placeOf 54 = .ok (.iload_n 2, 1) := by decide +kernel
theorem dX1_placeOf_55 : decode cX1_placeOf 55 = .ok (.istore_n 2, 1) := by decide +kernel
theorem dX1_placeOf_56 : decode cX1_placeOf 56 = .ok (.iinc 3 1, 3) := by decide +kernel
theorem dX1_placeOf_59 : decode cX1_placeOf 59 = .ok (.goto (-55), 3) := by decide +kernel
theorem dX1_placeOf_62 : decode cX1_placeOf 62 = .ok (.iload_n 2, 1) := by decide +kernel
theorem dX1_placeOf_63 : decode cX1_placeOf 63 = .ok (.ireturn, 1) := by decide +kernel
theorem dX1_untell_0 : decode cX1_untell 0 = .ok (.iconst 0, 1) := by decide +kernel
theorem dX1_untell_1 : decode cX1_untell 1 = .ok (.istore_n 1, 1) := by decide +kernel
theorem dX1_untell_2 : decode cX1_untell 2 = .ok (.iload_n 1, 1) := by decide +kernel
theorem dX1_untell_3 : decode cX1_untell 3 = .ok (.sipush 200, 3) := by decide +kernel
theorem dX1_untell_6 : decode cX1_untell 6 = .ok (.if_icmp .ge 16, 3) := by decide +kernel
theorem dX1_untell_9 : decode cX1_untell 9 = .ok (.aload_n 0, 1) := by decide +kernel
theorem dX1_untell_10 : decode cX1_untell 10 = .ok (.getfield 16, 3) := by decide +kernel
theorem dX1_untell_13 : decode cX1_untell 13 = .ok (.iload_n 1, 1) := by decide +kernel
theorem dX1_untell_14 : decode cX1_untell 14 = .ok (.iconst 0, 1) := by decide +kernel
theorem dX1_untell_15 : decode cX1_untell 15 = .ok (.bastore, 1) := by decide +kernel
theorem dX1_untell_16 : decode cX1_untell 16 = .ok (.iinc 1 1, 3) := by decide +kernel
theorem dX1_untell_19 : decode cX1_untell 19 = .ok (.goto (-17), 3) := by decide +kernel
theorem dX1_untell_22 : decode cX1_untell 22 = .ok (.return_, 1) := by decide +kernel
set_option maxRecDepth 20000 in
theorem ggX1_least_X1_untell : GoodIn wsX1_least wsX1_untell := goodIn_r _ [7, 8, 20, 21, 22, 23, 24] (by decide +kernel) (by decide +kernel)
set_option maxRecDepth 20000 in
theorem gX1_least_X1_untell : GoodIn wsX1_least (wsV RX1 35 RX1 yX1_untell wsX1_untell) := goodIn_app (goodIn_of _ (by decide +kernel)) ggX1_least_X1_untell
set_option maxRecDepth 20000 in
theorem ggX1_least_X1_isHeap : GoodIn wsX1_least wsX1_isHeap := goodIn_r _ [12, 13, 20, 21, 22, 23, 24] (by decide +kernel) (by decide +kernel)
set_option maxRecDepth 20000 in
theorem gX1_least_X1_isHeap : GoodIn wsX1_least (wsV RX1 27 RX1 yX1_isHeap wsX1_isHeap) := goodIn_app (goodIn_of _ (by decide +kernel)) ggX1_least_X1_isHeap
set_option maxRecDepth 20000 in
theorem ggX1_least_X1_placeOf : GoodIn wsX1_least wsX1_placeOf := goodIn_r _ [17, 18, 19, 8, 2, 20, 21, 22, 23, 24] (by decide +kernel) (by decide +kernel)
set_option maxRecDepth 20000 in
theorem gX1_least_X1_placeOf : GoodIn wsX1_least (wsV RX1 38 RX1 yX1_placeOf wsX1_placeOf) := goodIn_app (goodIn_of _ (by decide +kernel)) ggX1_least_X1_placeOf
theorem dX1_least_0 : decode cX1_least 0 = .ok (.aload_n 0, 1) := by decide +kernel
theorem dX1_least_1 : decode cX1_least 1 = .ok (.invokevirtual 35, 3) := by decide +kernel
theorem dX1_least_4 : decode cX1_least 4 = .ok (.aload_n 0, 1) := by decide +kernel
theorem dX1_least_5 : decode cX1_least 5 = .ok (.iload_n 1, 1) := by decide +kernel
theorem dX1_least_6 : decode cX1_least 6 = .ok (.invokevirtual 27, 3) := by decide +kernel
theorem dX1_least_9 : decode cX1_least 9 = .ok (.ifCond .eq 11, 3) := by decide +kernel
theorem dX1_least_12 : decode cX1_least 12 = .ok (.aload_n 0, 1) := by decide +kernel
theorem dX1_least_13 : decode cX1_least 13 = .ok (.iload_n 1, 1) := by decide +kernel
theorem dX1_least_14 : decode cX1_least 14 = .ok (.invokevirtual 38, 3) := by decide +kernel
theorem dX1_least_17 : decode cX1_least 17 = .ok (.goto 4, 3) := by decide +kernel
theorem dX1_least_20 : decode cX1_least 20 = .ok (.iconst (-1), 1) := by decide +kernel
theorem dX1_least_21 : decode cX1_least 21 = .ok (.istore_n 2, 1) := by decide +kernel
theorem dX1_least_22 : decode cX1_least 22 = .ok (.iload_n 2, 1) := by decide +kernel
theorem dX1_least_23 : decode cX1_least 23 = .ok (.ifCond .ge 9, 3) := by decide +kernel
theorem dX1_least_26 : decode cX1_least 26 = .ok (.ldc2_w 41, 3) := by decide +kernel
theorem dX1_least_29 : decode cX1_least 29 = .ok (.goto 10, 3) := by decide +kernel
theorem dX1_least_32 : decode cX1_least 32 = .ok (.aload_n 0, 1) := by decide +kernel
theorem dX1_least_33 : decode cX1_least 33 = .ok (.getfield 13, 3) := by decide +kernel
theorem dX1_least_36 : decode cX1_least 36 = .ok (.iload_n 2, 1) := by decide +kernel
theorem dX1_least_37 : decode cX1_least 37 = .ok (.iaload, 1) := by decide +kernel
theorem dX1_least_38 : decode cX1_least 38 = .ok (.i2l, 1) := by decide +kernel
theorem dX1_least_39 : decode cX1_least 39 = .ok (.lreturn, 1) := by decide +kernel
set_option maxRecDepth 20000 in
theorem ggX1_take_X1_untell : GoodIn wsX1_take wsX1_untell := goodIn_r _ [9, 10, 20, 21, 22, 23, 24] (by decide +kernel) (by decide +kernel)
set_option maxRecDepth 20000 in
theorem gX1_take_X1_untell : GoodIn wsX1_take (wsV RX1 35 RX1 yX1_untell wsX1_untell) := goodIn_app (goodIn_of _ (by decide +kernel)) ggX1_take_X1_untell
set_option maxRecDepth 20000 in
theorem ggX1_take_X1_isHeap : GoodIn wsX1_take wsX1_isHeap := goodIn_r _ [14, 15, 20, 21, 22, 23, 24] (by decide +kernel) (by decide +kernel)
set_option maxRecDepth 20000 in
theorem gX1_take_X1_isHeap : GoodIn wsX1_take (wsV RX1 27 RX1 yX1_isHeap wsX1_isHeap) := goodIn_app (goodIn_of _ (by decide +kernel)) ggX1_take_X1_isHeap
set_option maxRecDepth 20000 in
theorem ggX1_take_X1_placeOf : GoodIn wsX1_take wsX1_placeOf := goodIn_r _ [19, 3, 4, 10, 2, 20, 21, 22, 23, 24] (by decide +kernel) (by decide +kernel)
set_option maxRecDepth 20000 in
theorem gX1_take_X1_placeOf : GoodIn wsX1_take (wsV RX1 38 RX1 yX1_placeOf wsX1_placeOf) := goodIn_app (goodIn_of _ (by decide +kernel)) ggX1_take_X1_placeOf
theorem dX1_take_0 : decode cX1_take 0 = .ok (.aload_n 0, 1) := by decide +kernel
theorem dX1_take_1 : decode cX1_take 1 = .ok (.invokevirtual 35, 3) := by decide +kernel
theorem dX1_take_4 : decode cX1_take 4 = .ok (.aload_n 0, 1) := by decide +kernel
theorem dX1_take_5 : decode cX1_take 5 = .ok (.iload_n 1, 1) := by decide +kernel
theorem dX1_take_6 : decode cX1_take 6 = .ok (.invokevirtual 27, 3) := by decide +kernel
theorem dX1_take_9 : decode cX1_take 9 = .ok (.ifCond .eq 11, 3) := by decide +kernel
theorem dX1_take_12 : decode cX1_take 12 = .ok (.aload_n 0, 1) := by decide +kernel
theorem dX1_take_13 : decode cX1_take 13 = .ok (.iload_n 1, 1) := by decide +kernel
theorem dX1_take_14 : decode cX1_take 14 = .ok (.invokevirtual 38, 3) := by decide +kernel
theorem dX1_take_17 : decode cX1_take 17 = .ok (.goto 4, 3) := by decide +kernel
theorem dX1_take_20 : decode cX1_take 20 = .ok (.iconst (-1), 1) := by decide +kernel
theorem dX1_take_21 : decode cX1_take 21 = .ok (.istore_n 2, 1) := by decide +kernel
theorem dX1_take_22 : decode cX1_take 22 = .ok (.iload_n 2, 1) := by decide +kernel
theorem dX1_take_23 : decode cX1_take 23 = .ok (.ifCond .ge 7, 3) := by decide +kernel
theorem dX1_take_26 : decode cX1_take 26 = .ok (.ldc2_w 41, 3) := by decide +kernel
theorem dX1_take_29 : decode cX1_take 29 = .ok (.lreturn, 1) := by decide +kernel
theorem dX1_take_30 : decode cX1_take 30 = .ok (.aload_n 0, 1) := by decide +kernel
theorem dX1_take_31 : decode cX1_take 31 = .ok (.getfield 13, 3) := by decide +kernel
theorem dX1_take_34 : decode cX1_take 34 = .ok (.iload_n 2, 1) := by decide +kernel
theorem dX1_take_35 : decode cX1_take 35 = .ok (.iaload, 1) := by decide +kernel
theorem dX1_take_36 : decode cX1_take 36 = .ok (.i2l, 1) := by decide +kernel
theorem dX1_take_37 : decode cX1_take 37 = .ok (.lstore_n 3, 1) := by decide +kernel
theorem dX1_take_38 : decode cX1_take 38 = .ok (.aload_n 0, 1) := by decide +kernel
theorem dX1_take_39 : decode cX1_take 39 = .ok (.dup, 1) := by decide +kernel
theorem dX1_take_40 : decode cX1_take 40 = .ok (.getfield 24, 3) := by decide +kernel
theorem dX1_take_43 : decode cX1_take 43 = .ok (.iconst 1, 1) := by decide +kernel
theorem dX1_take_44 : decode cX1_take 44 = .ok (.isub, 1) := by decide +kernel
theorem dX1_take_45 : decode cX1_take 45 = .ok (.putfield 24, 3) := by decide +kernel
theorem dX1_take_48 : decode cX1_take 48 = .ok (.aload_n 0, 1) := by decide +kernel
theorem dX1_take_49 : decode cX1_take 49 = .ok (.getfield 7, 3) := by decide +kernel
theorem dX1_take_52 : decode cX1_take 52 = .ok (.iload_n 2, 1) := by decide +kernel
theorem dX1_take_53 : decode cX1_take 53 = .ok (.aload_n 0, 1) := by decide +kernel
theorem dX1_take_54 : decode cX1_take 54 = .ok (.getfield 7, 3) := by decide +kernel
theorem dX1_take_57 : decode cX1_take 57 = .ok (.aload_n 0, 1) := by decide +kernel
theorem dX1_take_58 : decode cX1_take 58 = .ok (.getfield 24, 3) := by decide +kernel
theorem dX1_take_61 : decode cX1_take 61 = .ok (.iaload, 1) := by decide +kernel
theorem dX1_take_62 : decode cX1_take 62 = .ok (.iastore, 1) := by decide +kernel
theorem dX1_take_63 : decode cX1_take 63 = .ok (.aload_n 0, 1) := by decide +kernel
theorem dX1_take_64 : decode cX1_take 64 = .ok (.getfield 13, 3) := by decide +kernel
theorem dX1_take_67 : decode cX1_take 67 = .ok (.iload_n 2, 1) := by decide +kernel
theorem dX1_take_68 : decode cX1_take 68 = .ok (.aload_n 0, 1) := by decide +kernel
theorem dX1_take_69 : decode cX1_take 69 = .ok (.getfield 13, 3) := by decide +kernel
theorem dX1_take_72 : decode cX1_take 72 = .ok (.aload_n 0, 1) := by decide +kernel
theorem dX1_take_73 : decode cX1_take 73 = .ok (.getfield 24, 3) := by decide +kernel
theorem dX1_take_76 : decode cX1_take 76 = .ok (.iaload, 1) := by decide +kernel
theorem dX1_take_77 : decode cX1_take 77 = .ok (.iastore, 1) := by decide +kernel
theorem dX1_take_78 : decode cX1_take 78 = .ok (.lload_n 3, 1) := by decide +kernel
theorem dX1_take_79 : decode cX1_take 79 = .ok (.lreturn, 1) := by decide +kernel
set_option maxRecDepth 20000 in
theorem ggX1_meld_X1_isHeap : GoodIn wsX1_meld wsX1_isHeap := goodIn_r _ [7, 8, 13, 14, 15, 16, 17] (by decide +kernel) (by decide +kernel)
set_option maxRecDepth 20000 in
theorem gX1_meld_X1_isHeap : GoodIn wsX1_meld (wsV RX1 27 RX1 yX1_isHeap wsX1_isHeap) := goodIn_app (goodIn_of _ (by decide +kernel)) ggX1_meld_X1_isHeap
set_option maxRecDepth 20000 in
theorem ggX1_meld_X1_sizeOf : GoodIn wsX1_meld wsX1_sizeOf := goodIn_r _ [12, 1, 2, 13, 14, 15, 16, 17] (by decide +kernel) (by decide +kernel)
set_option maxRecDepth 20000 in
theorem gX1_meld_X1_sizeOf : GoodIn wsX1_meld (wsV RX1 31 RX1 yX1_sizeOf wsX1_sizeOf) := goodIn_app (goodIn_of _ (by decide +kernel)) ggX1_meld_X1_sizeOf
theorem dX1_meld_0 : decode cX1_meld 0 = .ok (.aload_n 0, 1) := by decide +kernel
theorem dX1_meld_1 : decode cX1_meld 1 = .ok (.iload_n 1, 1) := by decide +kernel
theorem dX1_meld_2 : decode cX1_meld 2 = .ok (.invokevirtual 27, 3) := by decide +kernel
theorem dX1_meld_5 : decode cX1_meld 5 = .ok (.ifCond .eq 16, 3) := by decide +kernel
theorem dX1_meld_8 : decode cX1_meld 8 = .ok (.aload_n 0, 1) := by decide +kernel
theorem dX1_meld_9 : decode cX1_meld 9 = .ok (.iload_n 2, 1) := by decide +kernel
theorem dX1_meld_10 : decode cX1_meld 10 = .ok (.invokevirtual 27, 3) := by decide +kernel
theorem dX1_meld_13 : decode cX1_meld 13 = .ok (.ifCond .eq 8, 3) := by decide +kernel
theorem dX1_meld_16 : decode cX1_meld 16 = .ok (.iload_n 1, 1) := by decide +kernel
theorem dX1_meld_17 : decode cX1_meld 17 = .ok (.iload_n 2, 1) := by decide +kernel
theorem dX1_meld_18 : decode cX1_meld 18 = .ok (.if_icmp .ne 5, 3) := by decide +kernel
theorem dX1_meld_21 : decode cX1_meld 21 = .ok (.iconst (-1), 1) := by decide +kernel
theorem dX1_meld_22 : decode cX1_meld 22 = .ok (.ireturn, 1) := by decide +kernel
theorem dX1_meld_23 : decode cX1_meld 23 = .ok (.iconst 0, 1) := by decide +kernel
theorem dX1_meld_24 : decode cX1_meld 24 = .ok (.istore_n 3, 1) := by decide +kernel
theorem dX1_meld_25 : decode cX1_meld 25 = .ok (.iload_n 3, 1) := by decide +kernel
theorem dX1_meld_26 : decode cX1_meld 26 = .ok (.aload_n 0, 1) := by decide +kernel
theorem dX1_meld_27 : decode cX1_meld 27 = .ok (.getfield 24, 3) := by decide +kernel
theorem dX1_meld_30 : decode cX1_meld 30 = .ok (.if_icmp .ge 35, 3) := by decide +kernel
theorem dX1_meld_33 : decode cX1_meld 33 = .ok (.aload_n 0, 1) := by decide +kernel
theorem dX1_meld_34 : decode cX1_meld 34 = .ok (.getfield 7, 3) := by decide +kernel
theorem dX1_meld_37 : decode cX1_meld 37 = .ok (.iload_n 3, 1) := by decide +kernel
theorem dX1_meld_38 : decode cX1_meld 38 = .ok (.aload_n 0, 1) := by decide +kernel
theorem dX1_meld_39 : decode cX1_meld 39 = .ok (.getfield 7, 3) := by decide +kernel
theorem dX1_meld_42 : decode cX1_meld 42 = .ok (.iload_n 3, 1) := by decide +kernel
theorem dX1_meld_43 : decode cX1_meld 43 = .ok (.iaload, 1) := by decide +kernel
theorem dX1_meld_44 : decode cX1_meld 44 = .ok (.iload_n 2, 1) := by decide +kernel
theorem dX1_meld_45 : decode cX1_meld 45 = .ok (.if_icmp .ne 7, 3) := by decide +kernel
theorem dX1_meld_48 : decode cX1_meld 48 = .ok (.iload_n 1, 1) := by decide +kernel
theorem dX1_meld_49 : decode cX1_meld 49 = .ok (.goto 9, 3) := by decide +kernel
theorem dX1_meld_52 : decode cX1_meld 52 = .ok (.aload_n 0, 1) := by decide +kernel
theorem dX1_meld_53 : decode cX1_meld 53 = .ok (.getfield 7, 3) := by decide +kernel
theorem dX1_meld_56 : decode cX1_meld 56 = .ok (.iload_n 3, 1) := by decide +kernel
theorem dX1_meld_57 : decode cX1_meld 57 = .ok (.iaload, 1) := by decide +kernel
theorem dX1_meld_58 : decode cX1_meld 58 = .ok (.iastore, 1) := by decide +kernel
theorem dX1_meld_59 : decode cX1_meld 59 = .ok (.iinc 3 1, 3) := by decide +kernel
theorem dX1_meld_62 : decode cX1_meld 62 = .ok (.goto (-37), 3) := by decide +kernel
theorem dX1_meld_65 : decode cX1_meld 65 = .ok (.aload_n 0, 1) := by decide +kernel
theorem dX1_meld_66 : decode cX1_meld 66 = .ok (.iload_n 1, 1) := by decide +kernel
theorem dX1_meld_67 : decode cX1_meld 67 = .ok (.invokevirtual 31, 3) := by decide +kernel
theorem dX1_meld_70 : decode cX1_meld 70 = .ok (.ireturn, 1) := by decide +kernel
set_option maxRecDepth 20000 in
theorem ggX1_size_X1_isHeap : GoodIn wsX1_size wsX1_isHeap := goodIn_r _ [5, 6, 13, 14, 15, 16, 17] (by decide +kernel) (by decide +kernel)
set_option maxRecDepth 20000 in
theorem gX1_size_X1_isHeap : GoodIn wsX1_size (wsV RX1 27 RX1 yX1_isHeap wsX1_isHeap) := goodIn_app (goodIn_of _ (by decide +kernel)) ggX1_size_X1_isHeap
set_option maxRecDepth 20000 in
theorem ggX1_size_X1_sizeOf : GoodIn wsX1_size wsX1_sizeOf := goodIn_r _ [10, 11, 12, 13, 14, 15, 16, 17] (by decide +kernel) (by decide +kernel)
set_option maxRecDepth 20000 in
theorem gX1_size_X1_sizeOf : GoodIn wsX1_size (wsV RX1 31 RX1 yX1_sizeOf wsX1_sizeOf) := goodIn_app (goodIn_of _ (by decide +kernel)) ggX1_size_X1_sizeOf
theorem dX1_size_0 : decode cX1_size 0 = .ok (.aload_n 0, 1) := by decide +kernel
theorem dX1_size_1 : decode cX1_size 1 = .ok (.iload_n 1, 1) := by decide +kernel
theorem dX1_size_2 : decode cX1_size 2 = .ok (.invokevirtual 27, 3) := by decide +kernel
theorem dX1_size_5 : decode cX1_size 5 = .ok (.ifCond .eq 11, 3) := by decide +kernel
theorem dX1_size_8 : decode cX1_size 8 = .ok (.aload_n 0, 1) := by decide +kernel
theorem dX1_size_9 : decode cX1_size 9 = .ok (.iload_n 1, 1) := by decide +kernel
theorem dX1_size_10 : decode cX1_size 10 = .ok (.invokevirtual 31, 3) := by decide +kernel
theorem dX1_size_13 : decode cX1_size 13 = .ok (.goto 4, 3) := by decide +kernel
theorem dX1_size_16 : decode cX1_size 16 = .ok (.iconst (-1), 1) := by decide +kernel
theorem dX1_size_17 : decode cX1_size 17 = .ok (.ireturn, 1) := by decide +kernel
set_option maxRecDepth 20000 in
theorem ggX1_key_X1_isHeap : GoodIn wsX1_key wsX1_isHeap := goodIn_r _ [8, 9, 24, 25, 26, 27, 28] (by decide +kernel) (by decide +kernel)
set_option maxRecDepth 20000 in
theorem gX1_key_X1_isHeap : GoodIn wsX1_key (wsV RX1 27 RX1 yX1_isHeap wsX1_isHeap) := goodIn_app (goodIn_of _ (by decide +kernel)) ggX1_key_X1_isHeap
set_option maxRecDepth 20000 in
theorem ggX1_key_X1_sizeOf : GoodIn wsX1_key wsX1_sizeOf := goodIn_r _ [13, 14, 15, 24, 25, 26, 27, 28] (by decide +kernel) (by decide +kernel)
set_option maxRecDepth 20000 in
theorem gX1_key_X1_sizeOf : GoodIn wsX1_key (wsV RX1 31 RX1 yX1_sizeOf wsX1_sizeOf) := goodIn_app (goodIn_of _ (by decide +kernel)) ggX1_key_X1_sizeOf
set_option maxRecDepth 20000 in
theorem ggX1_key_X1_untell : GoodIn wsX1_key wsX1_untell := goodIn_r _ [19, 2, 24, 25, 26, 27, 28] (by decide +kernel) (by decide +kernel)
set_option maxRecDepth 20000 in
theorem gX1_key_X1_untell : GoodIn wsX1_key (wsV RX1 35 RX1 yX1_untell wsX1_untell) := goodIn_app (goodIn_of _ (by decide +kernel)) ggX1_key_X1_untell
set_option maxRecDepth 20000 in
theorem ggX1_key_X1_placeOf : GoodIn wsX1_key wsX1_placeOf := goodIn_r _ [23, 14, 15, 2, 3, 24, 25, 26, 27, 28] (by decide +kernel) (by decide +kernel)
set_option maxRecDepth 20000 in
theorem gX1_key_X1_placeOf : GoodIn wsX1_key (wsV RX1 38 RX1 yX1_placeOf wsX1_placeOf) := goodIn_app (goodIn_of _ (by decide +kernel)) ggX1_key_X1_placeOf
theorem dX1_key_0 : decode cX1_key 0 = .ok (.aload_n 0, 1) := by decide +kernel
theorem dX1_key_1 : decode cX1_key 1 = .ok (.iload_n 1, 1) := by decide +kernel
theorem dX1_key_2 : decode cX1_key 2 = .ok (.invokevirtual 27, 3) := by decide +kernel
theorem dX1_key_5 : decode cX1_key 5 = .ok (.ifCond .eq 16, 3) := by decide +kernel
theorem dX1_key_8 : decode cX1_key 8 = .ok (.iload_n 2, 1) := by decide +kernel
theorem dX1_key_9 : decode cX1_key 9 = .ok (.ifCond .lt 12, 3) := by decide +kernel
theorem dX1_key_12 : decode cX1_key 12 = .ok (.iload_n 2, 1) := by decide +kernel
theorem dX1_key_13 : decode cX1_key 13 = .ok (.aload_n 0, 1) := by decide +kernel
theorem dX1_key_14 : decode cX1_key 14 = .ok (.iload_n 1, 1) := by decide +kernel
theorem dX1_key_15 : decode cX1_key 15 = .ok (.invokevirtual 31, 3) := by decide +kernel
theorem dX1_key_18 : decode cX1_key 18 = .ok (.if_icmp .lt 7, 3) := by decide +kernel
theorem dX1_key_21 : decode cX1_key 21 = .ok (.ldc2_w 41, 3) := by decide +kernel
theorem dX1_key_24 : decode cX1_key 24 = .ok (.lreturn, 1) := by decide +kernel
theorem dX1_key_25 : decode cX1_key 25 = .ok (.aload_n 0, 1) := by decide +kernel
theorem dX1_key_26 : decode cX1_key 26 = .ok (.invokevirtual 35, 3) := by decide +kernel
theorem dX1_key_29 : decode cX1_key 29 = .ok (.iconst 0, 1) := by decide +kernel
theorem dX1_key_30 : decode cX1_key 30 = .ok (.istore_n 3, 1) := by decide +kernel
theorem dX1_key_31 : decode cX1_key 31 = .ok (.iload_n 3, 1) := by decide +kernel
theorem dX1_key_32 : decode cX1_key 32 = .ok (.iload_n 2, 1) := by decide +kernel
theorem dX1_key_33 : decode cX1_key 33 = .ok (.if_icmp .ge 20, 3) := by decide +kernel
theorem dX1_key_36 : decode cX1_key 36 = .ok (.aload_n 0, 1) := by decide +kernel
theorem dX1_key_37 : decode cX1_key 37 = .ok (.getfield 16, 3) := by decide +kernel
theorem dX1_key_40 : decode cX1_key 40 = .ok (.aload_n 0, 1) := by decide +kernel
theorem dX1_key_41 : decode cX1_key 41 = .ok (.iload_n 1, 1) := by decide +kernel
theorem dX1_key_42 : decode cX1_key 42 = .ok (.invokevirtual 38, 3) := by decide +kernel
theorem dX1_key_45 : decode cX1_key 45 = .ok (.iconst 1, 1) := by decide +kernel
theorem dX1_key_46 : decode cX1_key 46 = .ok (.bastore, 1) := by decide +kernel
theorem dX1_key_47 : decode cX1_key 47 = .ok (.iinc 3 1, 3) := by decide +kernel
theorem dX1_key_50 : decode cX1_key 50 = .ok (.goto (-19), 3) := by decide +kernel
theorem dX1_key_53 : decode cX1_key 53 = .ok (.aload_n 0, 1) := by decide +kernel
theorem dX1_key_54 : decode cX1_key 54 = .ok (.getfield 13, 3) := by decide +kernel
theorem dX1_key_57 : decode cX1_key 57 = .ok (.aload_n 0, 1) := by decide +kernel
theorem dX1_key_58 : decode cX1_key 58 = .ok (.iload_n 1, 1) := by decide +kernel
theorem dX1_key_59 : decode cX1_key 59 = .ok (.invokevirtual 38, 3) := by decide +kernel
theorem dX1_key_62 : decode cX1_key 62 = .ok (.iaload, 1) := by decide +kernel
theorem dX1_key_63 : decode cX1_key 63 = .ok (.i2l, 1) := by decide +kernel
theorem dX1_key_64 : decode cX1_key 64 = .ok (.lreturn, 1) := by decide +kernel
set_option maxRecDepth 20000 in
theorem ggX1_sum_X1_isHeap : GoodIn wsX1_sum wsX1_isHeap := goodIn_r _ [8, 9, 10, 11, 12, 13, 14] (by decide +kernel) (by decide +kernel)
set_option maxRecDepth 20000 in
theorem gX1_sum_X1_isHeap : GoodIn wsX1_sum (wsV RX1 27 RX1 yX1_isHeap wsX1_isHeap) := goodIn_app (goodIn_of _ (by decide +kernel)) ggX1_sum_X1_isHeap
theorem dX1_sum_0 : decode cX1_sum 0 = .ok (.lconst 0, 1) := by decide +kernel
theorem dX1_sum_1 : decode cX1_sum 1 = .ok (.lstore_n 2, 1) := by decide +kernel
theorem dX1_sum_2 : decode cX1_sum 2 = .ok (.iconst 0, 1) := by decide +kernel
theorem dX1_sum_3 : decode cX1_sum 3 = .ok (.istore 4, 2) := by decide +kernel
theorem dX1_sum_5 : decode cX1_sum 5 = .ok (.iload 4, 2) := by decide +kernel
theorem dX1_sum_7 : decode cX1_sum 7 = .ok (.aload_n 0, 1) := by decide +kernel
theorem dX1_sum_8 : decode cX1_sum 8 = .ok (.getfield 24, 3) := by decide +kernel
theorem dX1_sum_11 : decode cX1_sum 11 = .ok (.if_icmp .ge 43, 3) := by decide +kernel
theorem dX1_sum_14 : decode cX1_sum 14 = .ok (.lload_n 2, 1) := by decide +kernel
theorem dX1_sum_15 : decode cX1_sum 15 = .ok (.aload_n 0, 1) := by decide +kernel
theorem dX1_sum_16 : decode cX1_sum 16 = .ok (.iload_n 1, 1) := by decide +kernel
theorem dX1_sum_17 : decode cX1_sum 17 = .ok (.invokevirtual 27, 3) := by decide +kernel
theorem dX1_sum_20 : decode cX1_sum 20 = .ok (.ifCond .eq 25, 3) := by decide +kernel
theorem dX1_sum_23 : decode cX1_sum 23 = .ok (.aload_n 0, 1) := by decide +kernel
theorem dX1_sum_24 : decode cX1_sum 24 = .ok (.getfield 7, 3) := by decide +kernel
theorem dX1_sum_27 : decode cX1_sum 27 = .ok (.iload 4, 2) := by decide +kernel
theorem dX1_sum_29 : decode cX1_sum 29 = .ok (.iaload, 1) := by decide +kernel
theorem dX1_sum_30 : decode cX1_sum 30 = .ok (.iload_n 1, 1) := by decide +kernel
theorem dX1_sum_31 : decode cX1_sum 31 = .ok (.if_icmp .ne 14, 3) := by decide +kernel
theorem dX1_sum_34 : decode cX1_sum 34 = .ok (.aload_n 0, 1) := by decide +kernel
theorem dX1_sum_35 : decode cX1_sum 35 = .ok (.getfield 13, 3) := by decide +kernel
theorem dX1_sum_38 : decode cX1_sum 38 = .ok (.iload 4, 2) := by decide +kernel
theorem dX1_sum_40 : decode cX1_sum 40 = .ok (.iaload, 1) := by decide +kernel
theorem dX1_sum_41 : decode cX1_sum 41 = .ok (.i2l, 1) := by decide +kernel
theorem dX1_sum_42 : decode cX1_sum 42 = .ok (.goto 4, 3) := by decide +kernel
theorem dX1_sum_45 : decode cX1_sum 45 = .ok (.lconst 0, 1) := by decide +kernel
theorem dX1_sum_46 : decode cX1_sum 46 = .ok (.ladd, 1) := by decide +kernel
theorem dX1_sum_47 : decode cX1_sum 47 = .ok (.lstore_n 2, 1) := by decide +kernel
theorem dX1_sum_48 : decode cX1_sum 48 = .ok (.iinc 4 1, 3) := by decide +kernel
theorem dX1_sum_51 : decode cX1_sum 51 = .ok (.goto (-46), 3) := by decide +kernel
theorem dX1_sum_54 : decode cX1_sum 54 = .ok (.lload_n 2, 1) := by decide +kernel
theorem dX1_sum_55 : decode cX1_sum 55 = .ok (.lreturn, 1) := by decide +kernel
theorem dX1_free_0 : decode cX1_free 0 = .ok (.sipush 200, 3) := by decide +kernel
theorem dX1_free_3 : decode cX1_free 3 = .ok (.aload_n 0, 1) := by decide +kernel
theorem dX1_free_4 : decode cX1_free 4 = .ok (.getfield 24, 3) := by decide +kernel
theorem dX1_free_7 : decode cX1_free 7 = .ok (.isub, 1) := by decide +kernel
theorem dX1_free_8 : decode cX1_free 8 = .ok (.ireturn, 1) := by decide +kernel
theorem dX1_few_0 : decode cX1_few 0 = .ok (.iconst 1, 1) := by decide +kernel
theorem dX1_few_1 : decode cX1_few 1 = .ok (.ireturn, 1) := by decide +kernel
set_option maxRecDepth 20000 in
theorem ggL_law_X0_init : GoodIn wsL_law wsX0_init := goodIn_r _ [8, 9, 10, 11, 12, 13, 14, 15, 16, 17, 18, 2, 19, 20, 21, 22, 23, 24, 25, 26, 27, 28, 29, 30, 240, 241, 242, 243, 244, 245] (by decide +kernel) (by decide +kernel)
set_option maxRecDepth 20000 in
theorem gL_law_X0_init : GoodIn wsL_law (wsX0_init) := ggL_law_X0_init
set_option maxRecDepth 20000 in
theorem ggL_law_X1_init : GoodIn wsL_law wsX1_init := goodIn_r _ [33, 34, 10, 11, 12, 35, 36, 37, 38, 246, 247, 248, 249, 250] (by decide +kernel) (by decide +kernel)
set_option maxRecDepth 20000 in
theorem gL_law_X1_init : GoodIn wsL_law (wsX1_init) := ggL_law_X1_init
set_option maxRecDepth 20000 in
theorem ggL_law_X0_heap : GoodIn wsL_law wsX0_heap := goodIn_r _ [42, 15, 43, 26, 27, 28, 2, 29, 20, 30, 240, 241, 242, 243, 244, 245] (by decide +kernel) (by decide +kernel)
set_option maxRecDepth 20000 in
theorem gL_law_X0_heap : GoodIn wsL_law (wsV RL 13 RX0 yX0_heap wsX0_heap) := goodIn_app (goodIn_of _ (by decide +kernel)) ggL_law_X0_heap
set_option maxRecDepth 20000 in
theorem ggL_law_X1_heap : GoodIn wsL_law wsX1_heap := goodIn_r _ [47, 48, 246, 247, 248, 249, 250] (by decide +kernel) (by decide +kernel)
set_option maxRecDepth 20000 in
theorem gL_law_X1_heap : GoodIn wsL_law (wsV RL 17 RX1 yX1_heap wsX1_heap) := goodIn_app (goodIn_of _ (by decide +kernel)) ggL_law_X1_heap
set_option maxRecDepth 20000 in
theorem ggL_law_X0_add : GoodIn wsL_law wsX0_add := goodIn_r _ [52, 14, 26, 27, 28, 2, 29, 20, 30, 53, 54, 55, 56, 43, 57, 58, 59, 60, 25, 61, 62, 63, 64, 13, 16, 17, 18, 19, 65, 66, 67, 68, 69, 70, 71, 72, 73, 74, 75, 76, 77, 78, 79, 80, 81, 82, 83, 84, 85, 86, 87, 88, 89, 90, 91, 92, 93, 94, 95, 240, 241, 242, 243, 244, 245] (by decide +kernel) (by decide +kernel)
set_option maxRecDepth 20000 in
theorem gL_law_X0_add : GoodIn wsL_law (wsV RL 18 RX0 yX0_add wsX0_add) := goodIn_app (goodIn_of _ (by decide +kernel)) ggL_law_X0_add
set_option maxRecDepth 20000 in
theorem ggL_law_X1_add : GoodIn wsL_law wsX1_add := goodIn_r _ [99, 100, 35, 36, 101, 102, 103, 5, 104, 48, 105, 106, 107, 108, 246, 247, 248, 249, 250] (by decide +kernel) (by decide +kernel)
set_option maxRecDepth 20000 in
theorem gL_law_X1_add : GoodIn wsL_law (wsV RL 22 RX1 yX1_add wsX1_add) := goodIn_app (goodIn_of _ (by decide +kernel)) ggL_law_X1_add
set_option maxRecDepth 20000 in
theorem ggL_law_X0_least : GoodIn wsL_law wsX0_least := goodIn_r _ [112, 113, 114, 115, 116, 2, 117, 20, 30, 118, 119, 120, 121, 53, 54, 55, 56, 43, 61, 62, 63, 64, 13, 122, 123, 124, 125, 126, 127, 128, 77, 78, 79, 129, 130, 131, 132, 240, 241, 242, 243, 244, 245] (by decide +kernel) (by decide +kernel)
set_option maxRecDepth 20000 in
theorem gL_law_X0_least : GoodIn wsL_law (wsV RL 23 RX0 yX0_least wsX0_least) := goodIn_app (goodIn_of _ (by decide +kernel)) ggL_law_X0_least
set_option maxRecDepth 20000 in
theorem ggL_law_X1_least : GoodIn wsL_law wsX1_least := goodIn_r _ [136, 137, 36, 138, 139, 140, 5, 141, 38, 101, 102, 103, 104, 48, 142, 143, 144, 145, 100, 35, 246, 247, 248, 249, 250] (by decide +kernel) (by decide +kernel)
set_option maxRecDepth 20000 in
theorem gL_law_X1_least : GoodIn wsL_law (wsV RL 27 RX1 yX1_least wsX1_least) := goodIn_app (goodIn_of _ (by decide +kernel)) ggL_law_X1_least
set_option maxRecDepth 20000 in
theorem ggL_law_X0_take : GoodIn wsL_law wsX0_take := goodIn_r _ [149, 113, 114, 115, 116, 2, 117, 20, 30, 118, 119, 120, 121, 53, 54, 55, 56, 43, 61, 62, 63, 64, 13, 122, 123, 124, 125, 126, 127, 128, 77, 78, 79, 129, 130, 131, 132, 150, 151, 152, 153, 69, 70, 71, 72, 16, 17, 18, 19, 73, 74, 75, 76, 154, 155, 156, 157, 80, 81, 82, 83, 84, 85, 86, 87, 158, 159, 160, 161, 21, 22, 23, 24, 14, 25, 92, 93, 94, 95, 240, 241, 242, 243, 244, 245] (by decide +kernel) (by decide +kernel)
set_option maxRecDepth 20000 in
theorem gL_law_X0_take : GoodIn wsL_law (wsV RL 28 RX0 yX0_take wsX0_take) := goodIn_app (goodIn_of _ (by decide +kernel)) ggL_law_X0_take
set_option maxRecDepth 20000 in
theorem ggL_law_X1_take : GoodIn wsL_law wsX1_take := goodIn_r _ [165, 137, 36, 100, 35, 138, 139, 140, 5, 141, 38, 101, 102, 103, 104, 48, 142, 143, 144, 145, 246, 247, 248, 249, 250] (by decide +kernel) (by decide +kernel)
set_option maxRecDepth 20000 in
theorem gL_law_X1_take : GoodIn wsL_law (wsV RL 31 RX1 yX1_take wsX1_take) := goodIn_app (goodIn_of _ (by decide +kernel)) ggL_law_X1_take
set_option maxRecDepth 20000 in
theorem ggL_law_X0_meld : GoodIn wsL_law wsX0_meld := goodIn_r _ [169, 170, 171, 172, 2, 173, 20, 30, 118, 119, 120, 121, 53, 54, 55, 56, 43, 61, 62, 63, 64, 13, 122, 123, 124, 69, 70, 71, 72, 16, 17, 18, 19, 154, 155, 156, 157, 73, 74, 75, 76, 77, 78, 79, 80, 81, 82, 83, 84, 85, 86, 87, 92, 93, 94, 95, 240, 241, 242, 243, 244, 245] (by decide +kernel) (by decide +kernel)
set_option maxRecDepth 20000 in
theorem gL_law_X0_meld : GoodIn wsL_law (wsV RL 32 RX0 yX0_meld wsX0_meld) := goodIn_app (goodIn_of _ (by decide +kernel)) ggL_law_X0_meld
set_option maxRecDepth 20000 in
theorem ggL_law_X1_meld : GoodIn wsL_law wsX1_meld := goodIn_r _ [177, 100, 35, 101, 102, 103, 5, 104, 48, 105, 106, 107, 108, 246, 247, 248, 249, 250] (by decide +kernel) (by decide +kernel)
set_option maxRecDepth 20000 in
theorem gL_law_X1_meld : GoodIn wsL_law (wsV RL 35 RX1 yX1_meld wsX1_meld) := goodIn_app (goodIn_of _ (by decide +kernel)) ggL_law_X1_meld
set_option maxRecDepth 20000 in
theorem ggL_law_X0_size : GoodIn wsL_law wsX0_size := goodIn_r _ [181, 15, 26, 27, 28, 2, 29, 20, 30, 53, 54, 55, 56, 43, 61, 62, 63, 64, 13, 240, 241, 242, 243, 244, 245] (by decide +kernel) (by decide +kernel)
set_option maxRecDepth 20000 in
theorem gL_law_X0_size : GoodIn wsL_law (wsV RL 36 RX0 yX0_size wsX0_size) := goodIn_app (goodIn_of _ (by decide +kernel)) ggL_law_X0_size
set_option maxRecDepth 20000 in
theorem ggL_law_X1_size : GoodIn wsL_law wsX1_size := goodIn_r _ [185, 101, 102, 103, 5, 104, 48, 105, 106, 107, 108, 100, 35, 246, 247, 248, 249, 250] (by decide +kernel) (by decide +kernel)
set_option maxRecDepth 20000 in
theorem gL_law_X1_size : GoodIn wsL_law (wsV RL 40 RX1 yX1_size wsX1_size) := goodIn_app (goodIn_of _ (by decide +kernel)) ggL_law_X1_size
set_option maxRecDepth 20000 in
theorem ggL_law_X0_key : GoodIn wsL_law wsX0_key := goodIn_r _ [189, 15, 113, 26, 27, 28, 2, 29, 20, 30, 118, 119, 120, 121, 53, 54, 55, 56, 43, 61, 62, 63, 64, 13, 190, 191, 192, 193, 194, 195, 196, 197, 16, 17, 18, 19, 77, 78, 79, 198, 199, 200, 201, 202, 203, 204, 205, 206, 207, 208, 209, 210, 211, 240, 241, 242, 243, 244, 245] (by decide +kernel) (by decide +kernel)
set_option maxRecDepth 20000 in
theorem gL_law_X0_key : GoodIn wsL_law (wsV RL 41 RX0 yX0_key wsX0_key) := goodIn_app (goodIn_of _ (by decide +kernel)) ggL_law_X0_key
set_option maxRecDepth 20000 in
theorem ggL_law_X1_key : GoodIn wsL_law wsX1_key := goodIn_r _ [215, 137, 38, 36, 101, 102, 103, 5, 104, 48, 105, 106, 107, 108, 100, 35, 138, 139, 140, 141, 142, 143, 144, 145, 246, 247, 248, 249, 250] (by decide +kernel) (by decide +kernel)
set_option maxRecDepth 20000 in
theorem gL_law_X1_key : GoodIn wsL_law (wsV RL 45 RX1 yX1_key wsX1_key) := goodIn_app (goodIn_of _ (by decide +kernel)) ggL_law_X1_key
set_option maxRecDepth 20000 in
theorem ggL_law_X0_sum : GoodIn wsL_law wsX0_sum := goodIn_r _ [219, 15, 26, 27, 28, 2, 29, 20, 30, 53, 54, 55, 56, 43, 190, 191, 192, 193, 61, 62, 63, 64, 13, 194, 195, 196, 197, 16, 17, 18, 19, 77, 78, 79, 208, 209, 210, 211, 240, 241, 242, 243, 244, 245] (by decide +kernel) (by decide +kernel)
set_option maxRecDepth 20000 in
theorem gL_law_X0_sum : GoodIn wsL_law (wsV RL 46 RX0 yX0_sum wsX0_sum) := goodIn_app (goodIn_of _ (by decide +kernel)) ggL_law_X0_sum
set_option maxRecDepth 20000 in
theorem ggL_law_X1_sum : GoodIn wsL_law wsX1_sum := goodIn_r _ [223, 100, 35, 36, 101, 102, 103, 5, 104, 48, 246, 247, 248, 249, 250] (by decide +kernel) (by decide +kernel)
set_option maxRecDepth 20000 in
theorem gL_law_X1_sum : GoodIn wsL_law (wsV RL 49 RX1 yX1_sum wsX1_sum) := goodIn_app (goodIn_of _ (by decide +kernel)) ggL_law_X1_sum
set_option maxRecDepth 20000 in
theorem ggL_law_X0_free : GoodIn wsL_law wsX0_free := goodIn_r _ [227, 15, 25, 26, 27, 28, 2, 29, 20, 30, 240, 241, 242, 243, 244, 245] (by decide +kernel) (by decide +kernel)
set_option maxRecDepth 20000 in
theorem gL_law_X0_free : GoodIn wsL_law (wsV RL 50 RX0 yX0_free wsX0_free) := goodIn_app (goodIn_of _ (by decide +kernel)) ggL_law_X0_free
set_option maxRecDepth 20000 in
theorem ggL_law_X1_free : GoodIn wsL_law wsX1_free := goodIn_r _ [231, 100, 246, 247, 248, 249, 250] (by decide +kernel) (by decide +kernel)
set_option maxRecDepth 20000 in
theorem gL_law_X1_free : GoodIn wsL_law (wsV RL 53 RX1 yX1_free wsX1_free) := goodIn_app (goodIn_of _ (by decide +kernel)) ggL_law_X1_free
set_option maxRecDepth 20000 in
theorem ggL_law_X0_few : GoodIn wsL_law wsX0_few := goodIn_r _ [235, 20, 30, 15, 26, 27, 28, 2, 29, 240, 241, 242, 243, 244, 245] (by decide +kernel) (by decide +kernel)
set_option maxRecDepth 20000 in
theorem gL_law_X0_few : GoodIn wsL_law (wsV RL 54 RX0 yX0_few wsX0_few) := goodIn_app (goodIn_of _ (by decide +kernel)) ggL_law_X0_few
set_option maxRecDepth 20000 in
theorem ggL_law_X1_few : GoodIn wsL_law wsX1_few := goodIn_r _ [239] (by decide +kernel) (by decide +kernel)
set_option maxRecDepth 20000 in
theorem gL_law_X1_few : GoodIn wsL_law (wsV RL 58 RX1 yX1_few wsX1_few) := goodIn_app (goodIn_of _ (by decide +kernel)) ggL_law_X1_few
theorem dL_law_0 : decode cL_law 0 = .ok (.new 7, 3) := by decide +kernel
theorem dL_law_3 : decode cL_law 3 = .ok (.dup, 1) := by decide +kernel
theorem dL_law_4 : decode cL_law 4 = .ok (.invokespecial 9, 3) := by decide +kernel
theorem dL_law_7 : decode cL_law 7 = .ok (.astore_n 1, 1) := by decide +kernel
theorem dL_law_8 : decode cL_law 8 = .ok (.new 10, 3) := by decide +kernel
theorem dL_law_11 : decode cL_law 11 = .ok (.dup, 1) := by decide +kernel
theorem dL_law_12 : decode cL_law 12 = .ok (.invokespecial 12, 3) := by decide +kernel
theorem dL_law_15 : decode cL_law 15 = .ok (.astore_n 2, 1) := by decide +kernel
theorem dL_law_16 : decode cL_law 16 = .ok (.iconst 0, 1) := by decide +kernel
theorem dL_law_17 : decode cL_law 17 = .ok (.istore_n 3, 1) := by decide +kernel
theorem dL_law_18 : decode cL_law 18 = .ok (.iload_n 3, 1) := by decide +kernel
theorem dL_law_19 : decode cL_law 19 = .ok (.aload_n 0, 1) := by decide +kernel
theorem dL_law_20 : decode cL_law 20 = .ok (.arraylength, 1) := by decide +kernel
theorem dL_law_21 : decode cL_law 21 = .ok (.iconst 3, 1) := by decide +kernel
theorem dL_law_22 : decode cL_law 22 = .ok (.isub, 1) := by decide +kernel
theorem dL_law_23 : decode cL_law 23 = .ok (.if_icmp .gt 305, 3) := by decide +kernel
theorem dL_law_26 : decode cL_law 26 = .ok (.aload_n 0, 1) := by decide +kernel
theorem dL_law_27 : decode cL_law 27 = .ok (.iload_n 3, 1) := by decide +kernel
theorem dL_law_28 : decode cL_law 28 = .ok (.iaload, 1) := by decide +kernel
theorem dL_law_29 : decode cL_law 29 = .ok (.bipush 15, 2) := by decide +kernel
theorem dL_law_31 : decode cL_law 31 = .ok (.iand, 1) := by decide +kernel
theorem dL_law_32 : decode cL_law 32 = .ok (.tableswitch 290 0 9 #[56, 69, 102, 126, 150, 183, 206, 240, 264, 277], 56) := by decide +kernel
theorem dL_law_88 : decode cL_law 88 = .ok (.aload_n 1, 1) := by decide +kernel
theorem dL_law_89 : decode cL_law 89 = .ok (.invokevirtual 13, 3) := by decide +kernel
theorem dL_law_92 : decode cL_law 92 = .ok (.aload_n 2, 1) := by decide +kernel
theorem dL_law_93 : decode cL_law 93 = .ok (.invokevirtual 17, 3) := by decide +kernel
theorem dL_law_96 : decode cL_law 96 = .ok (.if_icmp .eq 226, 3) := by decide +kernel
theorem dL_law_99 : decode cL_law 99 = .ok (.iconst 0, 1) := by decide +kernel
theorem dL_law_100 : decode cL_law 100 = .ok (.ireturn, 1) := by decide +kernel
theorem dL_law_101 : decode cL_law 101 = .ok (.aload_n 1, 1) := by decide +kernel
theorem dL_law_102 : decode cL_law 102 = .ok (.aload_n 0, 1) := by decide +kernel
end
section
theorem dL_law_103 : decode cL_law 103 = .ok (.iload_n 3, 1) := by decide +kernel
theorem dL_law_104 : decode cL_law 104 = .ok (.iconst 1, 1) := by decide +kernel
theorem dL_law_105 : decode cL_law 105 = .ok (.iadd, 1) := by decide +kernel
theorem dL_law_106 : decode cL_law 106 = .ok (.iaload, 1) := by decide +kernel
theorem dL_law_107 : decode cL_law 107 = .ok (.aload_n 0, 1) := by decide +kernel
theorem dL_law_108 : decode cL_law 108 = .ok (.iload_n 3, 1) := by decide +kernel
theorem dL_law_109 : decode cL_law 109 = .ok (.iconst 2, 1) := by decide +kernel
theorem dL_law_110 : decode cL_law 110 = .ok (.iadd, 1) := by decide +kernel
theorem dL_law_111 : decode cL_law 111 = .ok (.iaload, 1) := by decide +kernel
theorem dL_law_112 : decode cL_law 112 = .ok (.invokevirtual 18, 3) := by decide +kernel
theorem dL_law_115 : decode cL_law 115 = .ok (.aload_n 2, 1) := by decide +kernel
theorem dL_law_116 : decode cL_law 116 = .ok (.aload_n 0, 1) := by decide +kernel
theorem dL_law_117 : decode cL_law 117 = .ok (.iload_n 3, 1) := by decide +kernel
theorem dL_law_118 : decode cL_law 118 = .ok (.iconst 1, 1) := by decide +kernel
theorem dL_law_119 : decode cL_law 119 = .ok (.iadd, 1) := by decide +kernel
theorem dL_law_120 : decode cL_law 120 = .ok (.iaload, 1) := by decide +kernel
theorem dL_law_121 : decode cL_law 121 = .ok (.aload_n 0, 1) := by decide +kernel
theorem dL_law_122 : decode cL_law 122 = .ok (.iload_n 3, 1) := by decide +kernel
theorem dL_law_123 : decode cL_law 123 = .ok (.iconst 2, 1) := by decide +kernel
theorem dL_law_124 : decode cL_law 124 = .ok (.iadd, 1) := by decide +kernel
theorem dL_law_125 : decode cL_law 125 = .ok (.iaload, 1) := by decide +kernel
theorem dL_law_126 : decode cL_law 126 = .ok (.invokevirtual 22, 3) := by decide +kernel
theorem dL_law_129 : decode cL_law 129 = .ok (.if_icmp .eq 193, 3) := by decide +kernel
theorem dL_law_132 : decode cL_law 132 = .ok (.iconst 0, 1) := by decide +kernel
theorem dL_law_133 : decode cL_law 133 = .ok (.ireturn, 1) := by decide +kernel
theorem dL_law_134 : decode cL_law 134 = .ok (.aload_n 1, 1) := by decide +kernel
theorem dL_law_135 : decode cL_law 135 = .ok (.aload_n 0, 1) := by decide +kernel
theorem dL_law_136 : decode cL_law 136 = .ok (.iload_n 3, 1) := by decide +kernel
theorem dL_law_137 : decode cL_law 137 = .ok (.iconst 1, 1) := by decide +kernel
theorem dL_law_138 : decode cL_law 138 = .ok (.iadd, 1) := by decide +kernel
theorem dL_law_139 : decode cL_law 139 = .ok (.iaload, 1) := by decide +kernel
theorem dL_law_140 : decode cL_law 140 = .ok (.invokevirtual 23, 3) := by decide +kernel
theorem dL_law_143 : decode cL_law 143 = .ok (.aload_n 2, 1) := by decide +kernel
theorem dL_law_144 : decode cL_law 144 = .ok (.aload_n 0, 1) := by decide +kernel
theorem dL_law_145 : decode cL_law 145 = .ok (.iload_n 3, 1) := by decide +kernel
theorem dL_law_146 : decode cL_law 146 = .ok (.iconst 1, 1) := by decide +kernel
theorem dL_law_147 : decode cL_law 147 = .ok (.iadd, 1) := by decide +kernel
theorem dL_law_148 : decode cL_law 148 = .ok (.iaload, 1) := by decide +kernel
theorem dL_law_149 : decode cL_law 149 = .ok (.invokevirtual 27, 3) := by decide +kernel
theorem dL_law_152 : decode cL_law 152 = .ok (.lcmp, 1) := by decide +kernel
theorem dL_law_153 : decode cL_law 153 = .ok (.ifCond .eq 169, 3) := by decide +kernel
theorem dL_law_156 : decode cL_law 156 = .ok (.iconst 0, 1) := by decide +kernel
theorem dL_law_157 : decode cL_law 157 = .ok (.ireturn, 1) := by decide +kernel
theorem dL_law_158 : decode cL_law 158 = .ok (.aload_n 1, 1) := by decide +kernel
theorem dL_law_159 : decode cL_law 159 = .ok (.aload_n 0, 1) := by decide +kernel
theorem dL_law_160 : decode cL_law 160 = .ok (.iload_n 3, 1) := by decide +kernel
theorem dL_law_161 : decode cL_law 161 = .ok (.iconst 1, 1) := by decide +kernel
theorem dL_law_162 : decode cL_law 162 = .ok (.iadd, 1) := by decide +kernel
theorem dL_law_163 : decode cL_law 163 = .ok (.iaload, 1) := by decide +kernel
theorem dL_law_164 : decode cL_law 164 = .ok (.invokevirtual 28, 3) := by decide +kernel
theorem dL_law_167 : decode cL_law 167 = .ok (.aload_n 2, 1) := by decide +kernel
theorem dL_law_168 : decode cL_law 168 = .ok (.aload_n 0, 1) := by decide +kernel
theorem dL_law_169 : decode cL_law 169 = .ok (.iload_n 3, 1) := by decide +kernel
theorem dL_law_170 : decode cL_law 170 = .ok (.iconst 1, 1) := by decide +kernel
theorem dL_law_171 : decode cL_law 171 = .ok (.iadd, 1) := by decide +kernel
theorem dL_law_172 : decode cL_law 172 = .ok (.iaload, 1) := by decide +kernel
theorem dL_law_173 : decode cL_law 173 = .ok (.invokevirtual 31, 3) := by decide +kernel
theorem dL_law_176 : decode cL_law 176 = .ok (.lcmp, 1) := by decide +kernel
theorem dL_law_177 : decode cL_law 177 = .ok (.ifCond .eq 145, 3) := by decide +kernel
theorem dL_law_180 : decode cL_law 180 = .ok (.iconst 0, 1) := by decide +kernel
theorem dL_law_181 : decode cL_law 181 = .ok (.ireturn, 1) := by decide +kernel
theorem dL_law_182 : decode cL_law 182 = .ok (.aload_n 1, 1) := by decide +kernel
theorem dL_law_183 : decode cL_law 183 = .ok (.aload_n 0, 1) := by decide +kernel
theorem dL_law_184 : decode cL_law 184 = .ok (.iload_n 3, 1) := by decide +kernel
theorem dL_law_185 : decode cL_law 185 = .ok (.iconst 1, 1) := by decide +kernel
theorem dL_law_186 : decode cL_law 186 = .ok (.iadd, 1) := by decide +kernel
theorem dL_law_187 : decode cL_law 187 = .ok (.iaload, 1) := by decide +kernel
theorem dL_law_188 : decode cL_law 188 = .ok (.aload_n 0, 1) := by decide +kernel
theorem dL_law_189 : decode cL_law 189 = .ok (.iload_n 3, 1) := by decide +kernel
theorem dL_law_190 : decode cL_law 190 = .ok (.iconst 2, 1) := by decide +kernel
theorem dL_law_191 : decode cL_law 191 = .ok (.iadd, 1) := by decide +kernel
theorem dL_law_192 : decode cL_law 192 = .ok (.iaload, 1) := by decide +kernel
theorem dL_law_193 : decode cL_law 193 = .ok (.invokevirtual 32, 3) := by decide +kernel
theorem dL_law_196 : decode cL_law 196 = .ok (.aload_n 2, 1) := by decide +kernel
theorem dL_law_197 : decode cL_law 197 = .ok (.aload_n 0, 1) := by decide +kernel
theorem dL_law_198 : decode cL_law 198 = .ok (.iload_n 3, 1) := by decide +kernel
theorem dL_law_199 : decode cL_law 199 = .ok (.iconst 1, 1) := by decide +kernel
theorem dL_law_200 : decode cL_law 200 = .ok (.iadd, 1) := by decide +kernel
theorem dL_law_201 : decode cL_law 201 = .ok (.iaload, 1) := by decide +kernel
theorem dL_law_202 : decode cL_law 202 = .ok (.aload_n 0, 1) := by decide +kernel
theorem dL_law_203 : decode cL_law 203 = .ok (.iload_n 3, 1) := by decide +kernel
theorem dL_law_204 : decode cL_law 204 = .ok (.iconst 2, 1) := by decide +kernel
theorem dL_law_205 : decode cL_law 205 = .ok (.iadd, 1) := by decide +kernel
theorem dL_law_206 : decode cL_law 206 = .ok (.iaload, 1) := by decide +kernel
theorem dL_law_207 : decode cL_law 207 = .ok (.invokevirtual 35, 3) := by decide +kernel
theorem dL_law_210 : decode cL_law 210 = .ok (.if_icmp .eq 112, 3) := by decide +kernel
theorem dL_law_213 : decode cL_law 213 = .ok (.iconst 0, 1) := by decide +kernel
theorem dL_law_214 : decode cL_law 214 = .ok (.ireturn, 1) := by decide +kernel
theorem dL_law_215 : decode cL_law 215 = .ok (.aload_n 1, 1) := by decide +kernel
theorem dL_law_216 : decode cL_law 216 = .ok (.aload_n 0, 1) := by decide +kernel
theorem dL_law_217 : decode cL_law 217 = .ok (.iload_n 3, 1) := by decide +kernel
theorem dL_law_218 : decode cL_law 218 = .ok (.iconst 1, 1) := by decide +kernel
theorem dL_law_219 : decode cL_law 219 = .ok (.iadd, 1) := by decide +kernel
theorem dL_law_220 : decode cL_law 220 = .ok (.iaload, 1) := by decide +kernel
theorem dL_law_221 : decode cL_law 221 = .ok (.invokevirtual 36, 3) := by decide +kernel
theorem dL_law_224 : decode cL_law 224 = .ok (.aload_n 2, 1) := by decide +kernel
theorem dL_law_225 : decode cL_law 225 = .ok (.aload_n 0, 1) := by decide +kernel
theorem dL_law_226 : decode cL_law 226 = .ok (.iload_n 3, 1) := by decide +kernel
theorem dL_law_227 : decode cL_law 227 = .ok (.iconst 1, 1) := by decide +kernel
theorem dL_law_228 : decode cL_law 228 = .ok (.iadd, 1) := by decide +kernel
theorem dL_law_229 : decode cL_law 229 = .ok (.iaload, 1) := by decide +kernel
theorem dL_law_230 : decode cL_law 230 = .ok (.invokevirtual 40, 3) := by decide +kernel
theorem dL_law_233 : decode cL_law 233 = .ok (.if_icmp .eq 89, 3) := by decide +kernel
theorem dL_law_236 : decode cL_law 236 = .ok (.iconst 0, 1) := by decide +kernel
theorem dL_law_237 : decode cL_law 237 = .ok (.ireturn, 1) := by decide +kernel
theorem dL_law_238 : decode cL_law 238 = .ok (.aload_n 1, 1) := by decide +kernel
theorem dL_law_239 : decode cL_law 239 = .ok (.aload_n 0, 1) := by decide +kernel
theorem dL_law_240 : decode cL_law 240 = .ok (.iload_n 3, 1) := by decide +kernel
theorem dL_law_241 : decode cL_law 241 = .ok (.iconst 1, 1) := by decide +kernel
theorem dL_law_242 : decode cL_law 242 = .ok (.iadd, 1) := by decide +kernel
theorem dL_law_243 : decode cL_law 243 = .ok (.iaload, 1) := by decide +kernel
theorem dL_law_244 : decode cL_law 244 = .ok (.aload_n 0, 1) := by decide +kernel
theorem dL_law_245 : decode cL_law 245 = .ok (.iload_n 3, 1) := by decide +kernel
theorem dL_law_246 : decode cL_law 246 = .ok (.iconst 2, 1) := by decide +kernel
theorem dL_law_247 : decode cL_law 247 = .ok (.iadd, 1) := by decide +kernel
theorem dL_law_248 : decode cL_law 248 = .ok (.iaload, 1) := by decide +kernel
theorem dL_law_249 : decode cL_law 249 = .ok (.invokevirtual 41, 3) := by decide +kernel
theorem dL_law_252 : decode cL_law 252 = .ok (.aload_n 2, 1) := by decide +kernel
theorem dL_law_253 : decode cL_law 253 = .ok (.aload_n 0, 1) := by decide +kernel
theorem dL_law_254 : decode cL_law 254 = .ok (.iload_n 3, 1) := by decide +kernel
theorem dL_law_255 : decode cL_law 255 = .ok (.iconst 1, 1) := by decide +kernel
theorem dL_law_256 : decode cL_law 256 = .ok (.iadd, 1) := by decide +kernel
theorem dL_law_257 : decode cL_law 257 = .ok (.iaload, 1) := by decide +kernel
theorem dL_law_258 : decode cL_law 258 = .ok (.aload_n 0, 1) := by decide +kernel
theorem dL_law_259 : decode cL_law 259 = .ok (.iload_n 3, 1) := by decide +kernel
theorem dL_law_260 : decode cL_law 260 = .ok (.iconst 2, 1) := by decide +kernel
theorem dL_law_261 : decode cL_law 261 = .ok (.iadd, 1) := by decide +kernel
theorem dL_law_262 : decode cL_law 262 = .ok (.iaload, 1) := by decide +kernel
theorem dL_law_263 : decode cL_law 263 = .ok (.invokevirtual 45, 3) := by decide +kernel
theorem dL_law_266 : decode cL_law 266 = .ok (.lcmp, 1) := by decide +kernel
theorem dL_law_267 : decode cL_law 267 = .ok (.ifCond .eq 55, 3) := by decide +kernel
theorem dL_law_270 : decode cL_law 270 = .ok (.iconst 0, 1) := by decide +kernel
theorem dL_law_271 : decode cL_law 271 = .ok (.ireturn, 1) := by decide +kernel
theorem dL_law_272 : decode cL_law 272 = .ok (.aload_n 1, 1) := by decide +kernel
theorem dL_law_273 : decode cL_law 273 = .ok (.aload_n 0, 1) := by decide +kernel
theorem dL_law_274 : decode cL_law 274 = .ok (.iload_n 3, 1) := by decide +kernel
theorem dL_law_275 : decode cL_law 275 = .ok (.iconst 1, 1) := by decide +kernel
theorem dL_law_276 : decode cL_law 276 = .ok (.iadd, 1) := by decide +kernel
theorem dL_law_277 : decode cL_law 277 = .ok (.iaload, 1) := by decide +kernel
theorem dL_law_278 : decode cL_law 278 = .ok (.invokevirtual 46, 3) := by decide +kernel
theorem dL_law_281 : decode cL_law 281 = .ok (.aload_n 2, 1) := by decide +kernel
theorem dL_law_282 : decode cL_law 282 = .ok (.aload_n 0, 1) := by decide +kernel
theorem dL_law_283 : decode cL_law 283 = .ok (.iload_n 3, 1) := by decide +kernel
theorem dL_law_284 : decode cL_law 284 = .ok (.iconst 1, 1) := by decide +kernel
theorem dL_law_285 : decode cL_law 285 = .ok (.iadd, 1) := by decide +kernel
theorem dL_law_286 : decode cL_law 286 = .ok (.iaload, 1) := by decide +kernel
theorem dL_law_287 : decode cL_law 287 = .ok (.invokevirtual 49, 3) := by decide +kernel
theorem dL_law_290 : decode cL_law 290 = .ok (.lcmp, 1) := by decide +kernel
theorem dL_law_291 : decode cL_law 291 = .ok (.ifCond .eq 31, 3) := by decide +kernel
theorem dL_law_294 : decode cL_law 294 = .ok (.iconst 0, 1) := by decide +kernel
theorem dL_law_295 : decode cL_law 295 = .ok (.ireturn, 1) := by decide +kernel
theorem dL_law_296 : decode cL_law 296 = .ok (.aload_n 1, 1) := by decide +kernel
theorem dL_law_297 : decode cL_law 297 = .ok (.invokevirtual 50, 3) := by decide +kernel
theorem dL_law_300 : decode cL_law 300 = .ok (.aload_n 2, 1) := by decide +kernel
theorem dL_law_301 : decode cL_law 301 = .ok (.invokevirtual 53, 3) := by decide +kernel
theorem dL_law_304 : decode cL_law 304 = .ok (.if_icmp .eq 18, 3) := by decide +kernel
theorem dL_law_307 : decode cL_law 307 = .ok (.iconst 0, 1) := by decide +kernel
theorem dL_law_308 : decode cL_law 308 = .ok (.ireturn, 1) := by decide +kernel
theorem dL_law_309 : decode cL_law 309 = .ok (.aload_n 1, 1) := by decide +kernel
theorem dL_law_310 : decode cL_law 310 = .ok (.invokevirtual 54, 3) := by decide +kernel
theorem dL_law_313 : decode cL_law 313 = .ok (.aload_n 2, 1) := by decide +kernel
theorem dL_law_314 : decode cL_law 314 = .ok (.invokevirtual 58, 3) := by decide +kernel
theorem dL_law_317 : decode cL_law 317 = .ok (.if_icmp .eq 5, 3) := by decide +kernel
theorem dL_law_320 : decode cL_law 320 = .ok (.iconst 0, 1) := by decide +kernel
theorem dL_law_321 : decode cL_law 321 = .ok (.ireturn, 1) := by decide +kernel
theorem dL_law_322 : decode cL_law 322 = .ok (.iinc 3 3, 3) := by decide +kernel
theorem dL_law_325 : decode cL_law 325 = .ok (.goto (-307), 3) := by decide +kernel
theorem dL_law_328 : decode cL_law 328 = .ok (.iconst 1, 1) := by decide +kernel
theorem dL_law_329 : decode cL_law 329 = .ok (.ireturn, 1) := by decide +kernel
abbrev vwCl : List vw_C := [(RX0, TX0, 6), (RX1, TX1, 5)]
end
section
/-! a method's whole world in one hypothesis; a call and its frame in one row. Nothing here is of this class. -/
def gG (D : va_G) (cl : List vw_C) (tys : List (ClassId × FieldType)) (A : Nat → Prop) (s : State) (ws : va_W) (H : Heap) (locs : List Loc) : Prop :=
  va_P D cl ws H ∧ va_D A ws ∧ va_S A s.heap H locs ∧ va_K D cl tys s ∧ ∀ q, s.heap.size ≤ q → A q
def gP (D : va_G) (cl : List vw_C) (tys : List (ClassId × FieldType)) (sz : Nat) (ws : va_W) : State → Prop := fun U => U.heap.size = sz ∧ va_P D cl ws U.heap ∧ va_K D cl tys U ∧ va_D (fun _ => True) ws
def gB {τ : Type} (D : va_G) (cl : List vw_C) (tys : List (ClassId × FieldType)) (A : Nat → Prop) (wf : τ → va_W) : τ → State → Prop := fun u t => va_P D cl (wf u) t.heap ∧ va_K D cl tys t ∧ va_D A (wf u)
def gMi {τ : Type} (l : Launch) (y : MethodName) (wz : List Cond) (rm : Room) (D : va_G) (cl : List vw_C) (tys : List (ClassId × FieldType)) (av : List Value) (wf : τ → va_W) (u : τ) (post : Int32 → τ → Prop) : Prop :=
  ∀ sz, Met l y wz rm (va_Pc av (gP D cl tys sz (wf u))) (va_Qi post (gB D cl tys (va_A (wf u) sz) wf) (va_A (wf u) sz)) 0 0 (va_A (wf u) sz)
def gMl {τ : Type} (l : Launch) (y : MethodName) (wz : List Cond) (rm : Room) (D : va_G) (cl : List vw_C) (tys : List (ClassId × FieldType)) (av : List Value) (wf : τ → va_W) (u : τ) (post : Int64 → τ → Prop) : Prop :=
  ∀ sz, Met l y wz rm (va_Pc av (gP D cl tys sz (wf u))) (va_Ql post (gB D cl tys (va_A (wf u) sz) wf) (va_A (wf u) sz)) 0 0 (va_A (wf u) sz)
def gMv {τ : Type} (l : Launch) (y : MethodName) (wz : List Cond) (rm : Room) (D : va_G) (cl : List vw_C) (tys : List (ClassId × FieldType)) (av : List Value) (wf : τ → va_W) (u : τ) (post : τ → Prop) : Prop :=
  ∀ sz, Met l y wz rm (va_Pc av (gP D cl tys sz (wf u))) (va_Qv post (gB D cl tys (va_A (wf u) sz) wf) (va_A (wf u) sz)) 0 0 (va_A (wf u) sz)
/-- what holds at a method's entry -/
def gE (p : Program) (s : State) (m : MethodId) (meth : Method) (c : Code) (y : MethodName) (cc : ByteArray) (maxL : Nat) (ret : Option FieldType) (wz : List Cond) (args : Array Value) : Prop :=
  p.tables.exec = Jvm.exec ∧ c.code = cc ∧ c.maxLocals = maxL ∧ meth.sig.returnType = ret ∧ meth.locks = false ∧ s.vm.findClass y.cls = some m.cls ∧ (∀ w ∈ wz, w.before args s = true) ∧ s.methodNamed? y = some m ∧ s.vm.method? m = some meth
theorem gP_blind {D : va_G} {cl : List vw_C} {tys : List (ClassId × FieldType)} {sz : Nat} {ws : va_W} {av : List Value} : FrameBlind (va_Pc av (gP D cl tys sz ws)) := fun a U g mk q => by
  obtain ⟨q0, q1, qP, qK, qD⟩ := q
  exact ⟨q0, q1, qP, va_K.moved (u := U) (U := U.calling g mk a) (Vm.Alike.refl U.vm) qK, qD⟩
section GE
variable {τ : Type} {l : Launch} {y : MethodName} {wz wz' : List Cond} {rm : Room} {D : va_G} {cl : List vw_C} {tys : List (ClassId × FieldType)} {av : List Value} {wf : τ → va_W} {u : τ} {cc : ByteArray} {maxL : Nat} {ret : Option FieldType}
theorem gMi_of {post : Int32 → τ → Prop} (hy : plainName y.cls = true) (hw : wz = Cond.code y cc maxL ret :: wz') (hlen : (lg_sl av).length ≤ maxL)
    (body : ∀ p e s m below meth c A ls, gE p s m meth c y cc maxL ret wz av.toArray → gG D cl tys A s (wf u) s.heap [] → lv_has ls maxL (lv_args 0 av) →
      W p l e rm s m av.toArray below meth c s.heap [] 0 0 (MQ below (va_Qi post (gB D cl tys A wf) A) av.toArray s 0 0 A) (F0 m 0 ls [])) : gMi l y wz rm D cl tys av wf u post := by
  intro sz
  refine Met.ofW (cc := cc) (maxL := maxL) (ret := ret) hy hw ?_
  intro p e s m args below meth c s₁ B hml hv
  obtain ⟨rfl, hsz, hP, hK, hD0⟩ := hv
  subst hsz
  rw [lg_entry_eq]
  exact body p e s m below meth c (va_A (wf u) s.heap.size) _ ⟨B.exec, B.bytes, hml, B.returns, B.notSynchronized, findClass_of_methodNamed B.named, atoms_spec (ws := wz) B.pre, B.named, B.method⟩ ⟨hP, hD0.self, va_S.rf, hK, fun q h => Or.inr h⟩ (lv_entry av hlen)
theorem gMl_of {post : Int64 → τ → Prop} (hy : plainName y.cls = true) (hw : wz = Cond.code y cc maxL ret :: wz') (hlen : (lg_sl av).length ≤ maxL)
    (body : ∀ p e s m below meth c A ls, gE p s m meth c y cc maxL ret wz av.toArray → gG D cl tys A s (wf u) s.heap [] → lv_has ls maxL (lv_args 0 av) →
      W p l e rm s m av.toArray below meth c s.heap [] 0 0 (MQ below (va_Ql post (gB D cl tys A wf) A) av.toArray s 0 0 A) (F0 m 0 ls [])) : gMl l y wz rm D cl tys av wf u post := by
  intro sz
  refine Met.ofW (cc := cc) (maxL := maxL) (ret := ret) hy hw ?_
  intro p e s m args below meth c s₁ B hml hv
  obtain ⟨rfl, hsz, hP, hK, hD0⟩ := hv
  subst hsz
  rw [lg_entry_eq]
  exact body p e s m below meth c (va_A (wf u) s.heap.size) _ ⟨B.exec, B.bytes, hml, B.returns, B.notSynchronized, findClass_of_methodNamed B.named, atoms_spec (ws := wz) B.pre, B.named, B.method⟩ ⟨hP, hD0.self, va_S.rf, hK, fun q h => Or.inr h⟩ (lv_entry av hlen)
theorem gMv_of {post : τ → Prop} (hy : plainName y.cls = true) (hw : wz = Cond.code y cc maxL ret :: wz') (hlen : (lg_sl av).length ≤ maxL)
    (body : ∀ p e s m below meth c A ls, gE p s m meth c y cc maxL ret wz av.toArray → gG D cl tys A s (wf u) s.heap [] → lv_has ls maxL (lv_args 0 av) →
      W p l e rm s m av.toArray below meth c s.heap [] 0 0 (MQ below (va_Qv post (gB D cl tys A wf) A) av.toArray s 0 0 A) (F0 m 0 ls [])) : gMv l y wz rm D cl tys av wf u post := by
  intro sz
  refine Met.ofW (cc := cc) (maxL := maxL) (ret := ret) hy hw ?_
  intro p e s m args below meth c s₁ B hml hv
  obtain ⟨rfl, hsz, hP, hK, hD0⟩ := hv
  subst hsz
  rw [lg_entry_eq]
  exact body p e s m below meth c (va_A (wf u) s.heap.size) _ ⟨B.exec, B.bytes, hml, B.returns, B.notSynchronized, findClass_of_methodNamed B.named, atoms_spec (ws := wz) B.pre, B.named, B.method⟩ ⟨hP, hD0.self, va_S.rf, hK, fun q h => Or.inr h⟩ (lv_entry av hlen)
end GE
section GC
variable {p : Program} {l : Launch} {e : Env} {R : Room} {s : State} {m : MethodId} {args : Array Value} {below : List Frame} {meth : Method} {c : Code} {H : Heap} {locs : List Loc} {cells slots : Nat} {Q : State → Prop}
variable {cc : ByteArray} {pc : Nat} {ls : Array Slot} {rest st0 : List Value} {D : va_G} {cl : List vw_C} {A : Nat → Prop} {b : Nat} {tys tysC : List (ClassId × FieldType)} {ws wr : va_W}
variable {τ : Type} {y : MethodName} {wz : List Cond} {rm : Room} {As : List Value} {wf : τ → va_W} {u : τ} {bytes : ByteArray} {maxL nL n index : Nat} {ret : Option FieldType} {Ts : List Cond} {own C : String}
theorem g_iret {post : Int32 → τ → Prop} {v : Int32} (E : gE p s m meth c y cc maxL (some .int) wz args) (G : gG D cl tys A s (wf u) H locs) (hp : post v u) (hdg : decode cc pc = .ok (.ireturn, 1)) :
    W p l e R s m args below meth c H locs 0 0 (MQ below (va_Qi post (gB D cl tys A wf) A) args s 0 0 A) (F0 m pc ls [.int v]) :=
  W.iret E.1 E.2.1 E.2.2.2.1 (fun t ht hW => ⟨⟨v, u, rfl, hp, by rw [ht]; exact G.1, va_K.moved hW.alike G.2.2.2.1, G.2.1⟩, G.2.2.1.F ht⟩) G.2.2.1.2.2 hdg E.2.2.2.2.1
theorem g_zret {post : Int32 → τ → Prop} {v : Int32} (E : gE p s m meth c y cc maxL (some .boolean) wz args) (G : gG D cl tys A s (wf u) H locs) (hn : narrow .boolean (.int v) = .int v) (hp : post v u) (hdg : decode cc pc = .ok (.ireturn, 1)) :
    W p l e R s m args below meth c H locs 0 0 (MQ below (va_Qi post (gB D cl tys A wf) A) args s 0 0 A) (F0 m pc ls [.int v]) :=
  W.zret E.1 E.2.1 E.2.2.2.1 hn (fun t ht hW => ⟨⟨v, u, rfl, hp, by rw [ht]; exact G.1, va_K.moved hW.alike G.2.2.2.1, G.2.1⟩, G.2.2.1.F ht⟩) G.2.2.1.2.2 hdg E.2.2.2.2.1
theorem g_lret {post : Int64 → τ → Prop} {v : Int64} (E : gE p s m meth c y cc maxL (some .long) wz args) (G : gG D cl tys A s (wf u) H locs) (hp : post v u) (hdg : decode cc pc = .ok (.lreturn, 1)) :
    W p l e R s m args below meth c H locs 0 0 (MQ below (va_Ql post (gB D cl tys A wf) A) args s 0 0 A) (F0 m pc ls [.long v]) :=
  W.lret E.1 E.2.1 E.2.2.2.1 (fun t ht hW => ⟨⟨v, u, rfl, hp, by rw [ht]; exact G.1, va_K.moved hW.alike G.2.2.2.1, G.2.1⟩, G.2.2.1.F ht⟩) G.2.2.1.2.2 hdg E.2.2.2.2.1
theorem g_vret {post : τ → Prop} (E : gE p s m meth c y cc maxL none wz args) (G : gG D cl tys A s (wf u) H locs) (hp : post u) (hdg : decode cc pc = .ok (.return_, 1)) :
    W p l e R s m args below meth c H locs 0 0 (MQ below (va_Qv post (gB D cl tys A wf) A) args s 0 0 A) (F0 m pc ls []) :=
  W.vret E.1 E.2.1 E.2.2.2.1 (fun t ht hW => ⟨⟨u, rfl, hp, by rw [ht]; exact G.1, va_K.moved hW.alike G.2.2.2.1, G.2.1⟩, G.2.2.1.F ht⟩) G.2.2.1.2.2 hdg E.2.2.2.2.1
/-- the callee's cells isC, the rest's isR -/
def gI (ws wc wr : va_W) (isC isR : List Nat) : Prop := isC.map (fun i => ws[i]?) = wc.map some ∧ isR.map (fun i => ws[i]?) = wr.map some ∧ va_nd isC = true ∧ va_nd isR = true ∧ ∀ i ∈ isR, i ∉ isC
theorem gI_P {wc : va_W} {isC isR : List Nat} (hI : gI ws wc wr isC isR) (hP : va_P D cl ws H) : va_P D cl wc H := by
  refine hP.sub isC ?_
  have h := congrArg (List.filterMap id) hI.1
  simpa [List.filterMap_map] using h
theorem g_pre {wc : va_W} {av : List Value} {isC isR : List Nat} (G : gG D cl tys A s ws H locs) (hKc : va_K D cl tysC s) (hI : gI ws wc wr isC isR) :
    ∀ U : State, U.heap = H → s.WarmedH U.vm → va_Pc av (gP D cl tysC H.size wc) av.toArray U := fun U hU hW =>
  ⟨rfl, by rw [hU], by rw [hU]; exact gI_P hI G.1, va_K.moved hW.alike hKc, (G.2.1.sub isC hI.2.2.1 hI.1).weaken (fun _ _ _ _ => trivial)⟩
theorem g_calli {post : Int32 → τ → Prop} (S : CallFix p m c cc nL s args Ts own) (hM : gMi l y wz rm D cl tysC (.ref b :: As) wf u post) (cw : CallW R s args own C index y bytes maxL ret wz rm 0 0 n)
    (G : gG D cl tys A s ws H locs) (hKc : va_K D cl tysC s) (isC isR : List Nat) (hI : gI ws (wf u) wr isC isR) (hrecv : ∃ cellB : Cell, H[b]? = some cellB ∧ cellB.vm.isStatics = false ∧ s.vm.findClass C = some cellB.cls)
    (hlen : As.length = n) (hls : ls.size = nL) (hst : st0 = As.reverse ++ .ref b :: rest) (hW : (rest.map fun v => v.category).sum ≤ 8) (hdg : decode cc pc = .ok (.invokevirtual index, 3)) (hf : cells ≤ R.cells ∧ slots ≤ R.slots)
    (kk : ∀ (r : Int32) (u' : τ) (H1 : Heap) (locs1 : List Loc), post r u' → gG D cl tys A s (wr ++ wf u') H1 locs1 → W p l e R s m args below meth c H1 locs1 cells slots Q (F0 m (pc + 3) ls (.int r :: rest))) :
    W p l e R s m args below meth c H locs cells slots Q (F0 m pc ls st0) := by
  obtain ⟨hP, hD, hS, hK, hA⟩ := id G
  have hFc := va_free hD hS hA isC hI.1
  refine va_calli (va_runV S (hM H.size) cw ⟨gP_blind, hrecv, g_pre G hKc hI⟩ rfl hlen hls hst (lv_room hW) hdg hf) hS (fun q _ h => hFc q h) hFc (fun r u' t H1 locs1 ht hvm hw hB hz1 hk1 hS1 => ?_)
  obtain ⟨hP1, hK1, hD1⟩ := hB
  rw [ht] at hP1
  obtain ⟨hP2, hD2⟩ := va_join hP hD isC isR hI.1 hI.2.1 hI.2.2.2.1 hI.2.2.2.2 hk1 hFc hP1 hD1
  exact kk r u' H1 locs1 hw ⟨hP2, hD2, hS1, hK, hA⟩
theorem g_calll {post : Int64 → τ → Prop} (S : CallFix p m c cc nL s args Ts own) (hM : gMl l y wz rm D cl tysC (.ref b :: As) wf u post) (cw : CallW R s args own C index y bytes maxL ret wz rm 0 0 n)
    (G : gG D cl tys A s ws H locs) (hKc : va_K D cl tysC s) (isC isR : List Nat) (hI : gI ws (wf u) wr isC isR) (hrecv : ∃ cellB : Cell, H[b]? = some cellB ∧ cellB.vm.isStatics = false ∧ s.vm.findClass C = some cellB.cls)
    (hlen : As.length = n) (hls : ls.size = nL) (hst : st0 = As.reverse ++ .ref b :: rest) (hW : (rest.map fun v => v.category).sum ≤ 8) (hdg : decode cc pc = .ok (.invokevirtual index, 3)) (hf : cells ≤ R.cells ∧ slots ≤ R.slots)
    (kk : ∀ (r : Int64) (u' : τ) (H1 : Heap) (locs1 : List Loc), post r u' → gG D cl tys A s (wr ++ wf u') H1 locs1 → W p l e R s m args below meth c H1 locs1 cells slots Q (F0 m (pc + 3) ls (.long r :: rest))) :
    W p l e R s m args below meth c H locs cells slots Q (F0 m pc ls st0) := by
  obtain ⟨hP, hD, hS, hK, hA⟩ := id G
  have hFc := va_free hD hS hA isC hI.1
  refine va_calll (va_runV S (hM H.size) cw ⟨gP_blind, hrecv, g_pre G hKc hI⟩ rfl hlen hls hst (lv_room hW) hdg hf) hS (fun q _ h => hFc q h) hFc (fun r u' t H1 locs1 ht hvm hw hB hz1 hk1 hS1 => ?_)
  obtain ⟨hP1, hK1, hD1⟩ := hB
  rw [ht] at hP1
  obtain ⟨hP2, hD2⟩ := va_join hP hD isC isR hI.1 hI.2.1 hI.2.2.2.1 hI.2.2.2.2 hk1 hFc hP1 hD1
  exact kk r u' H1 locs1 hw ⟨hP2, hD2, hS1, hK, hA⟩
theorem g_callv {post : τ → Prop} (S : CallFix p m c cc nL s args Ts own) (hM : gMv l y wz rm D cl tysC (.ref b :: As) wf u post) (cw : CallW R s args own C index y bytes maxL ret wz rm 0 0 n)
    (G : gG D cl tys A s ws H locs) (hKc : va_K D cl tysC s) (isC isR : List Nat) (hI : gI ws (wf u) wr isC isR) (hrecv : ∃ cellB : Cell, H[b]? = some cellB ∧ cellB.vm.isStatics = false ∧ s.vm.findClass C = some cellB.cls)
    (hlen : As.length = n) (hls : ls.size = nL) (hst : st0 = As.reverse ++ .ref b :: rest) (hW : (rest.map fun v => v.category).sum ≤ 8) (hdg : decode cc pc = .ok (.invokevirtual index, 3)) (hf : cells ≤ R.cells ∧ slots ≤ R.slots)
    (kk : ∀ (u' : τ) (H1 : Heap) (locs1 : List Loc), post u' → gG D cl tys A s (wr ++ wf u') H1 locs1 → W p l e R s m args below meth c H1 locs1 cells slots Q (F0 m (pc + 3) ls rest)) :
    W p l e R s m args below meth c H locs cells slots Q (F0 m pc ls st0) := by
  obtain ⟨hP, hD, hS, hK, hA⟩ := id G
  have hFc := va_free hD hS hA isC hI.1
  refine va_callv (va_runV S (hM H.size) cw ⟨gP_blind, hrecv, g_pre G hKc hI⟩ rfl hlen hls hst (lv_room hW) hdg hf) hS (fun q _ h => hFc q h) hFc (fun u' t H1 locs1 ht hvm hw hB hz1 hk1 hS1 => ?_)
  obtain ⟨hP1, hK1, hD1⟩ := hB
  rw [ht] at hP1
  obtain ⟨hP2, hD2⟩ := va_join hP hD isC isR hI.1 hI.2.1 hI.2.2.2.1 hI.2.2.2.2 hk1 hFc hP1 hD1
  exact kk u' H1 locs1 hw ⟨hP2, hD2, hS1, hK, hA⟩
/-- a static method without a world: an int of ints -/
def gMs (l : Launch) (y : MethodName) (wz : List Cond) (rm : Room) (av : List Value) (post : Int32 → Prop) : Prop :=
  ∀ (D : va_G) (cl : List vw_C), gMi l y wz rm D cl [] av (fun _ : Unit => []) () (fun r _ => post r)
theorem g_calls {post : Int32 → Prop} (S : CallFix p m c cc nL s args Ts own) (hM : gMs l y wz rm As post) (cw : CallB R s args own index y bytes maxL ret wz rm 0 0 n ∧ (Cond.static y).before args s = true)
    (G : gG D cl tys A s ws H locs) (hlen : As.length = n) (hls : ls.size = nL) (hst : st0 = As.reverse ++ rest) (hW : (rest.map fun v => v.category).sum ≤ 8) (hdg : decode cc pc = .ok (.invokestatic index, 3)) (hf : cells ≤ R.cells ∧ slots ≤ R.slots)
    (kk : ∀ (r : Int32) (H1 : Heap) (locs1 : List Loc), post r → gG D cl tys A s ws H1 locs1 → W p l e R s m args below meth c H1 locs1 cells slots Q (F0 m (pc + 3) ls (.int r :: rest))) :
    W p l e R s m args below meth c H locs cells slots Q (F0 m pc ls st0) := by
  obtain ⟨hP, hD, hS, hK, hA⟩ := id G
  have hFc : ∀ q, va_A [] H.size q → A q := va_free hD hS hA [] rfl
  have hKc : va_K D cl [] s := hK.sub [] rfl
  refine va_calli (va_runS S (hM D cl H.size) cw ⟨gP_blind, fun U hU hW => ⟨rfl, by rw [hU], fun k q h => by simp at h, va_K.moved hW.alike hKc, ⟨fun i j p q h => by simp at h, fun k q h => by simp at h⟩⟩⟩ rfl hlen hls hst (lv_room hW) hdg hf) hS (fun q _ h => hFc q h) hFc (fun r u' t H1 locs1 ht hvm hw hB hz1 hk1 hS1 => ?_)
  have hap : ∀ (k : Nat) (q : Nat × va_E), ws[k]? = some q → H1[q.1]? = H[q.1]? := fun k q hq => by
    have hl := (hP k q hq).lt
    refine hk1 q.1 hl (fun h => ?_)
    rcases h with ⟨k2, e2, h⟩ | h
    · simp at h
    · omega
  exact kk r H1 locs1 hw ⟨fun k q hq => (hP k q hq).kept (hap k q hq), hD, hS1, hK, hA⟩
theorem g_get {a : Nat} (hexec : p.tables.exec = Jvm.exec) (hb : c.code = cc) {ref C : String} {T : u_T} {N ci : Nat} (hts : ∀ w ∈ Ts, w.before args s = true) (hin : ∀ w ∈ u_ws C T N, w ∈ Ts) (hown : s.vm.findClass own = some m.cls) (G : gG D cl tys A s ws H locs) (q0 : Nat) {fs : List Value} (he : ws[q0]? = some (a, .inr (ci, fs))) (hc : cl[ci]? = some (C, T, N)) (k : Nat) (hk : k < N) (hlink : (Cond.fieldLink own index ref (T k).2.1 (T k).2.2.1).before args s = true) (hsame : (T k).1 = ref) {v : Value} (hv : fs[k]? = some v) (hdg : decode cc pc = .ok (.getfield index, 3))
    (kk : W p l e R s m args below meth c H locs cells slots Q (F0 m (pc + 3) ls (v :: rest))) : W p l e R s m args below meth c H locs cells slots Q (F0 m pc ls (.ref a :: rest)) :=
  va_get hexec hb hts hin hown G.2.2.2.1 G.1 q0 he hc k hk hlink (fun _ h9 => by rw [← hsame]; exact h9) hv hdg kk
theorem g_put {a : Nat} (hexec : p.tables.exec = Jvm.exec) (hb : c.code = cc) {ref C : String} {T : u_T} {N ci : Nat} (hts : ∀ w ∈ Ts, w.before args s = true) (hin : ∀ w ∈ u_ws C T N, w ∈ Ts) (ty0 : Nat → FieldType) (hty : ∀ k, k < N → parseFieldDescriptor (T k).2.2.1 = some (ty0 k)) (hnm : ∀ a, a < N → ∀ b, b < N → a ≠ b → (T a).2.1 ≠ (T b).2.1) (hown : s.vm.findClass own = some m.cls) (G : gG D cl tys A s ws H locs) (q0 : Nat) {fs : List Value} (he : ws[q0]? = some (a, .inr (ci, fs))) (hc : cl[ci]? = some (C, T, N)) (k : Nat) (hk : k < N) (hlink : (Cond.fieldLink own index ref (T k).2.1 (T k).2.2.1).before args s = true) (hsame : (T k).1 = ref) (hfin : (T k).2.2.2 = false) {ty : FieldType} {v : Value} (hd : parseFieldDescriptor (T k).2.2.1 = some ty) (hn : narrow ty v = v) (hfit : fits ty v = true) (hl : k < fs.length) (ws' : va_W) (hset : ws.set q0 (a, .inr (ci, fs.set k v)) = ws')
    (hdg : decode cc pc = .ok (.putfield index, 3)) (kk : ∀ (H1 : Heap) (locs1 : List Loc), gG D cl tys A s ws' H1 locs1 → W p l e R s m args below meth c H1 locs1 cells slots Q (F0 m (pc + 3) ls rest)) : W p l e R s m args below meth c H locs cells slots Q (F0 m pc ls (v :: .ref a :: rest)) := by
  subst hset
  exact va_put hexec hb hts hin ty0 hty hnm hown G.2.2.2.1 G.1 G.2.1 G.2.2.1 q0 he hc k hk hlink (fun _ h9 => by rw [← hsame]; exact h9) hfin hd hn hfit hl hdg (fun H1 locs1 h1 h2 h3 => kk H1 locs1 ⟨h1, h2, h3, G.2.2.2.1, G.2.2.2.2⟩)
theorem g_ild {a : Nat} (hexec : p.tables.exec = Jvm.exec) (hb : c.code = cc) (G : gG D cl tys A s ws H locs) (q0 t0 : Nat) {cA : ClassId} {n : Nat} {f : Nat → Int32} (ha : ws[q0]? = some (a, .inl (cA, n, .inl f))) (ht : tys[t0]? = some (cA, .int)) {i : Int32} (hin : vp_in i n) (hdg : decode cc pc = .ok (.iaload, 1))
    (kk : W p l e R s m args below meth c H locs cells slots Q (F0 m (pc + 1) ls (.int (f i.toNatClampNeg) :: rest))) : W p l e R s m args below meth c H locs cells slots Q (F0 m pc ls (.int i :: .ref a :: rest)) :=
  va_iald hexec hb G.2.2.2.1 G.1 q0 t0 ha ht hin hdg kk
theorem g_ist {a : Nat} (hexec : p.tables.exec = Jvm.exec) (hb : c.code = cc) (G : gG D cl tys A s ws H locs) (q0 t0 : Nat) {cA : ClassId} {n : Nat} {f : Nat → Int32} (ha : ws[q0]? = some (a, .inl (cA, n, .inl f))) (ht : tys[t0]? = some (cA, .int)) {i x : Int32} (hin : vp_in i n) (ws' : va_W) (hset : ws.set q0 (a, .inl (cA, n, .inl (upd f i.toNatClampNeg x))) = ws') (hdg : decode cc pc = .ok (.iastore, 1))
    (kk : ∀ (H1 : Heap) (locs1 : List Loc), gG D cl tys A s ws' H1 locs1 → W p l e R s m args below meth c H1 locs1 cells slots Q (F0 m (pc + 1) ls rest)) : W p l e R s m args below meth c H locs cells slots Q (F0 m pc ls (.int x :: .int i :: .ref a :: rest)) := by
  subst hset
  exact va_iast hexec hb G.2.2.2.1 G.1 G.2.1 G.2.2.1 q0 t0 ha ht hin hdg (fun H1 locs1 h1 h2 h3 => kk H1 locs1 ⟨h1, h2, h3, G.2.2.2.1, G.2.2.2.2⟩)
theorem g_alen {a : Nat} (hexec : p.tables.exec = Jvm.exec) (hb : c.code = cc) (G : gG D cl tys A s ws H locs) (q0 t0 : Nat) {cA : ClassId} {x : vp_A} (ha : ws[q0]? = some (a, .inl (cA, x))) {ty : FieldType} (ht : tys[t0]? = some (cA, ty)) {v : Int32} (hv : Int32.ofNat x.1 = v) (hdg : decode cc pc = .ok (.arraylength, 1))
    (kk : W p l e R s m args below meth c H locs cells slots Q (F0 m (pc + 1) ls (.int v :: rest))) : W p l e R s m args below meth c H locs cells slots Q (F0 m pc ls (.ref a :: rest)) :=
  va_alen hexec hb G.2.2.2.1 G.1 q0 t0 ha ht hv hdg kk
end GC
end
section
/-! SkewMelds as pure functions: the state is (row, heaps, unused, firstUnused, steps, limit); each function mirrors a method, branch by branch -/
abbrev Sx : Type := (Nat → Int32) × Int32 × Int32 × Int32 × Int32 × Int32
def x_sR (σ : Sx) (v : Nat → Int32) : Sx := (v, σ.2.1, σ.2.2.1, σ.2.2.2.1, σ.2.2.2.2.1, σ.2.2.2.2.2)
def x_sH (σ : Sx) (v : Int32) : Sx := (σ.1, v, σ.2.2.1, σ.2.2.2.1, σ.2.2.2.2.1, σ.2.2.2.2.2)
def x_sU (σ : Sx) (v : Int32) : Sx := (σ.1, σ.2.1, v, σ.2.2.2.1, σ.2.2.2.2.1, σ.2.2.2.2.2)
def x_sF (σ : Sx) (v : Int32) : Sx := (σ.1, σ.2.1, σ.2.2.1, v, σ.2.2.2.2.1, σ.2.2.2.2.2)
def x_sS (σ : Sx) (v : Int32) : Sx := (σ.1, σ.2.1, σ.2.2.1, σ.2.2.2.1, v, σ.2.2.2.2.2)
def x_sL (σ : Sx) (v : Int32) : Sx := (σ.1, σ.2.1, σ.2.2.1, σ.2.2.2.1, σ.2.2.2.2.1, v)
def x_read (σ : Sx) (a : Int32) : Int32 × Sx :=
  if a < 0 then (-1, σ) else if a < 1080 then (σ.1 a.toNatClampNeg, x_sS σ (σ.2.2.2.2.1 + 1)) else (-1, σ)
def x_write (σ : Sx) (a v : Int32) : Sx :=
  if a < 0 then σ else if a < 1080 then x_sR (x_sS σ (σ.2.2.2.2.1 + 1)) (upd σ.1 a.toNatClampNeg v) else σ
def x_begin (σ : Sx) (most : Int32) : Sx := x_sL (x_sS σ 0) most
def x_ex (σ : Sx) (h : Int32) : Int32 := if h < 0 then 0 else if σ.2.1 ≤ h then 0 else 1
def x_keysIn (σ : Sx) (h : Int32) : Int32 × Sx := if x_ex σ h = 0 then (0, σ) else x_read σ (1072 + h)
/-- limitFor's loop, p: the power so far -/
def x_pow (keys : Int32) : Nat → Int32 → Int32
  | 0, p => p
  | n + 1, p => if 30 ≤ p then p else if keys + 1 < (2 : Int32) <<< (p &&& 31) then p else x_pow keys n (p + 1)
def x_limFor (keys : Int32) : Int32 := 200 * (2 + x_pow keys 31 0)
def x_beginOn (σ : Sx) (h : Int32) : Sx := x_sL (x_keysIn (x_sS σ 0) h).2 (x_limFor (x_keysIn (x_sS σ 0) h).1)
def x_beginOnBoth (σ : Sx) (to fr : Int32) : Sx :=
  let q1 := x_keysIn (x_sS σ 0) to
  let q2 := x_keysIn q1.2 fr
  x_sL q2.2 (x_limFor (q1.1 + q2.1))
def x_resize (σ : Sx) (h k : Int32) : Int32 × Sx := (k, x_write σ (1072 + h) k)
def x_newCell (σ : Sx) (key : Int32) : Int32 × Sx :=
  let cell := σ.2.2.2.1
  let q := x_read σ (600 + cell)
  let s1 := x_sF q.2 q.1
  let s2 := x_sU s1 (s1.2.2.1 - 1)
  let s3 := x_write s2 (0 + cell) key
  let s4 := x_write s3 (200 + cell) 0
  (cell, x_write s4 (400 + cell) (-1))
def x_giveBack (σ : Sx) (cell : Int32) : Sx :=
  let s1 := x_write σ (600 + cell) σ.2.2.2.1
  let s2 := x_sF s1 cell
  x_sU s2 (s2.2.2.1 + 1)
def x_topAt (h r : Int32) : Int32 := 1000 + h * 8 + r
def x_cutTop (σ : Sx) (h r : Int32) : Int32 × Sx :=
  let q := x_read σ (x_topAt h r)
  (q.1, x_write q.2 (x_topAt h r) (-1))
def x_cutTwin (σ : Sx) (h : Int32) : Int32 × Sx :=
  let q := x_read σ (1064 + h)
  (q.1, x_write q.2 (1064 + h) (-1))
def x_hangTree (σ : Sx) (root tree : Int32) : Sx :=
  let q := x_read σ (400 + root)
  x_write (x_write q.2 (600 + tree) q.1) (400 + root) tree
def x_link (σ : Sx) (one other : Int32) : Int32 × Sx :=
  let q1 := x_read σ (0 + one)
  let q2 := x_read q1.2 (0 + other)
  if q2.1 < q1.1 then
    let s3 := x_hangTree q2.2 other one
    let q4 := x_read s3 (200 + other)
    (other, x_write q4.2 (200 + other) (q4.1 + 1))
  else
    let s3 := x_hangTree q2.2 one other
    let q4 := x_read s3 (200 + one)
    (one, x_write q4.2 (200 + one) (q4.1 + 1))
def x_hangKey (σ : Sx) (root cell : Int32) : Sx :=
  let q1 := x_read σ (0 + root)
  let q2 := x_read q1.2 (0 + cell)
  if q1.1 ≤ q2.1 then x_hangTree q2.2 root cell
  else x_hangTree (x_write (x_write q2.2 (0 + root) q2.1) (0 + cell) q1.1) root cell
/-- insertCell behind the first branch: the tree goes to its place or is the twin -/
def x_insTail (σ : Sx) (h tree : Int32) : Sx :=
  let q5 := x_read σ (200 + tree)
  let q6 := x_read q5.2 (x_topAt h q5.1)
  if q6.1 = -1 then x_write q6.2 (x_topAt h q5.1) tree else x_write q6.2 (1064 + h) tree
def x_insertCell (σ : Sx) (h cell : Int32) : Sx :=
  let q1 := x_cutTwin σ h
  if q1.1 = -1 then x_insTail q1.2 h cell
  else
    let q2 := x_read q1.2 (200 + q1.1)
    let q3 := x_cutTop q2.2 h q2.1
    let q4 := x_link q3.2 q1.1 q3.1
    x_insTail (x_hangKey q4.2 q4.1 cell) h q4.1
def x_placeL (h : Int32) : Nat → Sx → Int32 → Int32 → Sx
  | 0, σ, _, _ => σ
  | n + 1, σ, tree, rank =>
    if 8 ≤ rank then σ else
      let q := x_cutTop σ h rank
      if q.1 = -1 then x_write q.2 (x_topAt h rank) tree
      else
        let q2 := x_link q.2 tree q.1
        x_placeL h n q2.2 q2.1 (rank + 1)
def x_place (σ : Sx) (h added : Int32) : Sx :=
  if added = -1 then σ else
    let q := x_read σ (200 + added)
    x_placeL h ((8 - q.1.toInt).toNat + 1) q.2 added q.1
def y_pcL (h : Int32) : Nat → Sx → Int32 → Int32 → Sx
  | 0, σ, _, _ => σ
  | n + 1, σ, child, i =>
    if 200 ≤ i then σ else if child = -1 then σ else
      let q := x_read σ (600 + child)
      y_pcL h n (x_place q.2 h child) q.1 (i + 1)
def x_placeChildren (σ : Sx) (h root : Int32) : Sx :=
  let q := x_read σ (400 + root)
  y_pcL h 201 q.2 q.1 0
def x_lesserRoot (σ : Sx) (one other : Int32) : Int32 × Sx :=
  if one = -1 then (other, σ) else if other = -1 then (one, σ) else
    let q1 := x_read σ (0 + one)
    let q2 := x_read q1.2 (0 + other)
    if q2.1 < q1.1 then (other, q2.2) else (one, q2.2)
def y_lrL (h : Int32) : Nat → Sx → Int32 → Int32 → Int32 × Sx
  | 0, σ, best, _ => (best, σ)
  | n + 1, σ, best, rank =>
    if 8 ≤ rank then (best, σ) else
      let q := x_read σ (x_topAt h rank)
      let q2 := x_lesserRoot q.2 best q.1
      y_lrL h n q2.2 q2.1 (rank + 1)
def x_leastRoot (σ : Sx) (h : Int32) : Int32 × Sx :=
  if x_ex σ h = 0 then (-1, σ) else
    let q := x_read σ (1064 + h)
    y_lrL h 9 q.2 q.1 0
def x_cutRoot (σ : Sx) (h root : Int32) : Sx :=
  let q := x_cutTwin σ h
  if q.1 = root then q.2 else
    let q2 := x_read q.2 (200 + root)
    x_place (x_cutTop q2.2 h q2.1).2 h q.1
def y_lcL (most : Int32) : Nat → Sx → Int32 → Int32 → Int32 → Int32 × Sx
  | 0, σ, e, _, _ => (e, σ)
  | n + 1, σ, e, ce, i =>
    if most ≤ i then (e, σ) else if ce = -1 then (e, σ) else if 200 ≤ e then (e, σ) else
      let q := x_read (x_write σ (800 + e) ce) (600 + ce)
      y_lcL most n q.2 (e + 1) q.1 (i + 1)
def x_listChain (σ : Sx) (count first most : Int32) : Int32 × Sx := y_lcL most (most.toInt.toNat + 1) σ count first 0
def y_lsT (h : Int32) : Nat → Sx → Int32 → Int32 → Int32 × Sx
  | 0, σ, count, _ => (count, σ)
  | n + 1, σ, count, rank =>
    if 8 ≤ rank then (count, σ) else
      let q := x_read σ (x_topAt h rank)
      let q2 := x_listChain q.2 count q.1 1
      y_lsT h n q2.2 q2.1 (rank + 1)
def y_lsC : Nat → Sx → Int32 → Int32 → Int32 × Sx
  | 0, σ, count, _ => (count, σ)
  | n + 1, σ, count, i =>
    if count ≤ i then (count, σ) else if 200 ≤ i then (count, σ) else
      let q := x_read σ (800 + i)
      let q2 := x_read q.2 (400 + q.1)
      let q3 := x_listChain q2.2 count q2.1 200
      y_lsC n q3.2 q3.1 (i + 1)
def x_listCells (σ : Sx) (h : Int32) : Int32 × Sx :=
  let q := x_read σ (1064 + h)
  let q2 := x_listChain q.2 0 q.1 1
  let q3 := y_lsT h 9 q2.2 q2.1 0
  y_lsC 201 q3.2 q3.1 0
def x_listedKey (σ : Sx) (i : Int32) : Int32 × Sx :=
  let q := x_read σ (800 + i)
  x_read q.2 (0 + q.1)
def y_cuL (bound : Int64) (count : Int32) : Nat → Sx → Int32 → Int32 → Int32 × Sx
  | 0, σ, found, _ => (found, σ)
  | n + 1, σ, found, i =>
    if count ≤ i then (found, σ) else
      let q := x_listedKey σ i
      if bound < q.1.toInt64 then y_cuL bound count n q.2 found (i + 1) else y_cuL bound count n q.2 (found + 1) (i + 1)
def x_countUpTo (σ : Sx) (count : Int32) (bound : Int64) : Int32 × Sx := y_cuL bound count (count.toInt.toNat + 1) σ 0 0
def y_kthL (count k : Int32) : Nat → Sx → Int64 → Int64 → Int32 → Int64 × Sx
  | 0, σ, low, _, _ => (low, σ)
  | n + 1, σ, low, high, bit =>
    if 32 ≤ bit then (low, σ) else
      let q := x_countUpTo σ count ((low + high) >>> ((1 : Int32).toInt64 &&& 63))
      if q.1 ≤ k then y_kthL count k n q.2 ((low + high) >>> ((1 : Int32).toInt64 &&& 63) + 1) high (bit + 1) else y_kthL count k n q.2 low ((low + high) >>> ((1 : Int32).toInt64 &&& 63)) (bit + 1)
def x_kthListed (σ : Sx) (count k : Int32) : Int64 × Sx := y_kthL count k 33 σ (-2147483648) 2147483647 0
def y_sumL (count : Int32) : Nat → Sx → Int64 → Int32 → Int64 × Sx
  | 0, σ, total, _ => (total, σ)
  | n + 1, σ, total, i =>
    if count ≤ i then (total, σ) else
      let q := x_listedKey σ i
      y_sumL count n q.2 (total + q.1.toInt64) (i + 1)
def x_heap (σ : Sx) : Int32 × Sx :=
  let s := x_begin σ 2147483647
  if s.2.1 < 8 then
    let s2 := x_sH s (s.2.1 + 1)
    (s2.2.1 - 1, s2)
  else (-1, s)
def x_add (σ : Sx) (h key : Int32) : Int32 × Sx :=
  let s := x_begin σ 100
  if x_ex s h = 0 then (-1, s) else if s.2.2.2.1 = -1 then (-2, s) else
    let q := x_newCell s key
    let s2 := x_insertCell q.2 h q.1
    let q3 := x_read s2 (1072 + h)
    x_resize q3.2 h (q3.1 + 1)
def x_least (σ : Sx) (h : Int32) : Int64 × Sx :=
  let s := x_beginOn σ h
  let q := x_leastRoot s h
  if q.1 = -1 then (-9223372036854775808, q.2) else
    let q2 := x_read q.2 (0 + q.1)
    (q2.1.toInt64, q2.2)
def x_take (σ : Sx) (h : Int32) : Int64 × Sx :=
  let s := x_beginOn σ h
  let q := x_leastRoot s h
  if q.1 = -1 then (-9223372036854775808, q.2) else
    let q2 := x_read q.2 (0 + q.1)
    let s3 := x_cutRoot q2.2 h q.1
    let s4 := x_placeChildren s3 h q.1
    let s5 := x_giveBack s4 q.1
    let q6 := x_read s5 (1072 + h)
    (q2.1.toInt64, (x_resize q6.2 h (q6.1 - 1)).2)
def y_meL (to fr : Int32) : Nat → Sx → Int32 → Sx
  | 0, σ, _ => σ
  | n + 1, σ, rank =>
    if 8 ≤ rank then σ else
      let q := x_cutTop σ fr rank
      y_meL to fr n (x_place q.2 to q.1) (rank + 1)
def x_meldT (to fr : Int32) (s3 : Sx) : Int32 × Sx :=
  let q4 := x_read s3 (1072 + fr)
  let q5 := x_resize q4.2 fr 0
  let q6 := x_read q5.2 (1072 + to)
  x_resize q6.2 to (q6.1 + q4.1)
def x_meld (σ : Sx) (to fr : Int32) : Int32 × Sx :=
  let s := x_beginOnBoth σ to fr
  if x_ex s to = 0 then (-1, s) else if x_ex s fr = 0 then (-1, s) else if to = fr then (-1, s) else
    let q1 := x_cutTwin s to
    let s1 := x_place q1.2 to q1.1
    let q2 := x_cutTwin s1 fr
    let s2 := x_place q2.2 to q2.1
    x_meldT to fr (y_meL to fr 9 s2 0)
def x_size (σ : Sx) (h : Int32) : Int32 × Sx :=
  let s := x_begin σ 2147483647
  if x_ex s h = 0 then (-1, s) else x_read s (1072 + h)
def x_key (σ : Sx) (h k : Int32) : Int64 × Sx :=
  let s := x_begin σ 2147483647
  if k < 0 then (-9223372036854775808, s) else
    let q := x_keysIn s h
    if k < q.1 then
      let q2 := x_listCells q.2 h
      x_kthListed q2.2 q2.1 k
    else (-9223372036854775808, q.2)
def x_sum (σ : Sx) (h : Int32) : Int64 × Sx :=
  let s := x_begin σ 2147483647
  if x_ex s h = 0 then (0, s) else
    let q := x_listCells s h
    y_sumL q.1 (q.1.toInt.toNat + 1) q.2 0 0
def x_free (σ : Sx) : Int32 × Sx := ((x_begin σ 2147483647).2.2.1, x_begin σ 2147483647)
def x_few (σ : Sx) : Int32 × Sx := ((if σ.2.2.2.2.2 < σ.2.2.2.2.1 then 0 else 1), x_begin σ 2147483647)
def y_inL : Nat → Sx → Int32 → Sx
  | 0, σ, _ => σ
  | n + 1, σ, i => if 1072 ≤ i then σ else y_inL n (x_write σ i (-1)) (i + 1)
def y_giL : Nat → Sx → Int32 → Sx
  | 0, σ, _ => σ
  | n + 1, σ, ce => if ce < 0 then σ else y_giL n (x_giveBack σ ce) (ce + (-1))
def x_new : Sx :=
  let s1 := y_inL 73 (fun _ => 0, 0, 0, 0, 0, 0) 1000
  x_begin (y_giL 201 (x_sF s1 (-1)) 199) 2147483647
end
section
/-! SkewMelds' two cells: the object and its row -/
abbrev xw (h0 r0 : Nat) (cA : ClassId) (σ : Sx) : va_W := [(h0, .inr (0, [.ref r0, .int σ.2.1, .int σ.2.2.1, .int σ.2.2.2.1, .int σ.2.2.2.2.1, .int σ.2.2.2.2.2])), (r0, .inl (cA, 1080, .inl σ.1))]
theorem x_I {h0 r0 : Nat} {cA : ClassId} {σ : Sx} : gI (xw h0 r0 cA σ) (xw h0 r0 cA σ) [] [0, 1] [] := ⟨rfl, rfl, rfl, rfl, fun i h => by simp at h⟩
theorem x_inb {a : Int32} (h0 : ¬ a < 0) (h1 : a < 1080) : vp_in a 1080 := by
  have e0 : (0 : Int32).toInt = 0 := rfl
  have e1 : (1080 : Int32).toInt = 1080 := rfl
  rw [Int32.lt_iff_toInt_lt] at h0 h1
  exact vp_in_iff.mpr ⟨by omega, by omega⟩
theorem x_meas {B k : Int32} (h : ¬ B ≤ k) : (B.toInt - (k + 1).toInt).toNat < (B.toInt - k.toInt).toNat := by
  rw [Int32.le_iff_toInt_le] at h
  have h1 := Int32.toInt_lt B
  have h2 := Int32.le_toInt k
  have e : (k + 1).toInt = k.toInt + 1 := by
    rw [Int32.toInt_add, show (1 : Int32).toInt = 1 from rfl, Int.bmod_eq_of_le (by omega) (by omega)]
  rw [e]
  omega
theorem x_meas0 {B : Int32} : (B.toInt - (0 : Int32).toInt).toNat < B.toInt.toNat + 1 := by
  rw [show (0 : Int32).toInt = 0 from rfl]
  omega
section XC
variable {p : Program} {l : Launch} {e : Env} {R : Room} {s : State} {m : MethodId} {args : Array Value} {below : List Frame} {meth : Method} {c : Code} {H : Heap} {locs : List Loc} {cells slots : Nat} {Q : State → Prop}
variable {cc : ByteArray} {pc : Nat} {ls : Array Slot} {rest st0 : List Value} {D : va_G} {A : Nat → Prop} {h0 r0 : Nat} {cA : ClassId} {σ : Sx}
variable {y : MethodName} {wz : List Cond} {rm : Room} {As : List Value} {bytes : ByteArray} {maxL nL n index : Nat} {ret : Option FieldType} {Ts : List Cond} {own : String}
theorem x_calli {post : Int32 → Sx → Prop} (S : CallFix p m c cc nL s args Ts own) (hM : gMi l y wz rm D vwCl [(cA, .int)] (.ref h0 :: As) (xw h0 r0 cA) σ post) (cw : CallW R s args own RX0 index y bytes maxL ret wz rm 0 0 n)
    (G : gG D vwCl [(cA, .int)] A s (xw h0 r0 cA σ) H locs) (hlen : As.length = n) (hls : ls.size = nL) (hst : st0 = As.reverse ++ .ref h0 :: rest) (hW : (rest.map fun v => v.category).sum ≤ 8) (hdg : decode cc pc = .ok (.invokevirtual index, 3)) (hf : cells ≤ R.cells ∧ slots ≤ R.slots)
    (kk : ∀ (r : Int32) (σ' : Sx) (H1 : Heap) (locs1 : List Loc), post r σ' → gG D vwCl [(cA, .int)] A s (xw h0 r0 cA σ') H1 locs1 → W p l e R s m args below meth c H1 locs1 cells slots Q (F0 m (pc + 3) ls (.int r :: rest))) :
    W p l e R s m args below meth c H locs cells slots Q (F0 m pc ls st0) :=
  g_calli S hM cw G G.2.2.2.1 [0, 1] [] x_I (va_recv G.2.2.2.1 G.1 (ci := 0) (q0 := 0) rfl rfl) hlen hls hst hW hdg hf (fun r u' H1 locs1 hp hG => kk r u' H1 locs1 hp hG)
theorem x_calll {post : Int64 → Sx → Prop} (S : CallFix p m c cc nL s args Ts own) (hM : gMl l y wz rm D vwCl [(cA, .int)] (.ref h0 :: As) (xw h0 r0 cA) σ post) (cw : CallW R s args own RX0 index y bytes maxL ret wz rm 0 0 n)
    (G : gG D vwCl [(cA, .int)] A s (xw h0 r0 cA σ) H locs) (hlen : As.length = n) (hls : ls.size = nL) (hst : st0 = As.reverse ++ .ref h0 :: rest) (hW : (rest.map fun v => v.category).sum ≤ 8) (hdg : decode cc pc = .ok (.invokevirtual index, 3)) (hf : cells ≤ R.cells ∧ slots ≤ R.slots)
    (kk : ∀ (r : Int64) (σ' : Sx) (H1 : Heap) (locs1 : List Loc), post r σ' → gG D vwCl [(cA, .int)] A s (xw h0 r0 cA σ') H1 locs1 → W p l e R s m args below meth c H1 locs1 cells slots Q (F0 m (pc + 3) ls (.long r :: rest))) :
    W p l e R s m args below meth c H locs cells slots Q (F0 m pc ls st0) :=
  g_calll S hM cw G G.2.2.2.1 [0, 1] [] x_I (va_recv G.2.2.2.1 G.1 (ci := 0) (q0 := 0) rfl rfl) hlen hls hst hW hdg hf (fun r u' H1 locs1 hp hG => kk r u' H1 locs1 hp hG)
theorem x_callv {post : Sx → Prop} (S : CallFix p m c cc nL s args Ts own) (hM : gMv l y wz rm D vwCl [(cA, .int)] (.ref h0 :: As) (xw h0 r0 cA) σ post) (cw : CallW R s args own RX0 index y bytes maxL ret wz rm 0 0 n)
    (G : gG D vwCl [(cA, .int)] A s (xw h0 r0 cA σ) H locs) (hlen : As.length = n) (hls : ls.size = nL) (hst : st0 = As.reverse ++ .ref h0 :: rest) (hW : (rest.map fun v => v.category).sum ≤ 8) (hdg : decode cc pc = .ok (.invokevirtual index, 3)) (hf : cells ≤ R.cells ∧ slots ≤ R.slots)
    (kk : ∀ (σ' : Sx) (H1 : Heap) (locs1 : List Loc), post σ' → gG D vwCl [(cA, .int)] A s (xw h0 r0 cA σ') H1 locs1 → W p l e R s m args below meth c H1 locs1 cells slots Q (F0 m (pc + 3) ls rest)) :
    W p l e R s m args below meth c H locs cells slots Q (F0 m pc ls st0) :=
  g_callv S hM cw G G.2.2.2.1 [0, 1] [] x_I (va_recv G.2.2.2.1 G.1 (ci := 0) (q0 := 0) rfl rfl) hlen hls hst hW hdg hf (fun u' H1 locs1 hp hG => kk u' H1 locs1 hp hG)
end XC
end
section
set_option maxHeartbeats 4000000 in
set_option maxRecDepth 100000 in
theorem kX0_read (l : Launch) (D : va_G) (h0 r0 : Nat) (cA : ClassId) (σ : Sx) (a0 : Int32) : gMi l yX0_read wsX0_read ({ frames := 0, cells := 0, slots := 0, locals := 0 }) D vwCl [(cA, .int)] [.ref h0, .int a0] (xw h0 r0 cA) σ (fun r σ' => x_read σ a0 = (r, σ')) := by
  refine gMi_of (cc := cX0_read) (maxL := 2) (ret := (some .int)) (by decide) rfl (Nat.le_of_ble_eq_true rfl) ?_
  intro p e s m below meth c A ls E G hl
  obtain ⟨hx, hb, hml, hr, hlocks, hown, hts, -, -⟩ := id E
  have hin : ∀ w ∈ wsX00, w ∈ wsX0_read := fun w h => List.mem_cons_of_mem _ (List.mem_append_right _ h)
  have hl : lv_has ls 2 [(0, .ref h0), (1, .int a0)] := hl
  refine lv_iload_n hx hb dX0_read_0 rfl (lv_at hl 1 rfl) ?_
  refine lv_if_lt (tgt := 13) hx hb dX0_read_1 (by decide) (fun c_1 => ?_) (fun c_1 => ?_)
  · refine lv_iconst (v := (-1)) hx hb dX0_read_13 (by decide) ?_
    exact g_iret (u := σ) E G (by (simp only [x_read, c_1, ↓reduceIte]) <;> rfl) dX0_read_14
  · refine lv_iload_n hx hb dX0_read_4 rfl (lv_at hl 1 rfl) ?_
    refine lv_aload_n hx hb dX0_read_5 rfl (lv_at hl 0 rfl) ?_
    refine g_get (C := RX0) (T := TX0) (N := 6) (ci := 0) (v := .ref r0) hx hb hts hin hown G 0 rfl rfl 0 (by decide) (hts (.fieldLink RX0 13 "SkewMelds" "row" "[I") (by decide +kernel)) rfl rfl dX0_read_6 ?_
    refine g_alen (v := 1080) hx hb G 1 0 rfl rfl rfl dX0_read_9 ?_
    refine lv_icmp_lt (tgt := 15) hx hb dX0_read_10 (by decide) (fun c_2 => ?_) (fun c_2 => ?_)
    · refine lv_aload_n hx hb dX0_read_15 rfl (lv_at hl 0 rfl) ?_
      refine lv_dup hx hb dX0_read_16 rfl ?_
      refine g_get (C := RX0) (T := TX0) (N := 6) (ci := 0) (v := .int σ.2.2.2.2.1) hx hb hts hin hown G 0 rfl rfl 4 (by decide) (hts (.fieldLink RX0 96 "SkewMelds" "steps" "I") (by decide +kernel)) rfl rfl dX0_read_17 ?_
      refine lv_iconst (v := 1) hx hb dX0_read_20 (by decide) ?_
      refine lv_iadd hx hb dX0_read_21 ?_
      refine g_put (C := RX0) (T := TX0) (N := 6) (ci := 0) (v := .int (σ.2.2.2.2.1 + 1)) (ty := .int) hx hb hts hin tyX0 tyX0_ok nmX0 hown G 0 rfl rfl 4 (by decide) (hts (.fieldLink RX0 96 "SkewMelds" "steps" "I") (by decide +kernel)) rfl rfl (by decide +kernel) rfl rfl (Nat.le_of_ble_eq_true rfl) (xw h0 r0 cA (x_sS σ (σ.2.2.2.2.1 + 1))) rfl dX0_read_22 (fun H locs G => ?_)
      refine lv_aload_n hx hb dX0_read_25 rfl (lv_at hl 0 rfl) ?_
      refine g_get (C := RX0) (T := TX0) (N := 6) (ci := 0) (v := .ref r0) hx hb hts hin hown G 0 rfl rfl 0 (by decide) (hts (.fieldLink RX0 13 "SkewMelds" "row" "[I") (by decide +kernel)) rfl rfl dX0_read_26 ?_
      refine lv_iload_n hx hb dX0_read_29 rfl (lv_at hl 1 rfl) ?_
      refine g_ild hx hb G 1 0 rfl rfl (x_inb c_1 c_2) dX0_read_30 ?_
      exact g_iret (u := (x_sS σ (σ.2.2.2.2.1 + 1))) E G (by (simp only [x_read, c_1, c_2, ↓reduceIte]) <;> rfl) dX0_read_31
    · refine lv_iconst (v := (-1)) hx hb dX0_read_13 (by decide) ?_
      exact g_iret (u := σ) E G (by (simp only [x_read, c_1, c_2, ↓reduceIte]) <;> rfl) dX0_read_14

set_option maxHeartbeats 4000000 in
set_option maxRecDepth 100000 in
theorem kX0_write (l : Launch) (D : va_G) (h0 r0 : Nat) (cA : ClassId) (σ : Sx) (a0 : Int32) (a1 : Int32) : gMv l yX0_write wsX0_write ({ frames := 0, cells := 0, slots := 0, locals := 0 }) D vwCl [(cA, .int)] [.ref h0, .int a0, .int a1] (xw h0 r0 cA) σ (fun σ' => x_write σ a0 a1 = σ') := by
  refine gMv_of (cc := cX0_write) (maxL := 3) (ret := none) (by decide) rfl (Nat.le_of_ble_eq_true rfl) ?_
  intro p e s m below meth c A ls E G hl
  obtain ⟨hx, hb, hml, hr, hlocks, hown, hts, -, -⟩ := id E
  have hin : ∀ w ∈ wsX00, w ∈ wsX0_write := fun w h => List.mem_cons_of_mem _ (List.mem_append_right _ h)
  have hl : lv_has ls 3 [(0, .ref h0), (1, .int a0), (2, .int a1)] := hl
  refine lv_iload_n hx hb dX0_write_0 rfl (lv_at hl 1 rfl) ?_
  refine lv_if_lt (tgt := 13) hx hb dX0_write_1 (by decide) (fun c_1 => ?_) (fun c_1 => ?_)
  · exact g_vret (u := σ) E G (by (simp only [x_write, c_1, ↓reduceIte]) <;> rfl) dX0_write_13
  · refine lv_iload_n hx hb dX0_write_4 rfl (lv_at hl 1 rfl) ?_
    refine lv_aload_n hx hb dX0_write_5 rfl (lv_at hl 0 rfl) ?_
    refine g_get (C := RX0) (T := TX0) (N := 6) (ci := 0) (v := .ref r0) hx hb hts hin hown G 0 rfl rfl 0 (by decide) (hts (.fieldLink RX0 13 "SkewMelds" "row" "[I") (by decide +kernel)) rfl rfl dX0_write_6 ?_
    refine g_alen (v := 1080) hx hb G 1 0 rfl rfl rfl dX0_write_9 ?_
    refine lv_icmp_lt (tgt := 14) hx hb dX0_write_10 (by decide) (fun c_2 => ?_) (fun c_2 => ?_)
    · refine lv_aload_n hx hb dX0_write_14 rfl (lv_at hl 0 rfl) ?_
      refine lv_dup hx hb dX0_write_15 rfl ?_
      refine g_get (C := RX0) (T := TX0) (N := 6) (ci := 0) (v := .int σ.2.2.2.2.1) hx hb hts hin hown G 0 rfl rfl 4 (by decide) (hts (.fieldLink RX0 96 "SkewMelds" "steps" "I") (by decide +kernel)) rfl rfl dX0_write_16 ?_
      refine lv_iconst (v := 1) hx hb dX0_write_19 (by decide) ?_
      refine lv_iadd hx hb dX0_write_20 ?_
      refine g_put (C := RX0) (T := TX0) (N := 6) (ci := 0) (v := .int (σ.2.2.2.2.1 + 1)) (ty := .int) hx hb hts hin tyX0 tyX0_ok nmX0 hown G 0 rfl rfl 4 (by decide) (hts (.fieldLink RX0 96 "SkewMelds" "steps" "I") (by decide +kernel)) rfl rfl (by decide +kernel) rfl rfl (Nat.le_of_ble_eq_true rfl) (xw h0 r0 cA (x_sS σ (σ.2.2.2.2.1 + 1))) rfl dX0_write_21 (fun H locs G => ?_)
      refine lv_aload_n hx hb dX0_write_24 rfl (lv_at hl 0 rfl) ?_
      refine g_get (C := RX0) (T := TX0) (N := 6) (ci := 0) (v := .ref r0) hx hb hts hin hown G 0 rfl rfl 0 (by decide) (hts (.fieldLink RX0 13 "SkewMelds" "row" "[I") (by decide +kernel)) rfl rfl dX0_write_25 ?_
      refine lv_iload_n hx hb dX0_write_28 rfl (lv_at hl 1 rfl) ?_
      refine lv_iload_n hx hb dX0_write_29 rfl (lv_at hl 2 rfl) ?_
      refine g_ist hx hb G 1 0 rfl rfl (x_inb c_1 c_2) (xw h0 r0 cA (x_sR (x_sS σ (σ.2.2.2.2.1 + 1)) (upd (x_sS σ (σ.2.2.2.2.1 + 1)).1 a0.toNatClampNeg a1))) rfl dX0_write_30 (fun H locs G => ?_)
      exact g_vret (u := (x_sR (x_sS σ (σ.2.2.2.2.1 + 1)) (upd (x_sS σ (σ.2.2.2.2.1 + 1)).1 a0.toNatClampNeg a1))) E G (by (simp only [x_write, c_1, c_2, ↓reduceIte]) <;> rfl) dX0_write_31
    · exact g_vret (u := σ) E G (by (simp only [x_write, c_1, c_2, ↓reduceIte]) <;> rfl) dX0_write_13

set_option maxHeartbeats 4000000 in
set_option maxRecDepth 100000 in
theorem kX0_begin (l : Launch) (D : va_G) (h0 r0 : Nat) (cA : ClassId) (σ : Sx) (a0 : Int32) : gMv l yX0_begin wsX0_begin ({ frames := 0, cells := 0, slots := 0, locals := 0 }) D vwCl [(cA, .int)] [.ref h0, .int a0] (xw h0 r0 cA) σ (fun σ' => x_begin σ a0 = σ') := by
  refine gMv_of (cc := cX0_begin) (maxL := 2) (ret := none) (by decide) rfl (Nat.le_of_ble_eq_true rfl) ?_
  intro p e s m below meth c A ls E G hl
  obtain ⟨hx, hb, hml, hr, hlocks, hown, hts, -, -⟩ := id E
  have hin : ∀ w ∈ wsX00, w ∈ wsX0_begin := fun w h => List.mem_cons_of_mem _ (List.mem_append_right _ h)
  have hl : lv_has ls 2 [(0, .ref h0), (1, .int a0)] := hl
  refine lv_aload_n hx hb dX0_begin_0 rfl (lv_at hl 0 rfl) ?_
  refine lv_iconst (v := 0) hx hb dX0_begin_1 (by decide) ?_
  refine g_put (C := RX0) (T := TX0) (N := 6) (ci := 0) (v := .int 0) (ty := .int) hx hb hts hin tyX0 tyX0_ok nmX0 hown G 0 rfl rfl 4 (by decide) (hts (.fieldLink RX0 96 "SkewMelds" "steps" "I") (by decide +kernel)) rfl rfl (by decide +kernel) rfl rfl (Nat.le_of_ble_eq_true rfl) (xw h0 r0 cA (x_sS σ 0)) rfl dX0_begin_2 (fun H locs G => ?_)
  refine lv_aload_n hx hb dX0_begin_5 rfl (lv_at hl 0 rfl) ?_
  refine lv_iload_n hx hb dX0_begin_6 rfl (lv_at hl 1 rfl) ?_
  refine g_put (C := RX0) (T := TX0) (N := 6) (ci := 0) (v := .int a0) (ty := .int) hx hb hts hin tyX0 tyX0_ok nmX0 hown G 0 rfl rfl 5 (by decide) (hts (.fieldLink RX0 99 "SkewMelds" "limit" "I") (by decide +kernel)) rfl rfl (by decide +kernel) rfl rfl (Nat.le_of_ble_eq_true rfl) (xw h0 r0 cA (x_sL (x_sS σ 0) a0)) rfl dX0_begin_7 (fun H locs G => ?_)
  exact g_vret (u := (x_sL (x_sS σ 0) a0)) E G (by (simp only [x_begin, ↓reduceIte]) <;> rfl) dX0_begin_10

set_option maxHeartbeats 4000000 in
set_option maxRecDepth 100000 in
theorem kX0_exists (l : Launch) (D : va_G) (h0 r0 : Nat) (cA : ClassId) (σ : Sx) (a0 : Int32) : gMi l yX0_exists wsX0_exists ({ frames := 0, cells := 0, slots := 0, locals := 0 }) D vwCl [(cA, .int)] [.ref h0, .int a0] (xw h0 r0 cA) σ (fun r σ' => x_ex σ a0 = r ∧ σ = σ') := by
  refine gMi_of (cc := cX0_exists) (maxL := 2) (ret := (some .boolean)) (by decide) rfl (Nat.le_of_ble_eq_true rfl) ?_
  intro p e s m below meth c A ls E G hl
  obtain ⟨hx, hb, hml, hr, hlocks, hown, hts, -, -⟩ := id E
  have hin : ∀ w ∈ wsX00, w ∈ wsX0_exists := fun w h => List.mem_cons_of_mem _ (List.mem_append_right _ h)
  have hl : lv_has ls 2 [(0, .ref h0), (1, .int a0)] := hl
  refine lv_iload_n hx hb dX0_exists_0 rfl (lv_at hl 1 rfl) ?_
  refine lv_if_lt (tgt := 16) hx hb dX0_exists_1 (by decide) (fun c_1 => ?_) (fun c_1 => ?_)
  · refine lv_iconst (v := 0) hx hb dX0_exists_16 (by decide) ?_
    exact g_zret (u := σ) E G (by decide) (⟨by (simp only [x_ex, c_1, ↓reduceIte]) <;> rfl, rfl⟩) dX0_exists_17
  · refine lv_iload_n hx hb dX0_exists_4 rfl (lv_at hl 1 rfl) ?_
    refine lv_aload_n hx hb dX0_exists_5 rfl (lv_at hl 0 rfl) ?_
    refine g_get (C := RX0) (T := TX0) (N := 6) (ci := 0) (v := .int σ.2.1) hx hb hts hin hown G 0 rfl rfl 1 (by decide) (hts (.fieldLink RX0 33 "SkewMelds" "heaps" "I") (by decide +kernel)) rfl rfl dX0_exists_6 ?_
    refine lv_icmp_ge (tgt := 16) hx hb dX0_exists_9 (by decide) (fun c_2 => ?_) (fun c_2 => ?_)
    · refine lv_iconst (v := 0) hx hb dX0_exists_16 (by decide) ?_
      exact g_zret (u := σ) E G (by decide) (⟨by (simp only [x_ex, c_1, c_2, ↓reduceIte]) <;> rfl, rfl⟩) dX0_exists_17
    · refine lv_iconst (v := 1) hx hb dX0_exists_12 (by decide) ?_
      refine lv_goto (tgt := 17) hx hb dX0_exists_13 (by decide) ?_
      exact g_zret (u := σ) E G (by decide) (⟨by (simp only [x_ex, c_1, c_2, ↓reduceIte]) <;> rfl, rfl⟩) dX0_exists_17

set_option maxHeartbeats 4000000 in
set_option maxRecDepth 100000 in
theorem kX0_keysIn (l : Launch) (D : va_G) (h0 r0 : Nat) (cA : ClassId) (σ : Sx) (a0 : Int32) : gMi l yX0_keysIn wsX0_keysIn ({ frames := 1, cells := 0, slots := 0, locals := 21 }) D vwCl [(cA, .int)] [.ref h0, .int a0] (xw h0 r0 cA) σ (fun r σ' => x_keysIn σ a0 = (r, σ')) := by
  refine gMi_of (cc := cX0_keysIn) (maxL := 2) (ret := (some .int)) (by decide) rfl (Nat.le_of_ble_eq_true rfl) ?_
  intro p e s m below meth c A ls E G hl
  obtain ⟨hx, hb, hml, hr, hlocks, hown, hts, -, -⟩ := id E
  have hin : ∀ w ∈ wsX00, w ∈ wsX0_keysIn := fun w h => List.mem_cons_of_mem _ (List.mem_append_right _ h)
  have hl : lv_has ls 2 [(0, .ref h0), (1, .int a0)] := hl
  refine lv_aload_n hx hb dX0_keysIn_0 rfl (lv_at hl 0 rfl) ?_
  refine lv_iload_n hx hb dX0_keysIn_1 rfl (lv_at hl 1 rfl) ?_
  refine x_calli (As := [.int a0]) (rest := []) ⟨hx, hb, hml, hown, hts⟩ (kX0_exists l D h0 r0 cA σ a0) (cwV 1 hts gX0_keysIn_X0_exists rfl rfl rfl (by decide +kernel) ⟨Nat.le_of_ble_eq_true rfl, Nat.le_of_ble_eq_true rfl⟩) G rfl hl.1 rfl (Nat.le_of_ble_eq_true rfl) dX0_keysIn_2 ⟨Nat.zero_le _, Nat.zero_le _⟩ (fun r_1 σ_2 H locs e_3 G => ?_)
  obtain ⟨rfl, rfl⟩ := e_3
  refine lv_if_eq (tgt := 20) hx hb dX0_keysIn_5 (by decide) (fun c_4 => ?_) (fun c_4 => ?_)
  · refine lv_iconst (v := 0) hx hb dX0_keysIn_20 (by decide) ?_
    exact g_iret (u := σ) E G (by (simp only [x_keysIn, c_4, ↓reduceIte]) <;> rfl) dX0_keysIn_21
  · refine lv_aload_n hx hb dX0_keysIn_8 rfl (lv_at hl 0 rfl) ?_
    refine lv_sipush (v := 1072) hx hb dX0_keysIn_9 (by decide) ?_
    refine lv_iload_n hx hb dX0_keysIn_12 rfl (lv_at hl 1 rfl) ?_
    refine lv_iadd hx hb dX0_keysIn_13 ?_
    refine x_calli (As := [.int (1072 + a0)]) (rest := []) ⟨hx, hb, hml, hown, hts⟩ (kX0_read l D h0 r0 cA σ (1072 + a0)) (cwV 1 hts gX0_keysIn_X0_read rfl rfl rfl (by decide +kernel) ⟨Nat.le_of_ble_eq_true rfl, Nat.le_of_ble_eq_true rfl⟩) G rfl hl.1 rfl (Nat.le_of_ble_eq_true rfl) dX0_keysIn_14 ⟨Nat.zero_le _, Nat.zero_le _⟩ (fun r_5 σ_6 H locs e_7 G => ?_)
    refine lv_goto (tgt := 21) hx hb dX0_keysIn_17 (by decide) ?_
    exact g_iret (u := σ_6) E G (by (simp only [x_keysIn, c_4, e_7, ↓reduceIte]) <;> rfl) dX0_keysIn_21

set_option maxHeartbeats 4000000 in
set_option maxRecDepth 100000 in
theorem kX0_resize (l : Launch) (D : va_G) (h0 r0 : Nat) (cA : ClassId) (σ : Sx) (a0 : Int32) (a1 : Int32) : gMi l yX0_resize wsX0_resize ({ frames := 1, cells := 0, slots := 0, locals := 22 }) D vwCl [(cA, .int)] [.ref h0, .int a0, .int a1] (xw h0 r0 cA) σ (fun r σ' => x_resize σ a0 a1 = (r, σ')) := by
  refine gMi_of (cc := cX0_resize) (maxL := 3) (ret := (some .int)) (by decide) rfl (Nat.le_of_ble_eq_true rfl) ?_
  intro p e s m below meth c A ls E G hl
  obtain ⟨hx, hb, hml, hr, hlocks, hown, hts, -, -⟩ := id E
  have hin : ∀ w ∈ wsX00, w ∈ wsX0_resize := fun w h => List.mem_cons_of_mem _ (List.mem_append_right _ h)
  have hl : lv_has ls 3 [(0, .ref h0), (1, .int a0), (2, .int a1)] := hl
  refine lv_aload_n hx hb dX0_resize_0 rfl (lv_at hl 0 rfl) ?_
  refine lv_sipush (v := 1072) hx hb dX0_resize_1 (by decide) ?_
  refine lv_iload_n hx hb dX0_resize_4 rfl (lv_at hl 1 rfl) ?_
  refine lv_iadd hx hb dX0_resize_5 ?_
  refine lv_iload_n hx hb dX0_resize_6 rfl (lv_at hl 2 rfl) ?_
  refine x_callv (As := [.int (1072 + a0), .int a1]) (rest := []) ⟨hx, hb, hml, hown, hts⟩ (kX0_write l D h0 r0 cA σ (1072 + a0) a1) (cwV 2 hts gX0_resize_X0_write rfl rfl rfl (by decide +kernel) ⟨Nat.le_of_ble_eq_true rfl, Nat.le_of_ble_eq_true rfl⟩) G rfl hl.1 rfl (Nat.le_of_ble_eq_true rfl) dX0_resize_7 ⟨Nat.zero_le _, Nat.zero_le _⟩ (fun σ_2 H locs e_3 G => ?_)
  refine lv_iload_n hx hb dX0_resize_10 rfl (lv_at hl 2 rfl) ?_
  exact g_iret (u := σ_2) E G (by (simp only [x_resize, e_3, ↓reduceIte]) <;> rfl) dX0_resize_11

set_option maxHeartbeats 4000000 in
set_option maxRecDepth 100000 in
theorem kX0_newCell (l : Launch) (D : va_G) (h0 r0 : Nat) (cA : ClassId) (σ : Sx) (a0 : Int32) : gMi l yX0_newCell wsX0_newCell ({ frames := 1, cells := 0, slots := 0, locals := 22 }) D vwCl [(cA, .int)] [.ref h0, .int a0] (xw h0 r0 cA) σ (fun r σ' => x_newCell σ a0 = (r, σ')) := by
  refine gMi_of (cc := cX0_newCell) (maxL := 3) (ret := (some .int)) (by decide) rfl (Nat.le_of_ble_eq_true rfl) ?_
  intro p e s m below meth c A ls E G hl
  obtain ⟨hx, hb, hml, hr, hlocks, hown, hts, -, -⟩ := id E
  have hin : ∀ w ∈ wsX00, w ∈ wsX0_newCell := fun w h => List.mem_cons_of_mem _ (List.mem_append_right _ h)
  have hl : lv_has ls 3 [(0, .ref h0), (1, .int a0)] := hl
  refine lv_aload_n hx hb dX0_newCell_0 rfl (lv_at hl 0 rfl) ?_
  refine g_get (C := RX0) (T := TX0) (N := 6) (ci := 0) (v := .int σ.2.2.2.1) hx hb hts hin hown G 0 rfl rfl 3 (by decide) (hts (.fieldLink RX0 21 "SkewMelds" "firstUnused" "I") (by decide +kernel)) rfl rfl dX0_newCell_1 ?_
  refine lv_istore_n (lv' := [(2, .int σ.2.2.2.1), (0, .ref h0), (1, .int a0)]) hx hb dX0_newCell_4 rfl hl (by decide) rfl (fun ls hl => ?_)
  refine lv_aload_n hx hb dX0_newCell_5 rfl (lv_at hl 1 rfl) ?_
  refine lv_aload_n hx hb dX0_newCell_6 rfl (lv_at hl 1 rfl) ?_
  refine lv_sipush (v := 600) hx hb dX0_newCell_7 (by decide) ?_
  refine lv_iload_n hx hb dX0_newCell_10 rfl (lv_at hl 0 rfl) ?_
  refine lv_iadd hx hb dX0_newCell_11 ?_
  refine x_calli (As := [.int (600 + σ.2.2.2.1)]) (rest := [.ref h0]) ⟨hx, hb, hml, hown, hts⟩ (kX0_read l D h0 r0 cA σ (600 + σ.2.2.2.1)) (cwV 1 hts gX0_newCell_X0_read rfl rfl rfl (by decide +kernel) ⟨Nat.le_of_ble_eq_true rfl, Nat.le_of_ble_eq_true rfl⟩) G rfl hl.1 rfl (Nat.le_of_ble_eq_true rfl) dX0_newCell_12 ⟨Nat.zero_le _, Nat.zero_le _⟩ (fun r_1 σ_2 H locs e_3 G => ?_)
  refine g_put (C := RX0) (T := TX0) (N := 6) (ci := 0) (v := .int r_1) (ty := .int) hx hb hts hin tyX0 tyX0_ok nmX0 hown G 0 rfl rfl 3 (by decide) (hts (.fieldLink RX0 21 "SkewMelds" "firstUnused" "I") (by decide +kernel)) rfl rfl (by decide +kernel) rfl rfl (Nat.le_of_ble_eq_true rfl) (xw h0 r0 cA (x_sF σ_2 r_1)) rfl dX0_newCell_15 (fun H locs G => ?_)
  refine lv_aload_n hx hb dX0_newCell_18 rfl (lv_at hl 1 rfl) ?_
  refine lv_dup hx hb dX0_newCell_19 rfl ?_
  refine g_get (C := RX0) (T := TX0) (N := 6) (ci := 0) (v := .int (x_sF σ_2 r_1).2.2.1) hx hb hts hin hown G 0 rfl rfl 2 (by decide) (hts (.fieldLink RX0 93 "SkewMelds" "unused" "I") (by decide +kernel)) rfl rfl dX0_newCell_20 ?_
  refine lv_iconst (v := 1) hx hb dX0_newCell_23 (by decide) ?_
  refine lv_isub hx hb dX0_newCell_24 ?_
  refine g_put (C := RX0) (T := TX0) (N := 6) (ci := 0) (v := .int ((x_sF σ_2 r_1).2.2.1 - 1)) (ty := .int) hx hb hts hin tyX0 tyX0_ok nmX0 hown G 0 rfl rfl 2 (by decide) (hts (.fieldLink RX0 93 "SkewMelds" "unused" "I") (by decide +kernel)) rfl rfl (by decide +kernel) rfl rfl (Nat.le_of_ble_eq_true rfl) (xw h0 r0 cA (x_sU (x_sF σ_2 r_1) ((x_sF σ_2 r_1).2.2.1 - 1))) rfl dX0_newCell_25 (fun H locs G => ?_)
  refine lv_aload_n hx hb dX0_newCell_28 rfl (lv_at hl 1 rfl) ?_
  refine lv_iconst (v := 0) hx hb dX0_newCell_29 (by decide) ?_
  refine lv_iload_n hx hb dX0_newCell_30 rfl (lv_at hl 0 rfl) ?_
  refine lv_iadd hx hb dX0_newCell_31 ?_
  refine lv_iload_n hx hb dX0_newCell_32 rfl (lv_at hl 2 rfl) ?_
  refine x_callv (As := [.int (0 + σ.2.2.2.1), .int a0]) (rest := []) ⟨hx, hb, hml, hown, hts⟩ (kX0_write l D h0 r0 cA (x_sU (x_sF σ_2 r_1) ((x_sF σ_2 r_1).2.2.1 - 1)) (0 + σ.2.2.2.1) a0) (cwV 2 hts gX0_newCell_X0_write rfl rfl rfl (by decide +kernel) ⟨Nat.le_of_ble_eq_true rfl, Nat.le_of_ble_eq_true rfl⟩) G rfl hl.1 rfl (Nat.le_of_ble_eq_true rfl) dX0_newCell_33 ⟨Nat.zero_le _, Nat.zero_le _⟩ (fun σ_5 H locs e_6 G => ?_)
  refine lv_aload_n hx hb dX0_newCell_36 rfl (lv_at hl 1 rfl) ?_
  refine lv_sipush (v := 200) hx hb dX0_newCell_37 (by decide) ?_
  refine lv_iload_n hx hb dX0_newCell_40 rfl (lv_at hl 0 rfl) ?_
  refine lv_iadd hx hb dX0_newCell_41 ?_
  refine lv_iconst (v := 0) hx hb dX0_newCell_42 (by decide) ?_
  refine x_callv (As := [.int (200 + σ.2.2.2.1), .int 0]) (rest := []) ⟨hx, hb, hml, hown, hts⟩ (kX0_write l D h0 r0 cA σ_5 (200 + σ.2.2.2.1) 0) (cwV 2 hts gX0_newCell_X0_write rfl rfl rfl (by decide +kernel) ⟨Nat.le_of_ble_eq_true rfl, Nat.le_of_ble_eq_true rfl⟩) G rfl hl.1 rfl (Nat.le_of_ble_eq_true rfl) dX0_newCell_43 ⟨Nat.zero_le _, Nat.zero_le _⟩ (fun σ_8 H locs e_9 G => ?_)
  refine lv_aload_n hx hb dX0_newCell_46 rfl (lv_at hl 1 rfl) ?_
  refine lv_sipush (v := 400) hx hb dX0_newCell_47 (by decide) ?_
  refine lv_iload_n hx hb dX0_newCell_50 rfl (lv_at hl 0 rfl) ?_
  refine lv_iadd hx hb dX0_newCell_51 ?_
  refine lv_iconst (v := (-1)) hx hb dX0_newCell_52 (by decide) ?_
  refine x_callv (As := [.int (400 + σ.2.2.2.1), .int (-1)]) (rest := []) ⟨hx, hb, hml, hown, hts⟩ (kX0_write l D h0 r0 cA σ_8 (400 + σ.2.2.2.1) (-1)) (cwV 2 hts gX0_newCell_X0_write rfl rfl rfl (by decide +kernel) ⟨Nat.le_of_ble_eq_true rfl, Nat.le_of_ble_eq_true rfl⟩) G rfl hl.1 rfl (Nat.le_of_ble_eq_true rfl) dX0_newCell_53 ⟨Nat.zero_le _, Nat.zero_le _⟩ (fun σ_11 H locs e_12 G => ?_)
  refine lv_iload_n hx hb dX0_newCell_56 rfl (lv_at hl 0 rfl) ?_
  exact g_iret (u := σ_11) E G (by (simp only [x_newCell, e_3, e_6, e_9, e_12, ↓reduceIte]) <;> rfl) dX0_newCell_57

set_option maxHeartbeats 4000000 in
set_option maxRecDepth 100000 in
theorem kX0_giveBack (l : Launch) (D : va_G) (h0 r0 : Nat) (cA : ClassId) (σ : Sx) (a0 : Int32) : gMv l yX0_giveBack wsX0_giveBack ({ frames := 1, cells := 0, slots := 0, locals := 22 }) D vwCl [(cA, .int)] [.ref h0, .int a0] (xw h0 r0 cA) σ (fun σ' => x_giveBack σ a0 = σ') := by
  refine gMv_of (cc := cX0_giveBack) (maxL := 2) (ret := none) (by decide) rfl (Nat.le_of_ble_eq_true rfl) ?_
  intro p e s m below meth c A ls E G hl
  obtain ⟨hx, hb, hml, hr, hlocks, hown, hts, -, -⟩ := id E
  have hin : ∀ w ∈ wsX00, w ∈ wsX0_giveBack := fun w h => List.mem_cons_of_mem _ (List.mem_append_right _ h)
  have hl : lv_has ls 2 [(0, .ref h0), (1, .int a0)] := hl
  refine lv_aload_n hx hb dX0_giveBack_0 rfl (lv_at hl 0 rfl) ?_
  refine lv_sipush (v := 600) hx hb dX0_giveBack_1 (by decide) ?_
  refine lv_iload_n hx hb dX0_giveBack_4 rfl (lv_at hl 1 rfl) ?_
  refine lv_iadd hx hb dX0_giveBack_5 ?_
  refine lv_aload_n hx hb dX0_giveBack_6 rfl (lv_at hl 0 rfl) ?_
  refine g_get (C := RX0) (T := TX0) (N := 6) (ci := 0) (v := .int σ.2.2.2.1) hx hb hts hin hown G 0 rfl rfl 3 (by decide) (hts (.fieldLink RX0 21 "SkewMelds" "firstUnused" "I") (by decide +kernel)) rfl rfl dX0_giveBack_7 ?_
  refine x_callv (As := [.int (600 + a0), .int σ.2.2.2.1]) (rest := []) ⟨hx, hb, hml, hown, hts⟩ (kX0_write l D h0 r0 cA σ (600 + a0) σ.2.2.2.1) (cwV 2 hts gX0_giveBack_X0_write rfl rfl rfl (by decide +kernel) ⟨Nat.le_of_ble_eq_true rfl, Nat.le_of_ble_eq_true rfl⟩) G rfl hl.1 rfl (Nat.le_of_ble_eq_true rfl) dX0_giveBack_10 ⟨Nat.zero_le _, Nat.zero_le _⟩ (fun σ_2 H locs e_3 G => ?_)
  refine lv_aload_n hx hb dX0_giveBack_13 rfl (lv_at hl 0 rfl) ?_
  refine lv_iload_n hx hb dX0_giveBack_14 rfl (lv_at hl 1 rfl) ?_
  refine g_put (C := RX0) (T := TX0) (N := 6) (ci := 0) (v := .int a0) (ty := .int) hx hb hts hin tyX0 tyX0_ok nmX0 hown G 0 rfl rfl 3 (by decide) (hts (.fieldLink RX0 21 "SkewMelds" "firstUnused" "I") (by decide +kernel)) rfl rfl (by decide +kernel) rfl rfl (Nat.le_of_ble_eq_true rfl) (xw h0 r0 cA (x_sF σ_2 a0)) rfl dX0_giveBack_15 (fun H locs G => ?_)
  refine lv_aload_n hx hb dX0_giveBack_18 rfl (lv_at hl 0 rfl) ?_
  refine lv_dup hx hb dX0_giveBack_19 rfl ?_
  refine g_get (C := RX0) (T := TX0) (N := 6) (ci := 0) (v := .int (x_sF σ_2 a0).2.2.1) hx hb hts hin hown G 0 rfl rfl 2 (by decide) (hts (.fieldLink RX0 93 "SkewMelds" "unused" "I") (by decide +kernel)) rfl rfl dX0_giveBack_20 ?_
  refine lv_iconst (v := 1) hx hb dX0_giveBack_23 (by decide) ?_
  refine lv_iadd hx hb dX0_giveBack_24 ?_
  refine g_put (C := RX0) (T := TX0) (N := 6) (ci := 0) (v := .int ((x_sF σ_2 a0).2.2.1 + 1)) (ty := .int) hx hb hts hin tyX0 tyX0_ok nmX0 hown G 0 rfl rfl 2 (by decide) (hts (.fieldLink RX0 93 "SkewMelds" "unused" "I") (by decide +kernel)) rfl rfl (by decide +kernel) rfl rfl (Nat.le_of_ble_eq_true rfl) (xw h0 r0 cA (x_sU (x_sF σ_2 a0) ((x_sF σ_2 a0).2.2.1 + 1))) rfl dX0_giveBack_25 (fun H locs G => ?_)
  exact g_vret (u := (x_sU (x_sF σ_2 a0) ((x_sF σ_2 a0).2.2.1 + 1))) E G (by (simp only [x_giveBack, e_3, ↓reduceIte]) <;> rfl) dX0_giveBack_28

set_option maxHeartbeats 4000000 in
set_option maxRecDepth 100000 in
theorem kX0_topAt (l : Launch) (a0 : Int32) (a1 : Int32) : gMs l yX0_topAt wsX0_topAt ({ frames := 0, cells := 0, slots := 0, locals := 0 }) [.int a0, .int a1] (fun r => r = x_topAt a0 a1) := by
  intro D cl
  refine gMi_of (cc := cX0_topAt) (maxL := 2) (ret := (some .int)) (by decide) rfl (Nat.le_of_ble_eq_true rfl) ?_
  intro p e s m below meth c A ls E G hl
  obtain ⟨hx, hb, hml, hr, hlocks, hown, hts, -, -⟩ := id E
  have hl : lv_has ls 2 [(0, .int a0), (1, .int a1)] := hl
  refine lv_sipush (v := 1000) hx hb dX0_topAt_0 (by decide) ?_
  refine lv_iload_n hx hb dX0_topAt_3 rfl (lv_at hl 0 rfl) ?_
  refine lv_bipush (v := 8) hx hb dX0_topAt_4 (by decide) ?_
  refine lv_imul hx hb dX0_topAt_6 ?_
  refine lv_iadd hx hb dX0_topAt_7 ?_
  refine lv_iload_n hx hb dX0_topAt_8 rfl (lv_at hl 1 rfl) ?_
  refine lv_iadd hx hb dX0_topAt_9 ?_
  exact g_iret (u := ()) E G (by (simp only [x_topAt, ↓reduceIte]) <;> rfl) dX0_topAt_10

set_option maxHeartbeats 4000000 in
set_option maxRecDepth 100000 in
theorem kX0_limitFor (l : Launch) (a0 : Int32) : gMs l yX0_limitFor wsX0_limitFor ({ frames := 0, cells := 0, slots := 0, locals := 0 }) [.int a0] (fun r => r = x_limFor a0) := by
  intro D cl
  refine gMi_of (cc := cX0_limitFor) (maxL := 2) (ret := (some .int)) (by decide) rfl (Nat.le_of_ble_eq_true rfl) ?_
  intro p e s m below meth c A ls E G hl
  obtain ⟨hx, hb, hml, hr, hlocks, hown, hts, -, -⟩ := id E
  have hl : lv_has ls 2 [(0, .int a0)] := hl
  have loop : ∀ (n : Nat) (k : Int32) (ls : Array Slot), ((30 : Int32).toInt - k.toInt).toNat < n → x_pow a0 n k = x_pow a0 31 0 → lv_has ls 2 [(0, .int a0), (1, .int k)] → W p l e ({ frames := 0, cells := 0, slots := 0, locals := 0 }) s m [.int a0].toArray below meth c s.heap [] 0 0 (MQ below (va_Qi (fun r _ => r = x_limFor a0) (gB D cl [] A (fun _ : Unit => [])) A) [.int a0].toArray s 0 0 A) (F0 m 2 ls []) := by
    intro n
    induction n with
    | zero => intro k ls hm; exact absurd hm (Nat.not_lt_zero _)
    | succ n ih =>
      intro k ls hm hinv hl
      refine lv_iload_n hx hb dX0_limitFor_2 rfl (lv_at hl 1 rfl) ?_
      refine lv_bipush (v := 30) hx hb dX0_limitFor_3 (by decide) ?_
      refine lv_icmp_ge (tgt := 23) hx hb dX0_limitFor_5 (by decide) (fun c_1 => ?_) (fun c_1 => ?_)
      · refine lv_sipush (v := 200) hx hb dX0_limitFor_23 (by decide) ?_
        refine lv_iconst (v := 2) hx hb dX0_limitFor_26 (by decide) ?_
        refine lv_iload_n hx hb dX0_limitFor_27 rfl (lv_at hl 1 rfl) ?_
        refine lv_iadd hx hb dX0_limitFor_28 ?_
        refine lv_imul hx hb dX0_limitFor_29 ?_
        exact g_iret (u := ()) E G (by rw [x_limFor, ← hinv]; (simp only [x_pow, c_1, ↓reduceIte]) <;> rfl) dX0_limitFor_30
      · refine lv_iconst (v := 2) hx hb dX0_limitFor_8 (by decide) ?_
        refine lv_iload_n hx hb dX0_limitFor_9 rfl (lv_at hl 1 rfl) ?_
        refine lv_ishl hx hb dX0_limitFor_10 ?_
        refine lv_iload_n hx hb dX0_limitFor_11 rfl (lv_at hl 0 rfl) ?_
        refine lv_iconst (v := 1) hx hb dX0_limitFor_12 (by decide) ?_
        refine lv_iadd hx hb dX0_limitFor_13 ?_
        refine lv_icmp_gt (tgt := 23) hx hb dX0_limitFor_14 (by decide) (fun c_2 => ?_) (fun c_2 => ?_)
        · refine lv_sipush (v := 200) hx hb dX0_limitFor_23 (by decide) ?_
          refine lv_iconst (v := 2) hx hb dX0_limitFor_26 (by decide) ?_
          refine lv_iload_n hx hb dX0_limitFor_27 rfl (lv_at hl 1 rfl) ?_
          refine lv_iadd hx hb dX0_limitFor_28 ?_
          refine lv_imul hx hb dX0_limitFor_29 ?_
          exact g_iret (u := ()) E G (by rw [x_limFor, ← hinv]; (simp only [x_pow, c_1, c_2, ↓reduceIte]) <;> rfl) dX0_limitFor_30
        · obtain ⟨v_3, ev_3⟩ : ∃ y : Int32, y = k + 1 := ⟨_, rfl⟩
          refine lv_iinc (v := v_3) (lv' := [(1, .int v_3), (0, .int a0)]) hx hb dX0_limitFor_17 hl (k := 1) rfl (by rw [ev_3]; rfl) (by decide) rfl (fun ls hl => ?_)
          refine lv_goto (tgt := 2) hx hb dX0_limitFor_20 (by decide) ?_
          exact ih v_3 _ (by subst ev_3; exact Nat.lt_of_lt_of_le (x_meas c_1) (Nat.le_of_lt_succ hm)) (by subst ev_3; rw [← hinv]; (simp only [x_pow, c_1, c_2, ↓reduceIte]) <;> rfl) (lv_sub hl [1, 0] rfl)
  refine lv_iconst (v := 0) hx hb dX0_limitFor_0 (by decide) ?_
  refine lv_istore_n (lv' := [(1, .int 0), (0, .int a0)]) hx hb dX0_limitFor_1 rfl hl (by decide) rfl (fun ls hl => ?_)
  exact loop (31) 0 _ (by decide) (by (simp only [x_limFor, ↓reduceIte]) <;> rfl) (lv_sub hl [1, 0] rfl)
end
section
set_option maxHeartbeats 4000000 in
set_option maxRecDepth 100000 in
theorem kX0_cutTop (l : Launch) (D : va_G) (h0 r0 : Nat) (cA : ClassId) (σ : Sx) (a0 : Int32) (a1 : Int32) : gMi l yX0_cutTop wsX0_cutTop ({ frames := 1, cells := 0, slots := 0, locals := 22 }) D vwCl [(cA, .int)] [.ref h0, .int a0, .int a1] (xw h0 r0 cA) σ (fun r σ' => x_cutTop σ a0 a1 = (r, σ')) := by
  refine gMi_of (cc := cX0_cutTop) (maxL := 4) (ret := (some .int)) (by decide) rfl (Nat.le_of_ble_eq_true rfl) ?_
  intro p e s m below meth c A ls E G hl
  obtain ⟨hx, hb, hml, hr, hlocks, hown, hts, -, -⟩ := id E
  have hin : ∀ w ∈ wsX00, w ∈ wsX0_cutTop := fun w h => List.mem_cons_of_mem _ (List.mem_append_right _ h)
  have hl : lv_has ls 4 [(0, .ref h0), (1, .int a0), (2, .int a1)] := hl
  refine lv_aload_n hx hb dX0_cutTop_0 rfl (lv_at hl 0 rfl) ?_
  refine lv_iload_n hx hb dX0_cutTop_1 rfl (lv_at hl 1 rfl) ?_
  refine lv_iload_n hx hb dX0_cutTop_2 rfl (lv_at hl 2 rfl) ?_
  refine g_calls (As := [.int a0, .int a1]) (rest := [.ref h0]) ⟨hx, hb, hml, hown, hts⟩ (kX0_topAt l a0 a1) (va_cwS 2 hts gX0_cutTop_X0_topAt rfl rfl rfl (by decide +kernel) ⟨Nat.le_of_ble_eq_true rfl, Nat.le_of_ble_eq_true rfl⟩) G rfl hl.1 rfl (Nat.le_of_ble_eq_true rfl) dX0_cutTop_3 ⟨Nat.zero_le _, Nat.zero_le _⟩ (fun r_1 H locs e_2 G => ?_)
  subst e_2
  refine x_calli (As := [.int (x_topAt a0 a1)]) (rest := []) ⟨hx, hb, hml, hown, hts⟩ (kX0_read l D h0 r0 cA σ (x_topAt a0 a1)) (cwV 1 hts gX0_cutTop_X0_read rfl rfl rfl (by decide +kernel) ⟨Nat.le_of_ble_eq_true rfl, Nat.le_of_ble_eq_true rfl⟩) G rfl hl.1 rfl (Nat.le_of_ble_eq_true rfl) dX0_cutTop_6 ⟨Nat.zero_le _, Nat.zero_le _⟩ (fun r_3 σ_4 H locs e_5 G => ?_)
  refine lv_istore_n (lv' := [(3, .int r_3), (0, .ref h0), (1, .int a0), (2, .int a1)]) hx hb dX0_cutTop_9 rfl hl (by decide) rfl (fun ls hl => ?_)
  refine lv_aload_n hx hb dX0_cutTop_10 rfl (lv_at hl 1 rfl) ?_
  refine lv_iload_n hx hb dX0_cutTop_11 rfl (lv_at hl 2 rfl) ?_
  refine lv_iload_n hx hb dX0_cutTop_12 rfl (lv_at hl 3 rfl) ?_
  refine g_calls (As := [.int a0, .int a1]) (rest := [.ref h0]) ⟨hx, hb, hml, hown, hts⟩ (kX0_topAt l a0 a1) (va_cwS 2 hts gX0_cutTop_X0_topAt rfl rfl rfl (by decide +kernel) ⟨Nat.le_of_ble_eq_true rfl, Nat.le_of_ble_eq_true rfl⟩) G rfl hl.1 rfl (Nat.le_of_ble_eq_true rfl) dX0_cutTop_13 ⟨Nat.zero_le _, Nat.zero_le _⟩ (fun r_6 H locs e_7 G => ?_)
  subst e_7
  refine lv_iconst (v := (-1)) hx hb dX0_cutTop_16 (by decide) ?_
  refine x_callv (As := [.int (x_topAt a0 a1), .int (-1)]) (rest := []) ⟨hx, hb, hml, hown, hts⟩ (kX0_write l D h0 r0 cA σ_4 (x_topAt a0 a1) (-1)) (cwV 2 hts gX0_cutTop_X0_write rfl rfl rfl (by decide +kernel) ⟨Nat.le_of_ble_eq_true rfl, Nat.le_of_ble_eq_true rfl⟩) G rfl hl.1 rfl (Nat.le_of_ble_eq_true rfl) dX0_cutTop_17 ⟨Nat.zero_le _, Nat.zero_le _⟩ (fun σ_9 H locs e_10 G => ?_)
  refine lv_iload_n hx hb dX0_cutTop_20 rfl (lv_at hl 0 rfl) ?_
  exact g_iret (u := σ_9) E G (by (simp only [x_cutTop, e_5, e_10, ↓reduceIte]) <;> rfl) dX0_cutTop_21

set_option maxHeartbeats 4000000 in
set_option maxRecDepth 100000 in
theorem kX0_cutTwin (l : Launch) (D : va_G) (h0 r0 : Nat) (cA : ClassId) (σ : Sx) (a0 : Int32) : gMi l yX0_cutTwin wsX0_cutTwin ({ frames := 1, cells := 0, slots := 0, locals := 22 }) D vwCl [(cA, .int)] [.ref h0, .int a0] (xw h0 r0 cA) σ (fun r σ' => x_cutTwin σ a0 = (r, σ')) := by
  refine gMi_of (cc := cX0_cutTwin) (maxL := 3) (ret := (some .int)) (by decide) rfl (Nat.le_of_ble_eq_true rfl) ?_
  intro p e s m below meth c A ls E G hl
  obtain ⟨hx, hb, hml, hr, hlocks, hown, hts, -, -⟩ := id E
  have hin : ∀ w ∈ wsX00, w ∈ wsX0_cutTwin := fun w h => List.mem_cons_of_mem _ (List.mem_append_right _ h)
  have hl : lv_has ls 3 [(0, .ref h0), (1, .int a0)] := hl
  refine lv_aload_n hx hb dX0_cutTwin_0 rfl (lv_at hl 0 rfl) ?_
  refine lv_sipush (v := 1064) hx hb dX0_cutTwin_1 (by decide) ?_
  refine lv_iload_n hx hb dX0_cutTwin_4 rfl (lv_at hl 1 rfl) ?_
  refine lv_iadd hx hb dX0_cutTwin_5 ?_
  refine x_calli (As := [.int (1064 + a0)]) (rest := []) ⟨hx, hb, hml, hown, hts⟩ (kX0_read l D h0 r0 cA σ (1064 + a0)) (cwV 1 hts gX0_cutTwin_X0_read rfl rfl rfl (by decide +kernel) ⟨Nat.le_of_ble_eq_true rfl, Nat.le_of_ble_eq_true rfl⟩) G rfl hl.1 rfl (Nat.le_of_ble_eq_true rfl) dX0_cutTwin_6 ⟨Nat.zero_le _, Nat.zero_le _⟩ (fun r_1 σ_2 H locs e_3 G => ?_)
  refine lv_istore_n (lv' := [(2, .int r_1), (0, .ref h0), (1, .int a0)]) hx hb dX0_cutTwin_9 rfl hl (by decide) rfl (fun ls hl => ?_)
  refine lv_aload_n hx hb dX0_cutTwin_10 rfl (lv_at hl 1 rfl) ?_
  refine lv_sipush (v := 1064) hx hb dX0_cutTwin_11 (by decide) ?_
  refine lv_iload_n hx hb dX0_cutTwin_14 rfl (lv_at hl 2 rfl) ?_
  refine lv_iadd hx hb dX0_cutTwin_15 ?_
  refine lv_iconst (v := (-1)) hx hb dX0_cutTwin_16 (by decide) ?_
  refine x_callv (As := [.int (1064 + a0), .int (-1)]) (rest := []) ⟨hx, hb, hml, hown, hts⟩ (kX0_write l D h0 r0 cA σ_2 (1064 + a0) (-1)) (cwV 2 hts gX0_cutTwin_X0_write rfl rfl rfl (by decide +kernel) ⟨Nat.le_of_ble_eq_true rfl, Nat.le_of_ble_eq_true rfl⟩) G rfl hl.1 rfl (Nat.le_of_ble_eq_true rfl) dX0_cutTwin_17 ⟨Nat.zero_le _, Nat.zero_le _⟩ (fun σ_5 H locs e_6 G => ?_)
  refine lv_iload_n hx hb dX0_cutTwin_20 rfl (lv_at hl 0 rfl) ?_
  exact g_iret (u := σ_5) E G (by (simp only [x_cutTwin, e_3, e_6, ↓reduceIte]) <;> rfl) dX0_cutTwin_21

set_option maxHeartbeats 4000000 in
set_option maxRecDepth 100000 in
theorem kX0_hangTree (l : Launch) (D : va_G) (h0 r0 : Nat) (cA : ClassId) (σ : Sx) (a0 : Int32) (a1 : Int32) : gMv l yX0_hangTree wsX0_hangTree ({ frames := 1, cells := 0, slots := 0, locals := 22 }) D vwCl [(cA, .int)] [.ref h0, .int a0, .int a1] (xw h0 r0 cA) σ (fun σ' => x_hangTree σ a0 a1 = σ') := by
  refine gMv_of (cc := cX0_hangTree) (maxL := 3) (ret := none) (by decide) rfl (Nat.le_of_ble_eq_true rfl) ?_
  intro p e s m below meth c A ls E G hl
  obtain ⟨hx, hb, hml, hr, hlocks, hown, hts, -, -⟩ := id E
  have hin : ∀ w ∈ wsX00, w ∈ wsX0_hangTree := fun w h => List.mem_cons_of_mem _ (List.mem_append_right _ h)
  have hl : lv_has ls 3 [(0, .ref h0), (1, .int a0), (2, .int a1)] := hl
  refine lv_aload_n hx hb dX0_hangTree_0 rfl (lv_at hl 0 rfl) ?_
  refine lv_sipush (v := 600) hx hb dX0_hangTree_1 (by decide) ?_
  refine lv_iload_n hx hb dX0_hangTree_4 rfl (lv_at hl 2 rfl) ?_
  refine lv_iadd hx hb dX0_hangTree_5 ?_
  refine lv_aload_n hx hb dX0_hangTree_6 rfl (lv_at hl 0 rfl) ?_
  refine lv_sipush (v := 400) hx hb dX0_hangTree_7 (by decide) ?_
  refine lv_iload_n hx hb dX0_hangTree_10 rfl (lv_at hl 1 rfl) ?_
  refine lv_iadd hx hb dX0_hangTree_11 ?_
  refine x_calli (As := [.int (400 + a0)]) (rest := [.int (600 + a1), .ref h0]) ⟨hx, hb, hml, hown, hts⟩ (kX0_read l D h0 r0 cA σ (400 + a0)) (cwV 1 hts gX0_hangTree_X0_read rfl rfl rfl (by decide +kernel) ⟨Nat.le_of_ble_eq_true rfl, Nat.le_of_ble_eq_true rfl⟩) G rfl hl.1 rfl (Nat.le_of_ble_eq_true rfl) dX0_hangTree_12 ⟨Nat.zero_le _, Nat.zero_le _⟩ (fun r_1 σ_2 H locs e_3 G => ?_)
  refine x_callv (As := [.int (600 + a1), .int r_1]) (rest := []) ⟨hx, hb, hml, hown, hts⟩ (kX0_write l D h0 r0 cA σ_2 (600 + a1) r_1) (cwV 2 hts gX0_hangTree_X0_write rfl rfl rfl (by decide +kernel) ⟨Nat.le_of_ble_eq_true rfl, Nat.le_of_ble_eq_true rfl⟩) G rfl hl.1 rfl (Nat.le_of_ble_eq_true rfl) dX0_hangTree_15 ⟨Nat.zero_le _, Nat.zero_le _⟩ (fun σ_5 H locs e_6 G => ?_)
  refine lv_aload_n hx hb dX0_hangTree_18 rfl (lv_at hl 0 rfl) ?_
  refine lv_sipush (v := 400) hx hb dX0_hangTree_19 (by decide) ?_
  refine lv_iload_n hx hb dX0_hangTree_22 rfl (lv_at hl 1 rfl) ?_
  refine lv_iadd hx hb dX0_hangTree_23 ?_
  refine lv_iload_n hx hb dX0_hangTree_24 rfl (lv_at hl 2 rfl) ?_
  refine x_callv (As := [.int (400 + a0), .int a1]) (rest := []) ⟨hx, hb, hml, hown, hts⟩ (kX0_write l D h0 r0 cA σ_5 (400 + a0) a1) (cwV 2 hts gX0_hangTree_X0_write rfl rfl rfl (by decide +kernel) ⟨Nat.le_of_ble_eq_true rfl, Nat.le_of_ble_eq_true rfl⟩) G rfl hl.1 rfl (Nat.le_of_ble_eq_true rfl) dX0_hangTree_25 ⟨Nat.zero_le _, Nat.zero_le _⟩ (fun σ_8 H locs e_9 G => ?_)
  exact g_vret (u := σ_8) E G (by (simp only [x_hangTree, e_3, e_6, e_9, ↓reduceIte]) <;> rfl) dX0_hangTree_28

set_option maxHeartbeats 4000000 in
set_option maxRecDepth 100000 in
theorem kX0_link (l : Launch) (D : va_G) (h0 r0 : Nat) (cA : ClassId) (σ : Sx) (a0 : Int32) (a1 : Int32) : gMi l yX0_link wsX0_link ({ frames := 2, cells := 0, slots := 0, locals := 44 }) D vwCl [(cA, .int)] [.ref h0, .int a0, .int a1] (xw h0 r0 cA) σ (fun r σ' => x_link σ a0 a1 = (r, σ')) := by
  refine gMi_of (cc := cX0_link) (maxL := 5) (ret := (some .int)) (by decide) rfl (Nat.le_of_ble_eq_true rfl) ?_
  intro p e s m below meth c A ls E G hl
  obtain ⟨hx, hb, hml, hr, hlocks, hown, hts, -, -⟩ := id E
  have hin : ∀ w ∈ wsX00, w ∈ wsX0_link := fun w h => List.mem_cons_of_mem _ (List.mem_append_right _ h)
  have hl : lv_has ls 5 [(0, .ref h0), (1, .int a0), (2, .int a1)] := hl
  refine lv_aload_n hx hb dX0_link_0 rfl (lv_at hl 0 rfl) ?_
  refine lv_iconst (v := 0) hx hb dX0_link_1 (by decide) ?_
  refine lv_iload_n hx hb dX0_link_2 rfl (lv_at hl 1 rfl) ?_
  refine lv_iadd hx hb dX0_link_3 ?_
  refine x_calli (As := [.int (0 + a0)]) (rest := []) ⟨hx, hb, hml, hown, hts⟩ (kX0_read l D h0 r0 cA σ (0 + a0)) (cwV 1 hts gX0_link_X0_read rfl rfl rfl (by decide +kernel) ⟨Nat.le_of_ble_eq_true rfl, Nat.le_of_ble_eq_true rfl⟩) G rfl hl.1 rfl (Nat.le_of_ble_eq_true rfl) dX0_link_4 ⟨Nat.zero_le _, Nat.zero_le _⟩ (fun r_1 σ_2 H locs e_3 G => ?_)
  refine lv_aload_n hx hb dX0_link_7 rfl (lv_at hl 0 rfl) ?_
  refine lv_iconst (v := 0) hx hb dX0_link_8 (by decide) ?_
  refine lv_iload_n hx hb dX0_link_9 rfl (lv_at hl 2 rfl) ?_
  refine lv_iadd hx hb dX0_link_10 ?_
  refine x_calli (As := [.int (0 + a1)]) (rest := [.int r_1]) ⟨hx, hb, hml, hown, hts⟩ (kX0_read l D h0 r0 cA σ_2 (0 + a1)) (cwV 1 hts gX0_link_X0_read rfl rfl rfl (by decide +kernel) ⟨Nat.le_of_ble_eq_true rfl, Nat.le_of_ble_eq_true rfl⟩) G rfl hl.1 rfl (Nat.le_of_ble_eq_true rfl) dX0_link_11 ⟨Nat.zero_le _, Nat.zero_le _⟩ (fun r_4 σ_5 H locs e_6 G => ?_)
  refine lv_icmp_gt (tgt := 21) hx hb dX0_link_14 (by decide) (fun c_7 => ?_) (fun c_7 => ?_)
  · refine lv_iconst (v := 0) hx hb dX0_link_21 (by decide) ?_
    refine lv_istore_n (lv' := [(3, .int 0), (0, .ref h0), (1, .int a0), (2, .int a1)]) hx hb dX0_link_22 rfl hl (by decide) rfl (fun ls hl => ?_)
    refine lv_iload_n hx hb dX0_link_23 rfl (lv_at hl 0 rfl) ?_
    refine lv_if_eq (tgt := 31) hx hb dX0_link_24 (by decide) (fun c_8 => ?_) (fun c_8 => ?_)
    · refine lv_iload_n hx hb dX0_link_31 rfl (lv_at hl 3 rfl) ?_
      refine lv_istore (lv' := [(4, .int a1), (3, .int 0), (0, .ref h0), (1, .int a0), (2, .int a1)]) hx hb dX0_link_32 hl (by decide) rfl (fun ls hl => ?_)
      refine lv_aload_n hx hb dX0_link_34 rfl (lv_at hl 2 rfl) ?_
      refine lv_iload hx hb dX0_link_35 (lv_at hl 0 rfl) ?_
      refine lv_iload_n hx hb dX0_link_37 rfl (lv_at hl 1 rfl) ?_
      refine lv_if_eq (tgt := 45) hx hb dX0_link_38 (by decide) (fun c_9 => ?_) (fun c_9 => ?_)
      · refine lv_iload_n hx hb dX0_link_45 rfl (lv_at hl 3 rfl) ?_
        refine x_callv (As := [.int a1, .int a0]) (rest := []) ⟨hx, hb, hml, hown, hts⟩ (kX0_hangTree l D h0 r0 cA σ_5 a1 a0) (cwV 2 hts gX0_link_X0_hangTree rfl rfl rfl (by decide +kernel) ⟨Nat.le_of_ble_eq_true rfl, Nat.le_of_ble_eq_true rfl⟩) G rfl hl.1 rfl (Nat.le_of_ble_eq_true rfl) dX0_link_46 ⟨Nat.zero_le _, Nat.zero_le _⟩ (fun σ_11 H locs e_12 G => ?_)
        refine lv_aload_n hx hb dX0_link_49 rfl (lv_at hl 2 rfl) ?_
        refine lv_sipush (v := 200) hx hb dX0_link_50 (by decide) ?_
        refine lv_iload hx hb dX0_link_53 (lv_at hl 0 rfl) ?_
        refine lv_iadd hx hb dX0_link_55 ?_
        refine lv_aload_n hx hb dX0_link_56 rfl (lv_at hl 2 rfl) ?_
        refine lv_sipush (v := 200) hx hb dX0_link_57 (by decide) ?_
        refine lv_iload hx hb dX0_link_60 (lv_at hl 0 rfl) ?_
        refine lv_iadd hx hb dX0_link_62 ?_
        refine x_calli (As := [.int (200 + a1)]) (rest := [.int (200 + a1), .ref h0]) ⟨hx, hb, hml, hown, hts⟩ (kX0_read l D h0 r0 cA σ_11 (200 + a1)) (cwV 1 hts gX0_link_X0_read rfl rfl rfl (by decide +kernel) ⟨Nat.le_of_ble_eq_true rfl, Nat.le_of_ble_eq_true rfl⟩) G rfl hl.1 rfl (Nat.le_of_ble_eq_true rfl) dX0_link_63 ⟨Nat.zero_le _, Nat.zero_le _⟩ (fun r_13 σ_14 H locs e_15 G => ?_)
        refine lv_iconst (v := 1) hx hb dX0_link_66 (by decide) ?_
        refine lv_iadd hx hb dX0_link_67 ?_
        refine x_callv (As := [.int (200 + a1), .int (r_13 + 1)]) (rest := []) ⟨hx, hb, hml, hown, hts⟩ (kX0_write l D h0 r0 cA σ_14 (200 + a1) (r_13 + 1)) (cwV 2 hts gX0_link_X0_write rfl rfl rfl (by decide +kernel) ⟨Nat.le_of_ble_eq_true rfl, Nat.le_of_ble_eq_true rfl⟩) G rfl hl.1 rfl (Nat.le_of_ble_eq_true rfl) dX0_link_68 ⟨Nat.zero_le _, Nat.zero_le _⟩ (fun σ_17 H locs e_18 G => ?_)
        refine lv_iload hx hb dX0_link_71 (lv_at hl 0 rfl) ?_
        exact g_iret (u := σ_17) E G (by (simp only [x_link, e_3, e_6, c_7, e_12, e_15, e_18, ↓reduceIte]) <;> rfl) dX0_link_73
      · exact absurd (by decide) c_9
    · exact absurd (by decide) c_8
  · refine lv_iconst (v := 1) hx hb dX0_link_17 (by decide) ?_
    refine lv_goto (tgt := 22) hx hb dX0_link_18 (by decide) ?_
    refine lv_istore_n (lv' := [(3, .int 1), (0, .ref h0), (1, .int a0), (2, .int a1)]) hx hb dX0_link_22 rfl hl (by decide) rfl (fun ls hl => ?_)
    refine lv_iload_n hx hb dX0_link_23 rfl (lv_at hl 0 rfl) ?_
    refine lv_if_eq (tgt := 31) hx hb dX0_link_24 (by decide) (fun c_19 => ?_) (fun c_19 => ?_)
    · exact absurd c_19 (by decide)
    · refine lv_iload_n hx hb dX0_link_27 rfl (lv_at hl 2 rfl) ?_
      refine lv_goto (tgt := 32) hx hb dX0_link_28 (by decide) ?_
      refine lv_istore (lv' := [(4, .int a0), (3, .int 1), (0, .ref h0), (1, .int a0), (2, .int a1)]) hx hb dX0_link_32 hl (by decide) rfl (fun ls hl => ?_)
      refine lv_aload_n hx hb dX0_link_34 rfl (lv_at hl 2 rfl) ?_
      refine lv_iload hx hb dX0_link_35 (lv_at hl 0 rfl) ?_
      refine lv_iload_n hx hb dX0_link_37 rfl (lv_at hl 1 rfl) ?_
      refine lv_if_eq (tgt := 45) hx hb dX0_link_38 (by decide) (fun c_20 => ?_) (fun c_20 => ?_)
      · exact absurd c_20 (by decide)
      · refine lv_iload_n hx hb dX0_link_41 rfl (lv_at hl 4 rfl) ?_
        refine lv_goto (tgt := 46) hx hb dX0_link_42 (by decide) ?_
        refine x_callv (As := [.int a0, .int a1]) (rest := []) ⟨hx, hb, hml, hown, hts⟩ (kX0_hangTree l D h0 r0 cA σ_5 a0 a1) (cwV 2 hts gX0_link_X0_hangTree rfl rfl rfl (by decide +kernel) ⟨Nat.le_of_ble_eq_true rfl, Nat.le_of_ble_eq_true rfl⟩) G rfl hl.1 rfl (Nat.le_of_ble_eq_true rfl) dX0_link_46 ⟨Nat.zero_le _, Nat.zero_le _⟩ (fun σ_22 H locs e_23 G => ?_)
        refine lv_aload_n hx hb dX0_link_49 rfl (lv_at hl 2 rfl) ?_
        refine lv_sipush (v := 200) hx hb dX0_link_50 (by decide) ?_
        refine lv_iload hx hb dX0_link_53 (lv_at hl 0 rfl) ?_
        refine lv_iadd hx hb dX0_link_55 ?_
        refine lv_aload_n hx hb dX0_link_56 rfl (lv_at hl 2 rfl) ?_
        refine lv_sipush (v := 200) hx hb dX0_link_57 (by decide) ?_
        refine lv_iload hx hb dX0_link_60 (lv_at hl 0 rfl) ?_
        refine lv_iadd hx hb dX0_link_62 ?_
        refine x_calli (As := [.int (200 + a0)]) (rest := [.int (200 + a0), .ref h0]) ⟨hx, hb, hml, hown, hts⟩ (kX0_read l D h0 r0 cA σ_22 (200 + a0)) (cwV 1 hts gX0_link_X0_read rfl rfl rfl (by decide +kernel) ⟨Nat.le_of_ble_eq_true rfl, Nat.le_of_ble_eq_true rfl⟩) G rfl hl.1 rfl (Nat.le_of_ble_eq_true rfl) dX0_link_63 ⟨Nat.zero_le _, Nat.zero_le _⟩ (fun r_24 σ_25 H locs e_26 G => ?_)
        refine lv_iconst (v := 1) hx hb dX0_link_66 (by decide) ?_
        refine lv_iadd hx hb dX0_link_67 ?_
        refine x_callv (As := [.int (200 + a0), .int (r_24 + 1)]) (rest := []) ⟨hx, hb, hml, hown, hts⟩ (kX0_write l D h0 r0 cA σ_25 (200 + a0) (r_24 + 1)) (cwV 2 hts gX0_link_X0_write rfl rfl rfl (by decide +kernel) ⟨Nat.le_of_ble_eq_true rfl, Nat.le_of_ble_eq_true rfl⟩) G rfl hl.1 rfl (Nat.le_of_ble_eq_true rfl) dX0_link_68 ⟨Nat.zero_le _, Nat.zero_le _⟩ (fun σ_28 H locs e_29 G => ?_)
        refine lv_iload hx hb dX0_link_71 (lv_at hl 0 rfl) ?_
        exact g_iret (u := σ_28) E G (by (simp only [x_link, e_3, e_6, c_7, e_23, e_26, e_29, ↓reduceIte]) <;> rfl) dX0_link_73

set_option maxHeartbeats 4000000 in
set_option maxRecDepth 100000 in
theorem kX0_hangKey (l : Launch) (D : va_G) (h0 r0 : Nat) (cA : ClassId) (σ : Sx) (a0 : Int32) (a1 : Int32) : gMv l yX0_hangKey wsX0_hangKey ({ frames := 2, cells := 0, slots := 0, locals := 44 }) D vwCl [(cA, .int)] [.ref h0, .int a0, .int a1] (xw h0 r0 cA) σ (fun σ' => x_hangKey σ a0 a1 = σ') := by
  refine gMv_of (cc := cX0_hangKey) (maxL := 5) (ret := none) (by decide) rfl (Nat.le_of_ble_eq_true rfl) ?_
  intro p e s m below meth c A ls E G hl
  obtain ⟨hx, hb, hml, hr, hlocks, hown, hts, -, -⟩ := id E
  have hin : ∀ w ∈ wsX00, w ∈ wsX0_hangKey := fun w h => List.mem_cons_of_mem _ (List.mem_append_right _ h)
  have hl : lv_has ls 5 [(0, .ref h0), (1, .int a0), (2, .int a1)] := hl
  refine lv_aload_n hx hb dX0_hangKey_0 rfl (lv_at hl 0 rfl) ?_
  refine lv_iconst (v := 0) hx hb dX0_hangKey_1 (by decide) ?_
  refine lv_iload_n hx hb dX0_hangKey_2 rfl (lv_at hl 1 rfl) ?_
  refine lv_iadd hx hb dX0_hangKey_3 ?_
  refine x_calli (As := [.int (0 + a0)]) (rest := []) ⟨hx, hb, hml, hown, hts⟩ (kX0_read l D h0 r0 cA σ (0 + a0)) (cwV 1 hts gX0_hangKey_X0_read rfl rfl rfl (by decide +kernel) ⟨Nat.le_of_ble_eq_true rfl, Nat.le_of_ble_eq_true rfl⟩) G rfl hl.1 rfl (Nat.le_of_ble_eq_true rfl) dX0_hangKey_4 ⟨Nat.zero_le _, Nat.zero_le _⟩ (fun r_1 σ_2 H locs e_3 G => ?_)
  refine lv_istore_n (lv' := [(3, .int r_1), (0, .ref h0), (1, .int a0), (2, .int a1)]) hx hb dX0_hangKey_7 rfl hl (by decide) rfl (fun ls hl => ?_)
  refine lv_aload_n hx hb dX0_hangKey_8 rfl (lv_at hl 1 rfl) ?_
  refine lv_iconst (v := 0) hx hb dX0_hangKey_9 (by decide) ?_
  refine lv_iload_n hx hb dX0_hangKey_10 rfl (lv_at hl 3 rfl) ?_
  refine lv_iadd hx hb dX0_hangKey_11 ?_
  refine x_calli (As := [.int (0 + a1)]) (rest := []) ⟨hx, hb, hml, hown, hts⟩ (kX0_read l D h0 r0 cA σ_2 (0 + a1)) (cwV 1 hts gX0_hangKey_X0_read rfl rfl rfl (by decide +kernel) ⟨Nat.le_of_ble_eq_true rfl, Nat.le_of_ble_eq_true rfl⟩) G rfl hl.1 rfl (Nat.le_of_ble_eq_true rfl) dX0_hangKey_12 ⟨Nat.zero_le _, Nat.zero_le _⟩ (fun r_4 σ_5 H locs e_6 G => ?_)
  refine lv_istore (lv' := [(4, .int r_4), (3, .int r_1), (0, .ref h0), (1, .int a0), (2, .int a1)]) hx hb dX0_hangKey_15 hl (by decide) rfl (fun ls hl => ?_)
  refine lv_iload hx hb dX0_hangKey_17 (lv_at hl 0 rfl) ?_
  refine lv_iload_n hx hb dX0_hangKey_19 rfl (lv_at hl 1 rfl) ?_
  refine lv_icmp_ge (tgt := 40) hx hb dX0_hangKey_20 (by decide) (fun c_7 => ?_) (fun c_7 => ?_)
  · refine lv_aload_n hx hb dX0_hangKey_40 rfl (lv_at hl 2 rfl) ?_
    refine lv_iload_n hx hb dX0_hangKey_41 rfl (lv_at hl 3 rfl) ?_
    refine lv_iload_n hx hb dX0_hangKey_42 rfl (lv_at hl 4 rfl) ?_
    refine x_callv (As := [.int a0, .int a1]) (rest := []) ⟨hx, hb, hml, hown, hts⟩ (kX0_hangTree l D h0 r0 cA σ_5 a0 a1) (cwV 2 hts gX0_hangKey_X0_hangTree rfl rfl rfl (by decide +kernel) ⟨Nat.le_of_ble_eq_true rfl, Nat.le_of_ble_eq_true rfl⟩) G rfl hl.1 rfl (Nat.le_of_ble_eq_true rfl) dX0_hangKey_43 ⟨Nat.zero_le _, Nat.zero_le _⟩ (fun σ_9 H locs e_10 G => ?_)
    exact g_vret (u := σ_9) E G (by (simp only [x_hangKey, e_3, e_6, c_7, e_10, ↓reduceIte]) <;> rfl) dX0_hangKey_46
  · refine lv_aload_n hx hb dX0_hangKey_23 rfl (lv_at hl 2 rfl) ?_
    refine lv_iconst (v := 0) hx hb dX0_hangKey_24 (by decide) ?_
    refine lv_iload_n hx hb dX0_hangKey_25 rfl (lv_at hl 3 rfl) ?_
    refine lv_iadd hx hb dX0_hangKey_26 ?_
    refine lv_iload hx hb dX0_hangKey_27 (lv_at hl 0 rfl) ?_
    refine x_callv (As := [.int (0 + a0), .int r_4]) (rest := []) ⟨hx, hb, hml, hown, hts⟩ (kX0_write l D h0 r0 cA σ_5 (0 + a0) r_4) (cwV 2 hts gX0_hangKey_X0_write rfl rfl rfl (by decide +kernel) ⟨Nat.le_of_ble_eq_true rfl, Nat.le_of_ble_eq_true rfl⟩) G rfl hl.1 rfl (Nat.le_of_ble_eq_true rfl) dX0_hangKey_29 ⟨Nat.zero_le _, Nat.zero_le _⟩ (fun σ_12 H locs e_13 G => ?_)
    refine lv_aload_n hx hb dX0_hangKey_32 rfl (lv_at hl 2 rfl) ?_
    refine lv_iconst (v := 0) hx hb dX0_hangKey_33 (by decide) ?_
    refine lv_iload_n hx hb dX0_hangKey_34 rfl (lv_at hl 4 rfl) ?_
    refine lv_iadd hx hb dX0_hangKey_35 ?_
    refine lv_iload_n hx hb dX0_hangKey_36 rfl (lv_at hl 1 rfl) ?_
    refine x_callv (As := [.int (0 + a1), .int r_1]) (rest := []) ⟨hx, hb, hml, hown, hts⟩ (kX0_write l D h0 r0 cA σ_12 (0 + a1) r_1) (cwV 2 hts gX0_hangKey_X0_write rfl rfl rfl (by decide +kernel) ⟨Nat.le_of_ble_eq_true rfl, Nat.le_of_ble_eq_true rfl⟩) G rfl hl.1 rfl (Nat.le_of_ble_eq_true rfl) dX0_hangKey_37 ⟨Nat.zero_le _, Nat.zero_le _⟩ (fun σ_15 H locs e_16 G => ?_)
    refine lv_aload_n hx hb dX0_hangKey_40 rfl (lv_at hl 2 rfl) ?_
    refine lv_iload_n hx hb dX0_hangKey_41 rfl (lv_at hl 3 rfl) ?_
    refine lv_iload_n hx hb dX0_hangKey_42 rfl (lv_at hl 4 rfl) ?_
    refine x_callv (As := [.int a0, .int a1]) (rest := []) ⟨hx, hb, hml, hown, hts⟩ (kX0_hangTree l D h0 r0 cA σ_15 a0 a1) (cwV 2 hts gX0_hangKey_X0_hangTree rfl rfl rfl (by decide +kernel) ⟨Nat.le_of_ble_eq_true rfl, Nat.le_of_ble_eq_true rfl⟩) G rfl hl.1 rfl (Nat.le_of_ble_eq_true rfl) dX0_hangKey_43 ⟨Nat.zero_le _, Nat.zero_le _⟩ (fun σ_18 H locs e_19 G => ?_)
    exact g_vret (u := σ_18) E G (by (simp only [x_hangKey, e_3, e_6, c_7, e_13, e_16, e_19, ↓reduceIte]) <;> rfl) dX0_hangKey_46

set_option maxHeartbeats 4000000 in
set_option maxRecDepth 100000 in
theorem kX0_lesserRoot (l : Launch) (D : va_G) (h0 r0 : Nat) (cA : ClassId) (σ : Sx) (a0 : Int32) (a1 : Int32) : gMi l yX0_lesserRoot wsX0_lesserRoot ({ frames := 1, cells := 0, slots := 0, locals := 21 }) D vwCl [(cA, .int)] [.ref h0, .int a0, .int a1] (xw h0 r0 cA) σ (fun r σ' => x_lesserRoot σ a0 a1 = (r, σ')) := by
  refine gMi_of (cc := cX0_lesserRoot) (maxL := 3) (ret := (some .int)) (by decide) rfl (Nat.le_of_ble_eq_true rfl) ?_
  intro p e s m below meth c A ls E G hl
  obtain ⟨hx, hb, hml, hr, hlocks, hown, hts, -, -⟩ := id E
  have hin : ∀ w ∈ wsX00, w ∈ wsX0_lesserRoot := fun w h => List.mem_cons_of_mem _ (List.mem_append_right _ h)
  have hl : lv_has ls 3 [(0, .ref h0), (1, .int a0), (2, .int a1)] := hl
  refine lv_iload_n hx hb dX0_lesserRoot_0 rfl (lv_at hl 1 rfl) ?_
  refine lv_iconst (v := (-1)) hx hb dX0_lesserRoot_1 (by decide) ?_
  refine lv_icmp_eq (tgt := 10) hx hb dX0_lesserRoot_2 (by decide) (fun c_1 => ?_) (fun c_1 => ?_)
  · refine lv_iload_n hx hb dX0_lesserRoot_10 rfl (lv_at hl 1 rfl) ?_
    refine lv_iconst (v := (-1)) hx hb dX0_lesserRoot_11 (by decide) ?_
    refine lv_icmp_ne (tgt := 19) hx hb dX0_lesserRoot_12 (by decide) (fun c_2 => ?_) (fun c_2 => ?_)
    · exact absurd c_1 c_2
    · refine lv_iload_n hx hb dX0_lesserRoot_15 rfl (lv_at hl 2 rfl) ?_
      refine lv_goto (tgt := 20) hx hb dX0_lesserRoot_16 (by decide) ?_
      exact g_iret (u := σ) E G (by (simp only [x_lesserRoot, c_1, ↓reduceIte]) <;> rfl) dX0_lesserRoot_20
  · refine lv_iload_n hx hb dX0_lesserRoot_5 rfl (lv_at hl 2 rfl) ?_
    refine lv_iconst (v := (-1)) hx hb dX0_lesserRoot_6 (by decide) ?_
    refine lv_icmp_ne (tgt := 21) hx hb dX0_lesserRoot_7 (by decide) (fun c_3 => ?_) (fun c_3 => ?_)
    · refine lv_aload_n hx hb dX0_lesserRoot_21 rfl (lv_at hl 0 rfl) ?_
      refine lv_iconst (v := 0) hx hb dX0_lesserRoot_22 (by decide) ?_
      refine lv_iload_n hx hb dX0_lesserRoot_23 rfl (lv_at hl 1 rfl) ?_
      refine lv_iadd hx hb dX0_lesserRoot_24 ?_
      refine x_calli (As := [.int (0 + a0)]) (rest := []) ⟨hx, hb, hml, hown, hts⟩ (kX0_read l D h0 r0 cA σ (0 + a0)) (cwV 1 hts gX0_lesserRoot_X0_read rfl rfl rfl (by decide +kernel) ⟨Nat.le_of_ble_eq_true rfl, Nat.le_of_ble_eq_true rfl⟩) G rfl hl.1 rfl (Nat.le_of_ble_eq_true rfl) dX0_lesserRoot_25 ⟨Nat.zero_le _, Nat.zero_le _⟩ (fun r_4 σ_5 H locs e_6 G => ?_)
      refine lv_aload_n hx hb dX0_lesserRoot_28 rfl (lv_at hl 0 rfl) ?_
      refine lv_iconst (v := 0) hx hb dX0_lesserRoot_29 (by decide) ?_
      refine lv_iload_n hx hb dX0_lesserRoot_30 rfl (lv_at hl 2 rfl) ?_
      refine lv_iadd hx hb dX0_lesserRoot_31 ?_
      refine x_calli (As := [.int (0 + a1)]) (rest := [.int r_4]) ⟨hx, hb, hml, hown, hts⟩ (kX0_read l D h0 r0 cA σ_5 (0 + a1)) (cwV 1 hts gX0_lesserRoot_X0_read rfl rfl rfl (by decide +kernel) ⟨Nat.le_of_ble_eq_true rfl, Nat.le_of_ble_eq_true rfl⟩) G rfl hl.1 rfl (Nat.le_of_ble_eq_true rfl) dX0_lesserRoot_32 ⟨Nat.zero_le _, Nat.zero_le _⟩ (fun r_7 σ_8 H locs e_9 G => ?_)
      refine lv_icmp_gt (tgt := 42) hx hb dX0_lesserRoot_35 (by decide) (fun c_10 => ?_) (fun c_10 => ?_)
      · refine lv_iload_n hx hb dX0_lesserRoot_42 rfl (lv_at hl 2 rfl) ?_
        exact g_iret (u := σ_8) E G (by (simp only [x_lesserRoot, c_1, c_3, e_6, e_9, c_10, ↓reduceIte]) <;> rfl) dX0_lesserRoot_43
      · refine lv_iload_n hx hb dX0_lesserRoot_38 rfl (lv_at hl 1 rfl) ?_
        refine lv_goto (tgt := 43) hx hb dX0_lesserRoot_39 (by decide) ?_
        exact g_iret (u := σ_8) E G (by (simp only [x_lesserRoot, c_1, c_3, e_6, e_9, c_10, ↓reduceIte]) <;> rfl) dX0_lesserRoot_43
    · refine lv_iload_n hx hb dX0_lesserRoot_10 rfl (lv_at hl 1 rfl) ?_
      refine lv_iconst (v := (-1)) hx hb dX0_lesserRoot_11 (by decide) ?_
      refine lv_icmp_ne (tgt := 19) hx hb dX0_lesserRoot_12 (by decide) (fun c_11 => ?_) (fun c_11 => ?_)
      · refine lv_iload_n hx hb dX0_lesserRoot_19 rfl (lv_at hl 1 rfl) ?_
        exact g_iret (u := σ) E G (by (simp only [x_lesserRoot, c_1, c_3, ↓reduceIte]) <;> rfl) dX0_lesserRoot_20
      · exact absurd c_11 c_1

set_option maxHeartbeats 4000000 in
set_option maxRecDepth 100000 in
theorem kX0_listedKey (l : Launch) (D : va_G) (h0 r0 : Nat) (cA : ClassId) (σ : Sx) (a0 : Int32) : gMi l yX0_listedKey wsX0_listedKey ({ frames := 1, cells := 0, slots := 0, locals := 21 }) D vwCl [(cA, .int)] [.ref h0, .int a0] (xw h0 r0 cA) σ (fun r σ' => x_listedKey σ a0 = (r, σ')) := by
  refine gMi_of (cc := cX0_listedKey) (maxL := 2) (ret := (some .int)) (by decide) rfl (Nat.le_of_ble_eq_true rfl) ?_
  intro p e s m below meth c A ls E G hl
  obtain ⟨hx, hb, hml, hr, hlocks, hown, hts, -, -⟩ := id E
  have hin : ∀ w ∈ wsX00, w ∈ wsX0_listedKey := fun w h => List.mem_cons_of_mem _ (List.mem_append_right _ h)
  have hl : lv_has ls 2 [(0, .ref h0), (1, .int a0)] := hl
  refine lv_aload_n hx hb dX0_listedKey_0 rfl (lv_at hl 0 rfl) ?_
  refine lv_iconst (v := 0) hx hb dX0_listedKey_1 (by decide) ?_
  refine lv_aload_n hx hb dX0_listedKey_2 rfl (lv_at hl 0 rfl) ?_
  refine lv_sipush (v := 800) hx hb dX0_listedKey_3 (by decide) ?_
  refine lv_iload_n hx hb dX0_listedKey_6 rfl (lv_at hl 1 rfl) ?_
  refine lv_iadd hx hb dX0_listedKey_7 ?_
  refine x_calli (As := [.int (800 + a0)]) (rest := [.int 0, .ref h0]) ⟨hx, hb, hml, hown, hts⟩ (kX0_read l D h0 r0 cA σ (800 + a0)) (cwV 1 hts gX0_listedKey_X0_read rfl rfl rfl (by decide +kernel) ⟨Nat.le_of_ble_eq_true rfl, Nat.le_of_ble_eq_true rfl⟩) G rfl hl.1 rfl (Nat.le_of_ble_eq_true rfl) dX0_listedKey_8 ⟨Nat.zero_le _, Nat.zero_le _⟩ (fun r_1 σ_2 H locs e_3 G => ?_)
  refine lv_iadd hx hb dX0_listedKey_11 ?_
  refine x_calli (As := [.int (0 + r_1)]) (rest := []) ⟨hx, hb, hml, hown, hts⟩ (kX0_read l D h0 r0 cA σ_2 (0 + r_1)) (cwV 1 hts gX0_listedKey_X0_read rfl rfl rfl (by decide +kernel) ⟨Nat.le_of_ble_eq_true rfl, Nat.le_of_ble_eq_true rfl⟩) G rfl hl.1 rfl (Nat.le_of_ble_eq_true rfl) dX0_listedKey_12 ⟨Nat.zero_le _, Nat.zero_le _⟩ (fun r_4 σ_5 H locs e_6 G => ?_)
  exact g_iret (u := σ_5) E G (by (simp only [x_listedKey, e_3, e_6, ↓reduceIte]) <;> rfl) dX0_listedKey_15

set_option maxHeartbeats 4000000 in
set_option maxRecDepth 100000 in
theorem kX0_beginOn (l : Launch) (D : va_G) (h0 r0 : Nat) (cA : ClassId) (σ : Sx) (a0 : Int32) : gMv l yX0_beginOn wsX0_beginOn ({ frames := 2, cells := 0, slots := 0, locals := 42 }) D vwCl [(cA, .int)] [.ref h0, .int a0] (xw h0 r0 cA) σ (fun σ' => x_beginOn σ a0 = σ') := by
  refine gMv_of (cc := cX0_beginOn) (maxL := 2) (ret := none) (by decide) rfl (Nat.le_of_ble_eq_true rfl) ?_
  intro p e s m below meth c A ls E G hl
  obtain ⟨hx, hb, hml, hr, hlocks, hown, hts, -, -⟩ := id E
  have hin : ∀ w ∈ wsX00, w ∈ wsX0_beginOn := fun w h => List.mem_cons_of_mem _ (List.mem_append_right _ h)
  have hl : lv_has ls 2 [(0, .ref h0), (1, .int a0)] := hl
  refine lv_aload_n hx hb dX0_beginOn_0 rfl (lv_at hl 0 rfl) ?_
  refine lv_iconst (v := 0) hx hb dX0_beginOn_1 (by decide) ?_
  refine g_put (C := RX0) (T := TX0) (N := 6) (ci := 0) (v := .int 0) (ty := .int) hx hb hts hin tyX0 tyX0_ok nmX0 hown G 0 rfl rfl 4 (by decide) (hts (.fieldLink RX0 96 "SkewMelds" "steps" "I") (by decide +kernel)) rfl rfl (by decide +kernel) rfl rfl (Nat.le_of_ble_eq_true rfl) (xw h0 r0 cA (x_sS σ 0)) rfl dX0_beginOn_2 (fun H locs G => ?_)
  refine lv_aload_n hx hb dX0_beginOn_5 rfl (lv_at hl 0 rfl) ?_
  refine lv_aload_n hx hb dX0_beginOn_6 rfl (lv_at hl 0 rfl) ?_
  refine lv_iload_n hx hb dX0_beginOn_7 rfl (lv_at hl 1 rfl) ?_
  refine x_calli (As := [.int a0]) (rest := [.ref h0]) ⟨hx, hb, hml, hown, hts⟩ (kX0_keysIn l D h0 r0 cA (x_sS σ 0) a0) (cwV 1 hts gX0_beginOn_X0_keysIn rfl rfl rfl (by decide +kernel) ⟨Nat.le_of_ble_eq_true rfl, Nat.le_of_ble_eq_true rfl⟩) G rfl hl.1 rfl (Nat.le_of_ble_eq_true rfl) dX0_beginOn_8 ⟨Nat.zero_le _, Nat.zero_le _⟩ (fun r_1 σ_2 H locs e_3 G => ?_)
  refine g_calls (As := [.int r_1]) (rest := [.ref h0]) ⟨hx, hb, hml, hown, hts⟩ (kX0_limitFor l r_1) (va_cwS 1 hts gX0_beginOn_X0_limitFor rfl rfl rfl (by decide +kernel) ⟨Nat.le_of_ble_eq_true rfl, Nat.le_of_ble_eq_true rfl⟩) G rfl hl.1 rfl (Nat.le_of_ble_eq_true rfl) dX0_beginOn_11 ⟨Nat.zero_le _, Nat.zero_le _⟩ (fun r_4 H locs e_5 G => ?_)
  subst e_5
  refine g_put (C := RX0) (T := TX0) (N := 6) (ci := 0) (v := .int (x_limFor r_1)) (ty := .int) hx hb hts hin tyX0 tyX0_ok nmX0 hown G 0 rfl rfl 5 (by decide) (hts (.fieldLink RX0 99 "SkewMelds" "limit" "I") (by decide +kernel)) rfl rfl (by decide +kernel) rfl rfl (Nat.le_of_ble_eq_true rfl) (xw h0 r0 cA (x_sL σ_2 (x_limFor r_1))) rfl dX0_beginOn_14 (fun H locs G => ?_)
  exact g_vret (u := (x_sL σ_2 (x_limFor r_1))) E G (by (simp only [x_beginOn, e_3, ↓reduceIte]) <;> rfl) dX0_beginOn_17

set_option maxHeartbeats 4000000 in
set_option maxRecDepth 100000 in
theorem kX0_beginOnBoth (l : Launch) (D : va_G) (h0 r0 : Nat) (cA : ClassId) (σ : Sx) (a0 : Int32) (a1 : Int32) : gMv l yX0_beginOnBoth wsX0_beginOnBoth ({ frames := 2, cells := 0, slots := 0, locals := 42 }) D vwCl [(cA, .int)] [.ref h0, .int a0, .int a1] (xw h0 r0 cA) σ (fun σ' => x_beginOnBoth σ a0 a1 = σ') := by
  refine gMv_of (cc := cX0_beginOnBoth) (maxL := 3) (ret := none) (by decide) rfl (Nat.le_of_ble_eq_true rfl) ?_
  intro p e s m below meth c A ls E G hl
  obtain ⟨hx, hb, hml, hr, hlocks, hown, hts, -, -⟩ := id E
  have hin : ∀ w ∈ wsX00, w ∈ wsX0_beginOnBoth := fun w h => List.mem_cons_of_mem _ (List.mem_append_right _ h)
  have hl : lv_has ls 3 [(0, .ref h0), (1, .int a0), (2, .int a1)] := hl
  refine lv_aload_n hx hb dX0_beginOnBoth_0 rfl (lv_at hl 0 rfl) ?_
  refine lv_iconst (v := 0) hx hb dX0_beginOnBoth_1 (by decide) ?_
  refine g_put (C := RX0) (T := TX0) (N := 6) (ci := 0) (v := .int 0) (ty := .int) hx hb hts hin tyX0 tyX0_ok nmX0 hown G 0 rfl rfl 4 (by decide) (hts (.fieldLink RX0 96 "SkewMelds" "steps" "I") (by decide +kernel)) rfl rfl (by decide +kernel) rfl rfl (Nat.le_of_ble_eq_true rfl) (xw h0 r0 cA (x_sS σ 0)) rfl dX0_beginOnBoth_2 (fun H locs G => ?_)
  refine lv_aload_n hx hb dX0_beginOnBoth_5 rfl (lv_at hl 0 rfl) ?_
  refine lv_aload_n hx hb dX0_beginOnBoth_6 rfl (lv_at hl 0 rfl) ?_
  refine lv_iload_n hx hb dX0_beginOnBoth_7 rfl (lv_at hl 1 rfl) ?_
  refine x_calli (As := [.int a0]) (rest := [.ref h0]) ⟨hx, hb, hml, hown, hts⟩ (kX0_keysIn l D h0 r0 cA (x_sS σ 0) a0) (cwV 1 hts gX0_beginOnBoth_X0_keysIn rfl rfl rfl (by decide +kernel) ⟨Nat.le_of_ble_eq_true rfl, Nat.le_of_ble_eq_true rfl⟩) G rfl hl.1 rfl (Nat.le_of_ble_eq_true rfl) dX0_beginOnBoth_8 ⟨Nat.zero_le _, Nat.zero_le _⟩ (fun r_1 σ_2 H locs e_3 G => ?_)
  refine lv_aload_n hx hb dX0_beginOnBoth_11 rfl (lv_at hl 0 rfl) ?_
  refine lv_iload_n hx hb dX0_beginOnBoth_12 rfl (lv_at hl 2 rfl) ?_
  refine x_calli (As := [.int a1]) (rest := [.int r_1, .ref h0]) ⟨hx, hb, hml, hown, hts⟩ (kX0_keysIn l D h0 r0 cA σ_2 a1) (cwV 1 hts gX0_beginOnBoth_X0_keysIn rfl rfl rfl (by decide +kernel) ⟨Nat.le_of_ble_eq_true rfl, Nat.le_of_ble_eq_true rfl⟩) G rfl hl.1 rfl (Nat.le_of_ble_eq_true rfl) dX0_beginOnBoth_13 ⟨Nat.zero_le _, Nat.zero_le _⟩ (fun r_4 σ_5 H locs e_6 G => ?_)
  refine lv_iadd hx hb dX0_beginOnBoth_16 ?_
  refine g_calls (As := [.int (r_1 + r_4)]) (rest := [.ref h0]) ⟨hx, hb, hml, hown, hts⟩ (kX0_limitFor l (r_1 + r_4)) (va_cwS 1 hts gX0_beginOnBoth_X0_limitFor rfl rfl rfl (by decide +kernel) ⟨Nat.le_of_ble_eq_true rfl, Nat.le_of_ble_eq_true rfl⟩) G rfl hl.1 rfl (Nat.le_of_ble_eq_true rfl) dX0_beginOnBoth_17 ⟨Nat.zero_le _, Nat.zero_le _⟩ (fun r_7 H locs e_8 G => ?_)
  subst e_8
  refine g_put (C := RX0) (T := TX0) (N := 6) (ci := 0) (v := .int (x_limFor (r_1 + r_4))) (ty := .int) hx hb hts hin tyX0 tyX0_ok nmX0 hown G 0 rfl rfl 5 (by decide) (hts (.fieldLink RX0 99 "SkewMelds" "limit" "I") (by decide +kernel)) rfl rfl (by decide +kernel) rfl rfl (Nat.le_of_ble_eq_true rfl) (xw h0 r0 cA (x_sL σ_5 (x_limFor (r_1 + r_4)))) rfl dX0_beginOnBoth_20 (fun H locs G => ?_)
  exact g_vret (u := (x_sL σ_5 (x_limFor (r_1 + r_4)))) E G (by (simp only [x_beginOnBoth, e_3, e_6, ↓reduceIte]) <;> rfl) dX0_beginOnBoth_23
end
section
set_option maxHeartbeats 4000000 in
set_option maxRecDepth 100000 in
theorem kX0_insertCell (l : Launch) (D : va_G) (h0 r0 : Nat) (cA : ClassId) (σ : Sx) (a0 : Int32) (a1 : Int32) : gMv l yX0_insertCell wsX0_insertCell ({ frames := 3, cells := 0, slots := 0, locals := 68 }) D vwCl [(cA, .int)] [.ref h0, .int a0, .int a1] (xw h0 r0 cA) σ (fun σ' => x_insertCell σ a0 a1 = σ') := by
  refine gMv_of (cc := cX0_insertCell) (maxL := 6) (ret := none) (by decide) rfl (Nat.le_of_ble_eq_true rfl) ?_
  intro p e s m below meth c A ls E G hl
  obtain ⟨hx, hb, hml, hr, hlocks, hown, hts, -, -⟩ := id E
  have hin : ∀ w ∈ wsX00, w ∈ wsX0_insertCell := fun w h => List.mem_cons_of_mem _ (List.mem_append_right _ h)
  have hl : lv_has ls 6 [(0, .ref h0), (1, .int a0), (2, .int a1)] := hl
  refine lv_iload_n hx hb dX0_insertCell_0 rfl (lv_at hl 2 rfl) ?_
  refine lv_istore_n (lv' := [(3, .int a1), (0, .ref h0), (1, .int a0), (2, .int a1)]) hx hb dX0_insertCell_1 rfl hl (by decide) rfl (fun ls hl => ?_)
  refine lv_aload_n hx hb dX0_insertCell_2 rfl (lv_at hl 1 rfl) ?_
  refine lv_iload_n hx hb dX0_insertCell_3 rfl (lv_at hl 2 rfl) ?_
  refine x_calli (As := [.int a0]) (rest := []) ⟨hx, hb, hml, hown, hts⟩ (kX0_cutTwin l D h0 r0 cA σ a0) (cwV 1 hts gX0_insertCell_X0_cutTwin rfl rfl rfl (by decide +kernel) ⟨Nat.le_of_ble_eq_true rfl, Nat.le_of_ble_eq_true rfl⟩) G rfl hl.1 rfl (Nat.le_of_ble_eq_true rfl) dX0_insertCell_4 ⟨Nat.zero_le _, Nat.zero_le _⟩ (fun r_1 σ_2 H locs e_3 G => ?_)
  refine lv_istore (lv' := [(4, .int r_1), (3, .int a1), (0, .ref h0), (1, .int a0), (2, .int a1)]) hx hb dX0_insertCell_7 hl (by decide) rfl (fun ls hl => ?_)
  refine lv_iload hx hb dX0_insertCell_9 (lv_at hl 0 rfl) ?_
  refine lv_iconst (v := (-1)) hx hb dX0_insertCell_11 (by decide) ?_
  refine lv_icmp_eq (tgt := 43) hx hb dX0_insertCell_12 (by decide) (fun c_4 => ?_) (fun c_4 => ?_)
  · refine lv_iload_n hx hb dX0_insertCell_43 rfl (lv_at hl 3 rfl) ?_
    refine lv_aload_n hx hb dX0_insertCell_44 rfl (lv_at hl 2 rfl) ?_
    refine lv_sipush (v := 200) hx hb dX0_insertCell_45 (by decide) ?_
    refine lv_iload_n hx hb dX0_insertCell_48 rfl (lv_at hl 1 rfl) ?_
    refine lv_iadd hx hb dX0_insertCell_49 ?_
    refine x_calli (As := [.int (200 + a1)]) (rest := [.int a0]) ⟨hx, hb, hml, hown, hts⟩ (kX0_read l D h0 r0 cA σ_2 (200 + a1)) (cwV 1 hts gX0_insertCell_X0_read rfl rfl rfl (by decide +kernel) ⟨Nat.le_of_ble_eq_true rfl, Nat.le_of_ble_eq_true rfl⟩) G rfl hl.1 rfl (Nat.le_of_ble_eq_true rfl) dX0_insertCell_50 ⟨Nat.zero_le _, Nat.zero_le _⟩ (fun r_5 σ_6 H locs e_7 G => ?_)
    refine g_calls (As := [.int a0, .int r_5]) (rest := []) ⟨hx, hb, hml, hown, hts⟩ (kX0_topAt l a0 r_5) (va_cwS 2 hts gX0_insertCell_X0_topAt rfl rfl rfl (by decide +kernel) ⟨Nat.le_of_ble_eq_true rfl, Nat.le_of_ble_eq_true rfl⟩) G rfl hl.1 rfl (Nat.le_of_ble_eq_true rfl) dX0_insertCell_53 ⟨Nat.zero_le _, Nat.zero_le _⟩ (fun r_8 H locs e_9 G => ?_)
    subst e_9
    refine lv_topi (fun v_10 ev_10 => ?_)
    refine lv_istore (lv' := [(5, .int v_10), (4, .int r_1), (3, .int a1), (0, .ref h0), (1, .int a0), (2, .int a1)]) hx hb dX0_insertCell_56 hl (by decide) rfl (fun ls hl => ?_)
    refine lv_aload_n hx hb dX0_insertCell_58 rfl (lv_at hl 3 rfl) ?_
    refine lv_aload_n hx hb dX0_insertCell_59 rfl (lv_at hl 3 rfl) ?_
    refine lv_iload hx hb dX0_insertCell_60 (lv_at hl 0 rfl) ?_
    refine x_calli (As := [.int v_10]) (rest := [.ref h0]) ⟨hx, hb, hml, hown, hts⟩ (kX0_read l D h0 r0 cA σ_6 v_10) (cwV 1 hts gX0_insertCell_X0_read rfl rfl rfl (by decide +kernel) ⟨Nat.le_of_ble_eq_true rfl, Nat.le_of_ble_eq_true rfl⟩) G rfl hl.1 rfl (Nat.le_of_ble_eq_true rfl) dX0_insertCell_62 ⟨Nat.zero_le _, Nat.zero_le _⟩ (fun r_11 σ_12 H locs e_13 G => ?_)
    refine lv_iconst (v := (-1)) hx hb dX0_insertCell_65 (by decide) ?_
    refine lv_icmp_ne (tgt := 74) hx hb dX0_insertCell_66 (by decide) (fun c_14 => ?_) (fun c_14 => ?_)
    · refine lv_sipush (v := 1064) hx hb dX0_insertCell_74 (by decide) ?_
      refine lv_iload_n hx hb dX0_insertCell_77 rfl (lv_at hl 4 rfl) ?_
      refine lv_iadd hx hb dX0_insertCell_78 ?_
      refine lv_iload_n hx hb dX0_insertCell_79 rfl (lv_at hl 2 rfl) ?_
      refine x_callv (As := [.int (1064 + a0), .int a1]) (rest := []) ⟨hx, hb, hml, hown, hts⟩ (kX0_write l D h0 r0 cA σ_12 (1064 + a0) a1) (cwV 2 hts gX0_insertCell_X0_write rfl rfl rfl (by decide +kernel) ⟨Nat.le_of_ble_eq_true rfl, Nat.le_of_ble_eq_true rfl⟩) G rfl hl.1 rfl (Nat.le_of_ble_eq_true rfl) dX0_insertCell_80 ⟨Nat.zero_le _, Nat.zero_le _⟩ (fun σ_16 H locs e_17 G => ?_)
      exact g_vret (u := σ_16) E G (by subst ev_10; (simp only [x_insertCell, x_insTail, e_3, c_4, e_7, e_13, c_14, e_17, ↓reduceIte]) <;> rfl) dX0_insertCell_83
    · refine lv_iload hx hb dX0_insertCell_69 (lv_at hl 0 rfl) ?_
      refine lv_goto (tgt := 79) hx hb dX0_insertCell_71 (by decide) ?_
      refine lv_iload_n hx hb dX0_insertCell_79 rfl (lv_at hl 2 rfl) ?_
      refine x_callv (As := [.int v_10, .int a1]) (rest := []) ⟨hx, hb, hml, hown, hts⟩ (kX0_write l D h0 r0 cA σ_12 v_10 a1) (cwV 2 hts gX0_insertCell_X0_write rfl rfl rfl (by decide +kernel) ⟨Nat.le_of_ble_eq_true rfl, Nat.le_of_ble_eq_true rfl⟩) G rfl hl.1 rfl (Nat.le_of_ble_eq_true rfl) dX0_insertCell_80 ⟨Nat.zero_le _, Nat.zero_le _⟩ (fun σ_19 H locs e_20 G => ?_)
      exact g_vret (u := σ_19) E G (by subst ev_10; (simp only [x_insertCell, x_insTail, e_3, c_4, e_7, e_13, c_14, e_20, ↓reduceIte]) <;> rfl) dX0_insertCell_83
  · refine lv_aload_n hx hb dX0_insertCell_15 rfl (lv_at hl 2 rfl) ?_
    refine lv_iload hx hb dX0_insertCell_16 (lv_at hl 0 rfl) ?_
    refine lv_aload_n hx hb dX0_insertCell_18 rfl (lv_at hl 2 rfl) ?_
    refine lv_iload_n hx hb dX0_insertCell_19 rfl (lv_at hl 3 rfl) ?_
    refine lv_aload_n hx hb dX0_insertCell_20 rfl (lv_at hl 2 rfl) ?_
    refine lv_sipush (v := 200) hx hb dX0_insertCell_21 (by decide) ?_
    refine lv_iload hx hb dX0_insertCell_24 (lv_at hl 0 rfl) ?_
    refine lv_iadd hx hb dX0_insertCell_26 ?_
    refine x_calli (As := [.int (200 + r_1)]) (rest := [.int a0, .ref h0, .int r_1, .ref h0]) ⟨hx, hb, hml, hown, hts⟩ (kX0_read l D h0 r0 cA σ_2 (200 + r_1)) (cwV 1 hts gX0_insertCell_X0_read rfl rfl rfl (by decide +kernel) ⟨Nat.le_of_ble_eq_true rfl, Nat.le_of_ble_eq_true rfl⟩) G rfl hl.1 rfl (Nat.le_of_ble_eq_true rfl) dX0_insertCell_27 ⟨Nat.zero_le _, Nat.zero_le _⟩ (fun r_21 σ_22 H locs e_23 G => ?_)
    refine x_calli (As := [.int a0, .int r_21]) (rest := [.int r_1, .ref h0]) ⟨hx, hb, hml, hown, hts⟩ (kX0_cutTop l D h0 r0 cA σ_22 a0 r_21) (cwV 2 hts gX0_insertCell_X0_cutTop rfl rfl rfl (by decide +kernel) ⟨Nat.le_of_ble_eq_true rfl, Nat.le_of_ble_eq_true rfl⟩) G rfl hl.1 rfl (Nat.le_of_ble_eq_true rfl) dX0_insertCell_30 ⟨Nat.zero_le _, Nat.zero_le _⟩ (fun r_24 σ_25 H locs e_26 G => ?_)
    refine x_calli (As := [.int r_1, .int r_24]) (rest := []) ⟨hx, hb, hml, hown, hts⟩ (kX0_link l D h0 r0 cA σ_25 r_1 r_24) (cwV 2 hts gX0_insertCell_X0_link rfl rfl rfl (by decide +kernel) ⟨Nat.le_of_ble_eq_true rfl, Nat.le_of_ble_eq_true rfl⟩) G rfl hl.1 rfl (Nat.le_of_ble_eq_true rfl) dX0_insertCell_33 ⟨Nat.zero_le _, Nat.zero_le _⟩ (fun r_27 σ_28 H locs e_29 G => ?_)
    refine lv_istore_n (lv' := [(3, .int r_27), (4, .int r_1), (0, .ref h0), (1, .int a0), (2, .int a1)]) hx hb dX0_insertCell_36 rfl hl (by decide) rfl (fun ls hl => ?_)
    refine lv_aload_n hx hb dX0_insertCell_37 rfl (lv_at hl 2 rfl) ?_
    refine lv_iload_n hx hb dX0_insertCell_38 rfl (lv_at hl 0 rfl) ?_
    refine lv_iload_n hx hb dX0_insertCell_39 rfl (lv_at hl 4 rfl) ?_
    refine x_callv (As := [.int r_27, .int a1]) (rest := []) ⟨hx, hb, hml, hown, hts⟩ (kX0_hangKey l D h0 r0 cA σ_28 r_27 a1) (cwV 2 hts gX0_insertCell_X0_hangKey rfl rfl rfl (by decide +kernel) ⟨Nat.le_of_ble_eq_true rfl, Nat.le_of_ble_eq_true rfl⟩) G rfl hl.1 rfl (Nat.le_of_ble_eq_true rfl) dX0_insertCell_40 ⟨Nat.zero_le _, Nat.zero_le _⟩ (fun σ_31 H locs e_32 G => ?_)
    refine lv_iload_n hx hb dX0_insertCell_43 rfl (lv_at hl 3 rfl) ?_
    refine lv_aload_n hx hb dX0_insertCell_44 rfl (lv_at hl 2 rfl) ?_
    refine lv_sipush (v := 200) hx hb dX0_insertCell_45 (by decide) ?_
    refine lv_iload_n hx hb dX0_insertCell_48 rfl (lv_at hl 0 rfl) ?_
    refine lv_iadd hx hb dX0_insertCell_49 ?_
    refine x_calli (As := [.int (200 + r_27)]) (rest := [.int a0]) ⟨hx, hb, hml, hown, hts⟩ (kX0_read l D h0 r0 cA σ_31 (200 + r_27)) (cwV 1 hts gX0_insertCell_X0_read rfl rfl rfl (by decide +kernel) ⟨Nat.le_of_ble_eq_true rfl, Nat.le_of_ble_eq_true rfl⟩) G rfl hl.1 rfl (Nat.le_of_ble_eq_true rfl) dX0_insertCell_50 ⟨Nat.zero_le _, Nat.zero_le _⟩ (fun r_33 σ_34 H locs e_35 G => ?_)
    refine g_calls (As := [.int a0, .int r_33]) (rest := []) ⟨hx, hb, hml, hown, hts⟩ (kX0_topAt l a0 r_33) (va_cwS 2 hts gX0_insertCell_X0_topAt rfl rfl rfl (by decide +kernel) ⟨Nat.le_of_ble_eq_true rfl, Nat.le_of_ble_eq_true rfl⟩) G rfl hl.1 rfl (Nat.le_of_ble_eq_true rfl) dX0_insertCell_53 ⟨Nat.zero_le _, Nat.zero_le _⟩ (fun r_36 H locs e_37 G => ?_)
    subst e_37
    refine lv_topi (fun v_38 ev_38 => ?_)
    refine lv_istore (lv' := [(5, .int v_38), (3, .int r_27), (4, .int r_1), (0, .ref h0), (1, .int a0), (2, .int a1)]) hx hb dX0_insertCell_56 hl (by decide) rfl (fun ls hl => ?_)
    refine lv_aload_n hx hb dX0_insertCell_58 rfl (lv_at hl 3 rfl) ?_
    refine lv_aload_n hx hb dX0_insertCell_59 rfl (lv_at hl 3 rfl) ?_
    refine lv_iload hx hb dX0_insertCell_60 (lv_at hl 0 rfl) ?_
    refine x_calli (As := [.int v_38]) (rest := [.ref h0]) ⟨hx, hb, hml, hown, hts⟩ (kX0_read l D h0 r0 cA σ_34 v_38) (cwV 1 hts gX0_insertCell_X0_read rfl rfl rfl (by decide +kernel) ⟨Nat.le_of_ble_eq_true rfl, Nat.le_of_ble_eq_true rfl⟩) G rfl hl.1 rfl (Nat.le_of_ble_eq_true rfl) dX0_insertCell_62 ⟨Nat.zero_le _, Nat.zero_le _⟩ (fun r_39 σ_40 H locs e_41 G => ?_)
    refine lv_iconst (v := (-1)) hx hb dX0_insertCell_65 (by decide) ?_
    refine lv_icmp_ne (tgt := 74) hx hb dX0_insertCell_66 (by decide) (fun c_42 => ?_) (fun c_42 => ?_)
    · refine lv_sipush (v := 1064) hx hb dX0_insertCell_74 (by decide) ?_
      refine lv_iload_n hx hb dX0_insertCell_77 rfl (lv_at hl 4 rfl) ?_
      refine lv_iadd hx hb dX0_insertCell_78 ?_
      refine lv_iload_n hx hb dX0_insertCell_79 rfl (lv_at hl 1 rfl) ?_
      refine x_callv (As := [.int (1064 + a0), .int r_27]) (rest := []) ⟨hx, hb, hml, hown, hts⟩ (kX0_write l D h0 r0 cA σ_40 (1064 + a0) r_27) (cwV 2 hts gX0_insertCell_X0_write rfl rfl rfl (by decide +kernel) ⟨Nat.le_of_ble_eq_true rfl, Nat.le_of_ble_eq_true rfl⟩) G rfl hl.1 rfl (Nat.le_of_ble_eq_true rfl) dX0_insertCell_80 ⟨Nat.zero_le _, Nat.zero_le _⟩ (fun σ_44 H locs e_45 G => ?_)
      exact g_vret (u := σ_44) E G (by subst ev_38; (simp only [x_insertCell, x_insTail, e_3, c_4, e_23, e_26, e_29, e_32, e_35, e_41, c_42, e_45, ↓reduceIte]) <;> rfl) dX0_insertCell_83
    · refine lv_iload hx hb dX0_insertCell_69 (lv_at hl 0 rfl) ?_
      refine lv_goto (tgt := 79) hx hb dX0_insertCell_71 (by decide) ?_
      refine lv_iload_n hx hb dX0_insertCell_79 rfl (lv_at hl 1 rfl) ?_
      refine x_callv (As := [.int v_38, .int r_27]) (rest := []) ⟨hx, hb, hml, hown, hts⟩ (kX0_write l D h0 r0 cA σ_40 v_38 r_27) (cwV 2 hts gX0_insertCell_X0_write rfl rfl rfl (by decide +kernel) ⟨Nat.le_of_ble_eq_true rfl, Nat.le_of_ble_eq_true rfl⟩) G rfl hl.1 rfl (Nat.le_of_ble_eq_true rfl) dX0_insertCell_80 ⟨Nat.zero_le _, Nat.zero_le _⟩ (fun σ_47 H locs e_48 G => ?_)
      exact g_vret (u := σ_47) E G (by subst ev_38; (simp only [x_insertCell, x_insTail, e_3, c_4, e_23, e_26, e_29, e_32, e_35, e_41, c_42, e_48, ↓reduceIte]) <;> rfl) dX0_insertCell_83

set_option maxHeartbeats 4000000 in
set_option maxRecDepth 100000 in
theorem kX0_place (l : Launch) (D : va_G) (h0 r0 : Nat) (cA : ClassId) (σ : Sx) (a0 : Int32) (a1 : Int32) : gMv l yX0_place wsX0_place ({ frames := 3, cells := 0, slots := 0, locals := 68 }) D vwCl [(cA, .int)] [.ref h0, .int a0, .int a1] (xw h0 r0 cA) σ (fun σ' => x_place σ a0 a1 = σ') := by
  refine gMv_of (cc := cX0_place) (maxL := 6) (ret := none) (by decide) rfl (Nat.le_of_ble_eq_true rfl) ?_
  intro p e s m below meth c A ls E G hl
  obtain ⟨hx, hb, hml, hr, hlocks, hown, hts, -, -⟩ := id E
  have hin : ∀ w ∈ wsX00, w ∈ wsX0_place := fun w h => List.mem_cons_of_mem _ (List.mem_append_right _ h)
  have hl : lv_has ls 6 [(0, .ref h0), (1, .int a0), (2, .int a1)] := hl
  have loop : ∀ (n : Nat) (σ1 : Sx) (t : Int32) (k : Int32) (H : Heap) (locs : List Loc) (ls : Array Slot), ((8 : Int32).toInt - k.toInt).toNat < n → x_placeL a0 n σ1 t k = x_place σ a0 a1 → gG D vwCl [(cA, .int)] A s (xw h0 r0 cA σ1) H locs → lv_has ls 6 [(0, .ref h0), (1, .int a0), (2, .int a1), (3, .int t), (4, .int k)] → W p l e ({ frames := 3, cells := 0, slots := 0, locals := 68 }) s m [.ref h0, .int a0, .int a1].toArray below meth c H locs 0 0 (MQ below (va_Qv (fun σ' => x_place σ a0 a1 = σ') (gB D vwCl [(cA, .int)] A (xw h0 r0 cA)) A) [.ref h0, .int a0, .int a1].toArray s 0 0 A) (F0 m 19 ls []) := by
    intro n
    induction n with
    | zero => intro σ1 t k H locs ls hm; exact absurd hm (Nat.not_lt_zero _)
    | succ n ih =>
      intro σ1 t k H locs ls hm hinv G hl
      refine lv_iload hx hb dX0_place_19 (lv_at hl 4 rfl) ?_
      refine lv_bipush (v := 8) hx hb dX0_place_21 (by decide) ?_
      refine lv_icmp_ge (tgt := 67) hx hb dX0_place_23 (by decide) (fun c_1 => ?_) (fun c_1 => ?_)
      · exact g_vret (u := σ1) E G (by rw [← hinv]; (simp only [x_placeL, c_1, ↓reduceIte]) <;> rfl) dX0_place_67
      · refine lv_aload_n hx hb dX0_place_26 rfl (lv_at hl 0 rfl) ?_
        refine lv_iload_n hx hb dX0_place_27 rfl (lv_at hl 1 rfl) ?_
        refine lv_iload hx hb dX0_place_28 (lv_at hl 4 rfl) ?_
        refine x_calli (As := [.int a0, .int k]) (rest := []) ⟨hx, hb, hml, hown, hts⟩ (kX0_cutTop l D h0 r0 cA σ1 a0 k) (cwV 2 hts gX0_place_X0_cutTop rfl rfl rfl (by decide +kernel) ⟨Nat.le_of_ble_eq_true rfl, Nat.le_of_ble_eq_true rfl⟩) G rfl hl.1 rfl (Nat.le_of_ble_eq_true rfl) dX0_place_30 ⟨Nat.zero_le _, Nat.zero_le _⟩ (fun r_2 σ_3 H locs e_4 G => ?_)
        refine lv_istore (lv' := [(5, .int r_2), (0, .ref h0), (1, .int a0), (2, .int a1), (3, .int t), (4, .int k)]) hx hb dX0_place_33 hl (by decide) rfl (fun ls hl => ?_)
        refine lv_iload hx hb dX0_place_35 (lv_at hl 0 rfl) ?_
        refine lv_iconst (v := (-1)) hx hb dX0_place_37 (by decide) ?_
        refine lv_icmp_ne (tgt := 53) hx hb dX0_place_38 (by decide) (fun c_5 => ?_) (fun c_5 => ?_)
        · refine lv_aload_n hx hb dX0_place_53 rfl (lv_at hl 1 rfl) ?_
          refine lv_iload_n hx hb dX0_place_54 rfl (lv_at hl 4 rfl) ?_
          refine lv_iload hx hb dX0_place_55 (lv_at hl 0 rfl) ?_
          refine x_calli (As := [.int t, .int r_2]) (rest := []) ⟨hx, hb, hml, hown, hts⟩ (kX0_link l D h0 r0 cA σ_3 t r_2) (cwV 2 hts gX0_place_X0_link rfl rfl rfl (by decide +kernel) ⟨Nat.le_of_ble_eq_true rfl, Nat.le_of_ble_eq_true rfl⟩) G rfl hl.1 rfl (Nat.le_of_ble_eq_true rfl) dX0_place_57 ⟨Nat.zero_le _, Nat.zero_le _⟩ (fun r_6 σ_7 H locs e_8 G => ?_)
          refine lv_istore_n (lv' := [(3, .int r_6), (5, .int r_2), (0, .ref h0), (1, .int a0), (2, .int a1), (4, .int k)]) hx hb dX0_place_60 rfl hl (by decide) rfl (fun ls hl => ?_)
          obtain ⟨v_9, ev_9⟩ : ∃ y : Int32, y = k + 1 := ⟨_, rfl⟩
          refine lv_iinc (v := v_9) (lv' := [(4, .int v_9), (3, .int r_6), (5, .int r_2), (0, .ref h0), (1, .int a0), (2, .int a1)]) hx hb dX0_place_61 hl (k := 5) rfl (by rw [ev_9]; rfl) (by decide) rfl (fun ls hl => ?_)
          refine lv_goto (tgt := 19) hx hb dX0_place_64 (by decide) ?_
          exact ih σ_7 r_6 v_9 _ _ _ (by subst ev_9; exact Nat.lt_of_lt_of_le (x_meas c_1) (Nat.le_of_lt_succ hm)) (by subst ev_9; rw [← hinv]; (simp only [x_placeL, c_1, e_4, c_5, e_8, ↓reduceIte]) <;> rfl) G (lv_sub hl [3, 4, 5, 1, 0] rfl)
        · refine lv_aload_n hx hb dX0_place_41 rfl (lv_at hl 1 rfl) ?_
          refine lv_iload_n hx hb dX0_place_42 rfl (lv_at hl 2 rfl) ?_
          refine lv_iload hx hb dX0_place_43 (lv_at hl 5 rfl) ?_
          refine g_calls (As := [.int a0, .int k]) (rest := [.ref h0]) ⟨hx, hb, hml, hown, hts⟩ (kX0_topAt l a0 k) (va_cwS 2 hts gX0_place_X0_topAt rfl rfl rfl (by decide +kernel) ⟨Nat.le_of_ble_eq_true rfl, Nat.le_of_ble_eq_true rfl⟩) G rfl hl.1 rfl (Nat.le_of_ble_eq_true rfl) dX0_place_45 ⟨Nat.zero_le _, Nat.zero_le _⟩ (fun r_10 H locs e_11 G => ?_)
          subst e_11
          refine lv_iload_n hx hb dX0_place_48 rfl (lv_at hl 4 rfl) ?_
          refine x_callv (As := [.int (x_topAt a0 k), .int t]) (rest := []) ⟨hx, hb, hml, hown, hts⟩ (kX0_write l D h0 r0 cA σ_3 (x_topAt a0 k) t) (cwV 2 hts gX0_place_X0_write rfl rfl rfl (by decide +kernel) ⟨Nat.le_of_ble_eq_true rfl, Nat.le_of_ble_eq_true rfl⟩) G rfl hl.1 rfl (Nat.le_of_ble_eq_true rfl) dX0_place_49 ⟨Nat.zero_le _, Nat.zero_le _⟩ (fun σ_13 H locs e_14 G => ?_)
          exact g_vret (u := σ_13) E G (by rw [← hinv]; (simp only [x_placeL, c_1, e_4, c_5, e_14, ↓reduceIte]) <;> rfl) dX0_place_52
  refine lv_iload_n hx hb dX0_place_0 rfl (lv_at hl 2 rfl) ?_
  refine lv_iconst (v := (-1)) hx hb dX0_place_1 (by decide) ?_
  refine lv_icmp_ne (tgt := 6) hx hb dX0_place_2 (by decide) (fun c_15 => ?_) (fun c_15 => ?_)
  · refine lv_iload_n hx hb dX0_place_6 rfl (lv_at hl 2 rfl) ?_
    refine lv_istore_n (lv' := [(3, .int a1), (0, .ref h0), (1, .int a0), (2, .int a1)]) hx hb dX0_place_7 rfl hl (by decide) rfl (fun ls hl => ?_)
    refine lv_aload_n hx hb dX0_place_8 rfl (lv_at hl 1 rfl) ?_
    refine lv_sipush (v := 200) hx hb dX0_place_9 (by decide) ?_
    refine lv_iload_n hx hb dX0_place_12 rfl (lv_at hl 3 rfl) ?_
    refine lv_iadd hx hb dX0_place_13 ?_
    refine x_calli (As := [.int (200 + a1)]) (rest := []) ⟨hx, hb, hml, hown, hts⟩ (kX0_read l D h0 r0 cA σ (200 + a1)) (cwV 1 hts gX0_place_X0_read rfl rfl rfl (by decide +kernel) ⟨Nat.le_of_ble_eq_true rfl, Nat.le_of_ble_eq_true rfl⟩) G rfl hl.1 rfl (Nat.le_of_ble_eq_true rfl) dX0_place_14 ⟨Nat.zero_le _, Nat.zero_le _⟩ (fun r_16 σ_17 H locs e_18 G => ?_)
    refine lv_istore (lv' := [(4, .int r_16), (3, .int a1), (0, .ref h0), (1, .int a0), (2, .int a1)]) hx hb dX0_place_17 hl (by decide) rfl (fun ls hl => ?_)
    exact loop ((8 - r_16.toInt).toNat + 1) σ_17 a1 r_16 _ _ _ (Nat.lt_succ_self _) (by (simp only [x_place, c_15, e_18, ↓reduceIte]) <;> rfl) G (lv_sub hl [2, 3, 4, 1, 0] rfl)
  · exact g_vret (u := σ) E G (by (simp only [x_place, c_15, ↓reduceIte]) <;> rfl) dX0_place_5

set_option maxHeartbeats 4000000 in
set_option maxRecDepth 100000 in
theorem kX0_placeChildren (l : Launch) (D : va_G) (h0 r0 : Nat) (cA : ClassId) (σ : Sx) (a0 : Int32) (a1 : Int32) : gMv l yX0_placeChildren wsX0_placeChildren ({ frames := 4, cells := 0, slots := 0, locals := 93 }) D vwCl [(cA, .int)] [.ref h0, .int a0, .int a1] (xw h0 r0 cA) σ (fun σ' => x_placeChildren σ a0 a1 = σ') := by
  refine gMv_of (cc := cX0_placeChildren) (maxL := 6) (ret := none) (by decide) rfl (Nat.le_of_ble_eq_true rfl) ?_
  intro p e s m below meth c A ls E G hl
  obtain ⟨hx, hb, hml, hr, hlocks, hown, hts, -, -⟩ := id E
  have hin : ∀ w ∈ wsX00, w ∈ wsX0_placeChildren := fun w h => List.mem_cons_of_mem _ (List.mem_append_right _ h)
  have hl : lv_has ls 6 [(0, .ref h0), (1, .int a0), (2, .int a1)] := hl
  have loop : ∀ (n : Nat) (σ1 : Sx) (t : Int32) (k : Int32) (H : Heap) (locs : List Loc) (ls : Array Slot), ((200 : Int32).toInt - k.toInt).toNat < n → y_pcL a0 n σ1 t k = x_placeChildren σ a0 a1 → gG D vwCl [(cA, .int)] A s (xw h0 r0 cA σ1) H locs → lv_has ls 6 [(0, .ref h0), (1, .int a0), (2, .int a1), (3, .int t), (4, .int k)] → W p l e ({ frames := 4, cells := 0, slots := 0, locals := 93 }) s m [.ref h0, .int a0, .int a1].toArray below meth c H locs 0 0 (MQ below (va_Qv (fun σ' => x_placeChildren σ a0 a1 = σ') (gB D vwCl [(cA, .int)] A (xw h0 r0 cA)) A) [.ref h0, .int a0, .int a1].toArray s 0 0 A) (F0 m 13 ls []) := by
    intro n
    induction n with
    | zero => intro σ1 t k H locs ls hm; exact absurd hm (Nat.not_lt_zero _)
    | succ n ih =>
      intro σ1 t k H locs ls hm hinv G hl
      refine lv_iload hx hb dX0_placeChildren_13 (lv_at hl 4 rfl) ?_
      refine lv_sipush (v := 200) hx hb dX0_placeChildren_15 (by decide) ?_
      refine lv_icmp_ge (tgt := 52) hx hb dX0_placeChildren_18 (by decide) (fun c_1 => ?_) (fun c_1 => ?_)
      · exact g_vret (u := σ1) E G (by rw [← hinv]; (simp only [y_pcL, c_1, ↓reduceIte]) <;> rfl) dX0_placeChildren_52
      · refine lv_iload_n hx hb dX0_placeChildren_21 rfl (lv_at hl 3 rfl) ?_
        refine lv_iconst (v := (-1)) hx hb dX0_placeChildren_22 (by decide) ?_
        refine lv_icmp_eq (tgt := 52) hx hb dX0_placeChildren_23 (by decide) (fun c_2 => ?_) (fun c_2 => ?_)
        · exact g_vret (u := σ1) E G (by rw [← hinv]; (simp only [y_pcL, c_1, c_2, ↓reduceIte]) <;> rfl) dX0_placeChildren_52
        · refine lv_aload_n hx hb dX0_placeChildren_26 rfl (lv_at hl 0 rfl) ?_
          refine lv_sipush (v := 600) hx hb dX0_placeChildren_27 (by decide) ?_
          refine lv_iload_n hx hb dX0_placeChildren_30 rfl (lv_at hl 3 rfl) ?_
          refine lv_iadd hx hb dX0_placeChildren_31 ?_
          refine x_calli (As := [.int (600 + t)]) (rest := []) ⟨hx, hb, hml, hown, hts⟩ (kX0_read l D h0 r0 cA σ1 (600 + t)) (cwV 1 hts gX0_placeChildren_X0_read rfl rfl rfl (by decide +kernel) ⟨Nat.le_of_ble_eq_true rfl, Nat.le_of_ble_eq_true rfl⟩) G rfl hl.1 rfl (Nat.le_of_ble_eq_true rfl) dX0_placeChildren_32 ⟨Nat.zero_le _, Nat.zero_le _⟩ (fun r_3 σ_4 H locs e_5 G => ?_)
          refine lv_istore (lv' := [(5, .int r_3), (0, .ref h0), (1, .int a0), (2, .int a1), (3, .int t), (4, .int k)]) hx hb dX0_placeChildren_35 hl (by decide) rfl (fun ls hl => ?_)
          refine lv_aload_n hx hb dX0_placeChildren_37 rfl (lv_at hl 1 rfl) ?_
          refine lv_iload_n hx hb dX0_placeChildren_38 rfl (lv_at hl 2 rfl) ?_
          refine lv_iload_n hx hb dX0_placeChildren_39 rfl (lv_at hl 4 rfl) ?_
          refine x_callv (As := [.int a0, .int t]) (rest := []) ⟨hx, hb, hml, hown, hts⟩ (kX0_place l D h0 r0 cA σ_4 a0 t) (cwV 2 hts gX0_placeChildren_X0_place rfl rfl rfl (by decide +kernel) ⟨Nat.le_of_ble_eq_true rfl, Nat.le_of_ble_eq_true rfl⟩) G rfl hl.1 rfl (Nat.le_of_ble_eq_true rfl) dX0_placeChildren_40 ⟨Nat.zero_le _, Nat.zero_le _⟩ (fun σ_7 H locs e_8 G => ?_)
          refine lv_iload hx hb dX0_placeChildren_43 (lv_at hl 0 rfl) ?_
          refine lv_istore_n (lv' := [(3, .int r_3), (5, .int r_3), (0, .ref h0), (1, .int a0), (2, .int a1), (4, .int k)]) hx hb dX0_placeChildren_45 rfl hl (by decide) rfl (fun ls hl => ?_)
          obtain ⟨v_9, ev_9⟩ : ∃ y : Int32, y = k + 1 := ⟨_, rfl⟩
          refine lv_iinc (v := v_9) (lv' := [(4, .int v_9), (3, .int r_3), (5, .int r_3), (0, .ref h0), (1, .int a0), (2, .int a1)]) hx hb dX0_placeChildren_46 hl (k := 5) rfl (by rw [ev_9]; rfl) (by decide) rfl (fun ls hl => ?_)
          refine lv_goto (tgt := 13) hx hb dX0_placeChildren_49 (by decide) ?_
          exact ih σ_7 r_3 v_9 _ _ _ (by subst ev_9; exact Nat.lt_of_lt_of_le (x_meas c_1) (Nat.le_of_lt_succ hm)) (by subst ev_9; rw [← hinv]; (simp only [y_pcL, c_1, c_2, e_5, e_8, ↓reduceIte]) <;> rfl) G (lv_sub hl [3, 4, 5, 1, 0] rfl)
  refine lv_aload_n hx hb dX0_placeChildren_0 rfl (lv_at hl 0 rfl) ?_
  refine lv_sipush (v := 400) hx hb dX0_placeChildren_1 (by decide) ?_
  refine lv_iload_n hx hb dX0_placeChildren_4 rfl (lv_at hl 2 rfl) ?_
  refine lv_iadd hx hb dX0_placeChildren_5 ?_
  refine x_calli (As := [.int (400 + a1)]) (rest := []) ⟨hx, hb, hml, hown, hts⟩ (kX0_read l D h0 r0 cA σ (400 + a1)) (cwV 1 hts gX0_placeChildren_X0_read rfl rfl rfl (by decide +kernel) ⟨Nat.le_of_ble_eq_true rfl, Nat.le_of_ble_eq_true rfl⟩) G rfl hl.1 rfl (Nat.le_of_ble_eq_true rfl) dX0_placeChildren_6 ⟨Nat.zero_le _, Nat.zero_le _⟩ (fun r_10 σ_11 H locs e_12 G => ?_)
  refine lv_istore_n (lv' := [(3, .int r_10), (0, .ref h0), (1, .int a0), (2, .int a1)]) hx hb dX0_placeChildren_9 rfl hl (by decide) rfl (fun ls hl => ?_)
  refine lv_iconst (v := 0) hx hb dX0_placeChildren_10 (by decide) ?_
  refine lv_istore (lv' := [(4, .int 0), (3, .int r_10), (0, .ref h0), (1, .int a0), (2, .int a1)]) hx hb dX0_placeChildren_11 hl (by decide) rfl (fun ls hl => ?_)
  exact loop (201) σ_11 r_10 0 _ _ _ (by decide) (by (simp only [x_placeChildren, e_12, ↓reduceIte]) <;> rfl) G (lv_sub hl [2, 3, 4, 1, 0] rfl)

set_option maxHeartbeats 4000000 in
set_option maxRecDepth 100000 in
theorem kX0_leastRoot (l : Launch) (D : va_G) (h0 r0 : Nat) (cA : ClassId) (σ : Sx) (a0 : Int32) : gMi l yX0_leastRoot wsX0_leastRoot ({ frames := 2, cells := 0, slots := 0, locals := 43 }) D vwCl [(cA, .int)] [.ref h0, .int a0] (xw h0 r0 cA) σ (fun r σ' => x_leastRoot σ a0 = (r, σ')) := by
  refine gMi_of (cc := cX0_leastRoot) (maxL := 4) (ret := (some .int)) (by decide) rfl (Nat.le_of_ble_eq_true rfl) ?_
  intro p e s m below meth c A ls E G hl
  obtain ⟨hx, hb, hml, hr, hlocks, hown, hts, -, -⟩ := id E
  have hin : ∀ w ∈ wsX00, w ∈ wsX0_leastRoot := fun w h => List.mem_cons_of_mem _ (List.mem_append_right _ h)
  have hl : lv_has ls 4 [(0, .ref h0), (1, .int a0)] := hl
  have loop : ∀ (n : Nat) (σ1 : Sx) (t : Int32) (k : Int32) (H : Heap) (locs : List Loc) (ls : Array Slot), ((8 : Int32).toInt - k.toInt).toNat < n → y_lrL a0 n σ1 t k = x_leastRoot σ a0 → gG D vwCl [(cA, .int)] A s (xw h0 r0 cA σ1) H locs → lv_has ls 4 [(0, .ref h0), (1, .int a0), (2, .int t), (3, .int k)] → W p l e ({ frames := 2, cells := 0, slots := 0, locals := 43 }) s m [.ref h0, .int a0].toArray below meth c H locs 0 0 (MQ below (va_Qi (fun r σ' => x_leastRoot σ a0 = (r, σ')) (gB D vwCl [(cA, .int)] A (xw h0 r0 cA)) A) [.ref h0, .int a0].toArray s 0 0 A) (F0 m 22 ls []) := by
    intro n
    induction n with
    | zero => intro σ1 t k H locs ls hm; exact absurd hm (Nat.not_lt_zero _)
    | succ n ih =>
      intro σ1 t k H locs ls hm hinv G hl
      refine lv_iload_n hx hb dX0_leastRoot_22 rfl (lv_at hl 3 rfl) ?_
      refine lv_bipush (v := 8) hx hb dX0_leastRoot_23 (by decide) ?_
      refine lv_icmp_ge (tgt := 49) hx hb dX0_leastRoot_25 (by decide) (fun c_1 => ?_) (fun c_1 => ?_)
      · refine lv_iload_n hx hb dX0_leastRoot_49 rfl (lv_at hl 2 rfl) ?_
        exact g_iret (u := σ1) E G (by rw [← hinv]; (simp only [y_lrL, c_1, ↓reduceIte]) <;> rfl) dX0_leastRoot_50
      · refine lv_aload_n hx hb dX0_leastRoot_28 rfl (lv_at hl 0 rfl) ?_
        refine lv_iload_n hx hb dX0_leastRoot_29 rfl (lv_at hl 2 rfl) ?_
        refine lv_aload_n hx hb dX0_leastRoot_30 rfl (lv_at hl 0 rfl) ?_
        refine lv_iload_n hx hb dX0_leastRoot_31 rfl (lv_at hl 1 rfl) ?_
        refine lv_iload_n hx hb dX0_leastRoot_32 rfl (lv_at hl 3 rfl) ?_
        refine g_calls (As := [.int a0, .int k]) (rest := [.ref h0, .int t, .ref h0]) ⟨hx, hb, hml, hown, hts⟩ (kX0_topAt l a0 k) (va_cwS 2 hts gX0_leastRoot_X0_topAt rfl rfl rfl (by decide +kernel) ⟨Nat.le_of_ble_eq_true rfl, Nat.le_of_ble_eq_true rfl⟩) G rfl hl.1 rfl (Nat.le_of_ble_eq_true rfl) dX0_leastRoot_33 ⟨Nat.zero_le _, Nat.zero_le _⟩ (fun r_2 H locs e_3 G => ?_)
        subst e_3
        refine x_calli (As := [.int (x_topAt a0 k)]) (rest := [.int t, .ref h0]) ⟨hx, hb, hml, hown, hts⟩ (kX0_read l D h0 r0 cA σ1 (x_topAt a0 k)) (cwV 1 hts gX0_leastRoot_X0_read rfl rfl rfl (by decide +kernel) ⟨Nat.le_of_ble_eq_true rfl, Nat.le_of_ble_eq_true rfl⟩) G rfl hl.1 rfl (Nat.le_of_ble_eq_true rfl) dX0_leastRoot_36 ⟨Nat.zero_le _, Nat.zero_le _⟩ (fun r_4 σ_5 H locs e_6 G => ?_)
        refine x_calli (As := [.int t, .int r_4]) (rest := []) ⟨hx, hb, hml, hown, hts⟩ (kX0_lesserRoot l D h0 r0 cA σ_5 t r_4) (cwV 2 hts gX0_leastRoot_X0_lesserRoot rfl rfl rfl (by decide +kernel) ⟨Nat.le_of_ble_eq_true rfl, Nat.le_of_ble_eq_true rfl⟩) G rfl hl.1 rfl (Nat.le_of_ble_eq_true rfl) dX0_leastRoot_39 ⟨Nat.zero_le _, Nat.zero_le _⟩ (fun r_7 σ_8 H locs e_9 G => ?_)
        refine lv_istore_n (lv' := [(2, .int r_7), (0, .ref h0), (1, .int a0), (3, .int k)]) hx hb dX0_leastRoot_42 rfl hl (by decide) rfl (fun ls hl => ?_)
        obtain ⟨v_10, ev_10⟩ : ∃ y : Int32, y = k + 1 := ⟨_, rfl⟩
        refine lv_iinc (v := v_10) (lv' := [(3, .int v_10), (2, .int r_7), (0, .ref h0), (1, .int a0)]) hx hb dX0_leastRoot_43 hl (k := 3) rfl (by rw [ev_10]; rfl) (by decide) rfl (fun ls hl => ?_)
        refine lv_goto (tgt := 22) hx hb dX0_leastRoot_46 (by decide) ?_
        exact ih σ_8 r_7 v_10 _ _ _ (by subst ev_10; exact Nat.lt_of_lt_of_le (x_meas c_1) (Nat.le_of_lt_succ hm)) (by subst ev_10; rw [← hinv]; (simp only [y_lrL, c_1, e_6, e_9, ↓reduceIte]) <;> rfl) G (lv_sub hl [2, 3, 1, 0] rfl)
  refine lv_aload_n hx hb dX0_leastRoot_0 rfl (lv_at hl 0 rfl) ?_
  refine lv_iload_n hx hb dX0_leastRoot_1 rfl (lv_at hl 1 rfl) ?_
  refine x_calli (As := [.int a0]) (rest := []) ⟨hx, hb, hml, hown, hts⟩ (kX0_exists l D h0 r0 cA σ a0) (cwV 1 hts gX0_leastRoot_X0_exists rfl rfl rfl (by decide +kernel) ⟨Nat.le_of_ble_eq_true rfl, Nat.le_of_ble_eq_true rfl⟩) G rfl hl.1 rfl (Nat.le_of_ble_eq_true rfl) dX0_leastRoot_2 ⟨Nat.zero_le _, Nat.zero_le _⟩ (fun r_11 σ_12 H locs e_13 G => ?_)
  obtain ⟨rfl, rfl⟩ := e_13
  refine lv_if_ne (tgt := 10) hx hb dX0_leastRoot_5 (by decide) (fun c_14 => ?_) (fun c_14 => ?_)
  · refine lv_aload_n hx hb dX0_leastRoot_10 rfl (lv_at hl 0 rfl) ?_
    refine lv_sipush (v := 1064) hx hb dX0_leastRoot_11 (by decide) ?_
    refine lv_iload_n hx hb dX0_leastRoot_14 rfl (lv_at hl 1 rfl) ?_
    refine lv_iadd hx hb dX0_leastRoot_15 ?_
    refine x_calli (As := [.int (1064 + a0)]) (rest := []) ⟨hx, hb, hml, hown, hts⟩ (kX0_read l D h0 r0 cA σ (1064 + a0)) (cwV 1 hts gX0_leastRoot_X0_read rfl rfl rfl (by decide +kernel) ⟨Nat.le_of_ble_eq_true rfl, Nat.le_of_ble_eq_true rfl⟩) G rfl hl.1 rfl (Nat.le_of_ble_eq_true rfl) dX0_leastRoot_16 ⟨Nat.zero_le _, Nat.zero_le _⟩ (fun r_15 σ_16 H locs e_17 G => ?_)
    refine lv_istore_n (lv' := [(2, .int r_15), (0, .ref h0), (1, .int a0)]) hx hb dX0_leastRoot_19 rfl hl (by decide) rfl (fun ls hl => ?_)
    refine lv_iconst (v := 0) hx hb dX0_leastRoot_20 (by decide) ?_
    refine lv_istore_n (lv' := [(3, .int 0), (2, .int r_15), (0, .ref h0), (1, .int a0)]) hx hb dX0_leastRoot_21 rfl hl (by decide) rfl (fun ls hl => ?_)
    exact loop (9) σ_16 r_15 0 _ _ _ (by decide) (by (simp only [x_leastRoot, c_14, e_17, ↓reduceIte]) <;> rfl) G (lv_sub hl [2, 3, 1, 0] rfl)
  · refine lv_iconst (v := (-1)) hx hb dX0_leastRoot_8 (by decide) ?_
    exact g_iret (u := σ) E G (by (simp only [x_leastRoot, c_14, ↓reduceIte]) <;> rfl) dX0_leastRoot_9

set_option maxHeartbeats 4000000 in
set_option maxRecDepth 100000 in
theorem kX0_cutRoot (l : Launch) (D : va_G) (h0 r0 : Nat) (cA : ClassId) (σ : Sx) (a0 : Int32) (a1 : Int32) : gMv l yX0_cutRoot wsX0_cutRoot ({ frames := 4, cells := 0, slots := 0, locals := 93 }) D vwCl [(cA, .int)] [.ref h0, .int a0, .int a1] (xw h0 r0 cA) σ (fun σ' => x_cutRoot σ a0 a1 = σ') := by
  refine gMv_of (cc := cX0_cutRoot) (maxL := 4) (ret := none) (by decide) rfl (Nat.le_of_ble_eq_true rfl) ?_
  intro p e s m below meth c A ls E G hl
  obtain ⟨hx, hb, hml, hr, hlocks, hown, hts, -, -⟩ := id E
  have hin : ∀ w ∈ wsX00, w ∈ wsX0_cutRoot := fun w h => List.mem_cons_of_mem _ (List.mem_append_right _ h)
  have hl : lv_has ls 4 [(0, .ref h0), (1, .int a0), (2, .int a1)] := hl
  refine lv_aload_n hx hb dX0_cutRoot_0 rfl (lv_at hl 0 rfl) ?_
  refine lv_iload_n hx hb dX0_cutRoot_1 rfl (lv_at hl 1 rfl) ?_
  refine x_calli (As := [.int a0]) (rest := []) ⟨hx, hb, hml, hown, hts⟩ (kX0_cutTwin l D h0 r0 cA σ a0) (cwV 1 hts gX0_cutRoot_X0_cutTwin rfl rfl rfl (by decide +kernel) ⟨Nat.le_of_ble_eq_true rfl, Nat.le_of_ble_eq_true rfl⟩) G rfl hl.1 rfl (Nat.le_of_ble_eq_true rfl) dX0_cutRoot_2 ⟨Nat.zero_le _, Nat.zero_le _⟩ (fun r_1 σ_2 H locs e_3 G => ?_)
  refine lv_istore_n (lv' := [(3, .int r_1), (0, .ref h0), (1, .int a0), (2, .int a1)]) hx hb dX0_cutRoot_5 rfl hl (by decide) rfl (fun ls hl => ?_)
  refine lv_iload_n hx hb dX0_cutRoot_6 rfl (lv_at hl 0 rfl) ?_
  refine lv_iload_n hx hb dX0_cutRoot_7 rfl (lv_at hl 3 rfl) ?_
  refine lv_icmp_eq (tgt := 32) hx hb dX0_cutRoot_8 (by decide) (fun c_4 => ?_) (fun c_4 => ?_)
  · exact g_vret (u := σ_2) E G (by (simp only [x_cutRoot, e_3, if_pos c_4, ↓reduceIte]) <;> rfl) dX0_cutRoot_32
  · refine lv_aload_n hx hb dX0_cutRoot_11 rfl (lv_at hl 1 rfl) ?_
    refine lv_iload_n hx hb dX0_cutRoot_12 rfl (lv_at hl 2 rfl) ?_
    refine lv_aload_n hx hb dX0_cutRoot_13 rfl (lv_at hl 1 rfl) ?_
    refine lv_sipush (v := 200) hx hb dX0_cutRoot_14 (by decide) ?_
    refine lv_iload_n hx hb dX0_cutRoot_17 rfl (lv_at hl 3 rfl) ?_
    refine lv_iadd hx hb dX0_cutRoot_18 ?_
    refine x_calli (As := [.int (200 + a1)]) (rest := [.int a0, .ref h0]) ⟨hx, hb, hml, hown, hts⟩ (kX0_read l D h0 r0 cA σ_2 (200 + a1)) (cwV 1 hts gX0_cutRoot_X0_read rfl rfl rfl (by decide +kernel) ⟨Nat.le_of_ble_eq_true rfl, Nat.le_of_ble_eq_true rfl⟩) G rfl hl.1 rfl (Nat.le_of_ble_eq_true rfl) dX0_cutRoot_19 ⟨Nat.zero_le _, Nat.zero_le _⟩ (fun r_5 σ_6 H locs e_7 G => ?_)
    refine x_calli (As := [.int a0, .int r_5]) (rest := []) ⟨hx, hb, hml, hown, hts⟩ (kX0_cutTop l D h0 r0 cA σ_6 a0 r_5) (cwV 2 hts gX0_cutRoot_X0_cutTop rfl rfl rfl (by decide +kernel) ⟨Nat.le_of_ble_eq_true rfl, Nat.le_of_ble_eq_true rfl⟩) G rfl hl.1 rfl (Nat.le_of_ble_eq_true rfl) dX0_cutRoot_22 ⟨Nat.zero_le _, Nat.zero_le _⟩ (fun r_8 σ_9 H locs e_10 G => ?_)
    refine lv_pop hx hb dX0_cutRoot_25 rfl ?_
    refine lv_aload_n hx hb dX0_cutRoot_26 rfl (lv_at hl 1 rfl) ?_
    refine lv_iload_n hx hb dX0_cutRoot_27 rfl (lv_at hl 2 rfl) ?_
    refine lv_iload_n hx hb dX0_cutRoot_28 rfl (lv_at hl 0 rfl) ?_
    refine x_callv (As := [.int a0, .int r_1]) (rest := []) ⟨hx, hb, hml, hown, hts⟩ (kX0_place l D h0 r0 cA σ_9 a0 r_1) (cwV 2 hts gX0_cutRoot_X0_place rfl rfl rfl (by decide +kernel) ⟨Nat.le_of_ble_eq_true rfl, Nat.le_of_ble_eq_true rfl⟩) G rfl hl.1 rfl (Nat.le_of_ble_eq_true rfl) dX0_cutRoot_29 ⟨Nat.zero_le _, Nat.zero_le _⟩ (fun σ_12 H locs e_13 G => ?_)
    exact g_vret (u := σ_12) E G (by (simp only [x_cutRoot, e_3, c_4, e_7, e_10, e_13, ↓reduceIte]) <;> rfl) dX0_cutRoot_32
end
section
set_option maxHeartbeats 4000000 in
set_option maxRecDepth 100000 in
theorem kX0_listChain (l : Launch) (D : va_G) (h0 r0 : Nat) (cA : ClassId) (σ : Sx) (a0 : Int32) (a1 : Int32) (a2 : Int32) : gMi l yX0_listChain wsX0_listChain ({ frames := 1, cells := 0, slots := 0, locals := 22 }) D vwCl [(cA, .int)] [.ref h0, .int a0, .int a1, .int a2] (xw h0 r0 cA) σ (fun r σ' => x_listChain σ a0 a1 a2 = (r, σ')) := by
  refine gMi_of (cc := cX0_listChain) (maxL := 7) (ret := (some .int)) (by decide) rfl (Nat.le_of_ble_eq_true rfl) ?_
  intro p e s m below meth c A ls E G hl
  obtain ⟨hx, hb, hml, hr, hlocks, hown, hts, -, -⟩ := id E
  have hin : ∀ w ∈ wsX00, w ∈ wsX0_listChain := fun w h => List.mem_cons_of_mem _ (List.mem_append_right _ h)
  have hl : lv_has ls 7 [(0, .ref h0), (1, .int a0), (2, .int a1), (3, .int a2)] := hl
  have loop : ∀ (n : Nat) (σ1 : Sx) (t : Int32) (u : Int32) (k : Int32) (H : Heap) (locs : List Loc) (ls : Array Slot), (a2.toInt - k.toInt).toNat < n → y_lcL a2 n σ1 t u k = x_listChain σ a0 a1 a2 → gG D vwCl [(cA, .int)] A s (xw h0 r0 cA σ1) H locs → lv_has ls 7 [(0, .ref h0), (1, .int a0), (2, .int a1), (3, .int a2), (4, .int t), (5, .int u), (6, .int k)] → W p l e ({ frames := 1, cells := 0, slots := 0, locals := 22 }) s m [.ref h0, .int a0, .int a1, .int a2].toArray below meth c H locs 0 0 (MQ below (va_Qi (fun r σ' => x_listChain σ a0 a1 a2 = (r, σ')) (gB D vwCl [(cA, .int)] A (xw h0 r0 cA)) A) [.ref h0, .int a0, .int a1, .int a2].toArray s 0 0 A) (F0 m 9 ls []) := by
    intro n
    induction n with
    | zero => intro σ1 t u k H locs ls hm; exact absurd hm (Nat.not_lt_zero _)
    | succ n ih =>
      intro σ1 t u k H locs ls hm hinv G hl
      refine lv_iload hx hb dX0_listChain_9 (lv_at hl 6 rfl) ?_
      refine lv_iload_n hx hb dX0_listChain_11 rfl (lv_at hl 3 rfl) ?_
      refine lv_icmp_ge (tgt := 62) hx hb dX0_listChain_12 (by decide) (fun c_1 => ?_) (fun c_1 => ?_)
      · refine lv_iload hx hb dX0_listChain_62 (lv_at hl 4 rfl) ?_
        exact g_iret (u := σ1) E G (by rw [← hinv]; (simp only [y_lcL, c_1, ↓reduceIte]) <;> rfl) dX0_listChain_64
      · refine lv_iload hx hb dX0_listChain_15 (lv_at hl 5 rfl) ?_
        refine lv_iconst (v := (-1)) hx hb dX0_listChain_17 (by decide) ?_
        refine lv_icmp_eq (tgt := 62) hx hb dX0_listChain_18 (by decide) (fun c_2 => ?_) (fun c_2 => ?_)
        · refine lv_iload hx hb dX0_listChain_62 (lv_at hl 4 rfl) ?_
          exact g_iret (u := σ1) E G (by rw [← hinv]; (simp only [y_lcL, c_1, c_2, ↓reduceIte]) <;> rfl) dX0_listChain_64
        · refine lv_iload hx hb dX0_listChain_21 (lv_at hl 4 rfl) ?_
          refine lv_sipush (v := 200) hx hb dX0_listChain_23 (by decide) ?_
          refine lv_icmp_ge (tgt := 62) hx hb dX0_listChain_26 (by decide) (fun c_3 => ?_) (fun c_3 => ?_)
          · refine lv_iload hx hb dX0_listChain_62 (lv_at hl 4 rfl) ?_
            exact g_iret (u := σ1) E G (by rw [← hinv]; (simp only [y_lcL, c_1, c_2, c_3, ↓reduceIte]) <;> rfl) dX0_listChain_64
          · refine lv_aload_n hx hb dX0_listChain_29 rfl (lv_at hl 0 rfl) ?_
            refine lv_sipush (v := 800) hx hb dX0_listChain_30 (by decide) ?_
            refine lv_iload hx hb dX0_listChain_33 (lv_at hl 4 rfl) ?_
            refine lv_iadd hx hb dX0_listChain_35 ?_
            refine lv_iload hx hb dX0_listChain_36 (lv_at hl 5 rfl) ?_
            refine x_callv (As := [.int (800 + t), .int u]) (rest := []) ⟨hx, hb, hml, hown, hts⟩ (kX0_write l D h0 r0 cA σ1 (800 + t) u) (cwV 2 hts gX0_listChain_X0_write rfl rfl rfl (by decide +kernel) ⟨Nat.le_of_ble_eq_true rfl, Nat.le_of_ble_eq_true rfl⟩) G rfl hl.1 rfl (Nat.le_of_ble_eq_true rfl) dX0_listChain_38 ⟨Nat.zero_le _, Nat.zero_le _⟩ (fun σ_5 H locs e_6 G => ?_)
            obtain ⟨v_7, ev_7⟩ : ∃ y : Int32, y = t + 1 := ⟨_, rfl⟩
            refine lv_iinc (v := v_7) (lv' := [(4, .int v_7), (0, .ref h0), (1, .int a0), (2, .int a1), (3, .int a2), (5, .int u), (6, .int k)]) hx hb dX0_listChain_41 hl (k := 4) rfl (by rw [ev_7]; rfl) (by decide) rfl (fun ls hl => ?_)
            refine lv_aload_n hx hb dX0_listChain_44 rfl (lv_at hl 1 rfl) ?_
            refine lv_sipush (v := 600) hx hb dX0_listChain_45 (by decide) ?_
            refine lv_iload hx hb dX0_listChain_48 (lv_at hl 5 rfl) ?_
            refine lv_iadd hx hb dX0_listChain_50 ?_
            refine x_calli (As := [.int (600 + u)]) (rest := []) ⟨hx, hb, hml, hown, hts⟩ (kX0_read l D h0 r0 cA σ_5 (600 + u)) (cwV 1 hts gX0_listChain_X0_read rfl rfl rfl (by decide +kernel) ⟨Nat.le_of_ble_eq_true rfl, Nat.le_of_ble_eq_true rfl⟩) G rfl hl.1 rfl (Nat.le_of_ble_eq_true rfl) dX0_listChain_51 ⟨Nat.zero_le _, Nat.zero_le _⟩ (fun r_8 σ_9 H locs e_10 G => ?_)
            refine lv_istore (lv' := [(5, .int r_8), (4, .int v_7), (0, .ref h0), (1, .int a0), (2, .int a1), (3, .int a2), (6, .int k)]) hx hb dX0_listChain_54 hl (by decide) rfl (fun ls hl => ?_)
            obtain ⟨v_11, ev_11⟩ : ∃ y : Int32, y = k + 1 := ⟨_, rfl⟩
            refine lv_iinc (v := v_11) (lv' := [(6, .int v_11), (5, .int r_8), (4, .int v_7), (0, .ref h0), (1, .int a0), (2, .int a1), (3, .int a2)]) hx hb dX0_listChain_56 hl (k := 6) rfl (by rw [ev_11]; rfl) (by decide) rfl (fun ls hl => ?_)
            refine lv_goto (tgt := 9) hx hb dX0_listChain_59 (by decide) ?_
            exact ih σ_9 v_7 r_8 v_11 _ _ _ (by subst ev_11; subst ev_7; exact Nat.lt_of_lt_of_le (x_meas c_1) (Nat.le_of_lt_succ hm)) (by subst ev_11; subst ev_7; rw [← hinv]; (simp only [y_lcL, c_1, c_2, c_3, e_6, e_10, ↓reduceIte]) <;> rfl) G (lv_sub hl [3, 4, 5, 6, 2, 1, 0] rfl)
  refine lv_iload_n hx hb dX0_listChain_0 rfl (lv_at hl 1 rfl) ?_
  refine lv_istore (lv' := [(4, .int a0), (0, .ref h0), (1, .int a0), (2, .int a1), (3, .int a2)]) hx hb dX0_listChain_1 hl (by decide) rfl (fun ls hl => ?_)
  refine lv_iload_n hx hb dX0_listChain_3 rfl (lv_at hl 3 rfl) ?_
  refine lv_istore (lv' := [(5, .int a1), (4, .int a0), (0, .ref h0), (1, .int a0), (2, .int a1), (3, .int a2)]) hx hb dX0_listChain_4 hl (by decide) rfl (fun ls hl => ?_)
  refine lv_iconst (v := 0) hx hb dX0_listChain_6 (by decide) ?_
  refine lv_istore (lv' := [(6, .int 0), (5, .int a1), (4, .int a0), (0, .ref h0), (1, .int a0), (2, .int a1), (3, .int a2)]) hx hb dX0_listChain_7 hl (by decide) rfl (fun ls hl => ?_)
  exact loop (a2.toInt.toNat + 1) σ a0 a1 0 _ _ _ (x_meas0) (by (simp only [x_listChain, ↓reduceIte]) <;> rfl) G (lv_sub hl [3, 4, 5, 6, 2, 1, 0] rfl)

set_option maxHeartbeats 4000000 in
set_option maxRecDepth 100000 in
theorem kX0_listCells (l : Launch) (D : va_G) (h0 r0 : Nat) (cA : ClassId) (σ : Sx) (a0 : Int32) : gMi l yX0_listCells wsX0_listCells ({ frames := 2, cells := 0, slots := 0, locals := 48 }) D vwCl [(cA, .int)] [.ref h0, .int a0] (xw h0 r0 cA) σ (fun r σ' => x_listCells σ a0 = (r, σ')) := by
  refine gMi_of (cc := cX0_listCells) (maxL := 4) (ret := (some .int)) (by decide) rfl (Nat.le_of_ble_eq_true rfl) ?_
  intro p e s m below meth c A ls E G hl
  obtain ⟨hx, hb, hml, hr, hlocks, hown, hts, -, -⟩ := id E
  have hin : ∀ w ∈ wsX00, w ∈ wsX0_listCells := fun w h => List.mem_cons_of_mem _ (List.mem_append_right _ h)
  have hl : lv_has ls 4 [(0, .ref h0), (1, .int a0)] := hl
  have loop2 : ∀ (n : Nat) (σ1 : Sx) (t : Int32) (k : Int32) (H : Heap) (locs : List Loc) (ls : Array Slot), ((200 : Int32).toInt - k.toInt).toNat < n → y_lsC n σ1 t k = x_listCells σ a0 → gG D vwCl [(cA, .int)] A s (xw h0 r0 cA σ1) H locs → lv_has ls 4 [(0, .ref h0), (1, .int a0), (2, .int t), (3, .int k)] → W p l e ({ frames := 2, cells := 0, slots := 0, locals := 48 }) s m [.ref h0, .int a0].toArray below meth c H locs 0 0 (MQ below (va_Qi (fun r σ' => x_listCells σ a0 = (r, σ')) (gB D vwCl [(cA, .int)] A (xw h0 r0 cA)) A) [.ref h0, .int a0].toArray s 0 0 A) (F0 m 48 ls []) := by
    intro n
    induction n with
    | zero => intro σ1 t k H locs ls hm; exact absurd hm (Nat.not_lt_zero _)
    | succ n ih =>
      intro σ1 t k H locs ls hm hinv G hl
      refine lv_iload_n hx hb dX0_listCells_48 rfl (lv_at hl 3 rfl) ?_
      refine lv_iload_n hx hb dX0_listCells_49 rfl (lv_at hl 2 rfl) ?_
      refine lv_icmp_ge (tgt := 92) hx hb dX0_listCells_50 (by decide) (fun c_1 => ?_) (fun c_1 => ?_)
      · refine lv_iload_n hx hb dX0_listCells_92 rfl (lv_at hl 2 rfl) ?_
        exact g_iret (u := σ1) E G (by rw [← hinv]; (simp only [y_lsC, c_1, ↓reduceIte]) <;> rfl) dX0_listCells_93
      · refine lv_iload_n hx hb dX0_listCells_53 rfl (lv_at hl 3 rfl) ?_
        refine lv_sipush (v := 200) hx hb dX0_listCells_54 (by decide) ?_
        refine lv_icmp_ge (tgt := 92) hx hb dX0_listCells_57 (by decide) (fun c_2 => ?_) (fun c_2 => ?_)
        · refine lv_iload_n hx hb dX0_listCells_92 rfl (lv_at hl 2 rfl) ?_
          exact g_iret (u := σ1) E G (by rw [← hinv]; (simp only [y_lsC, c_1, c_2, ↓reduceIte]) <;> rfl) dX0_listCells_93
        · refine lv_aload_n hx hb dX0_listCells_60 rfl (lv_at hl 0 rfl) ?_
          refine lv_iload_n hx hb dX0_listCells_61 rfl (lv_at hl 2 rfl) ?_
          refine lv_aload_n hx hb dX0_listCells_62 rfl (lv_at hl 0 rfl) ?_
          refine lv_sipush (v := 400) hx hb dX0_listCells_63 (by decide) ?_
          refine lv_aload_n hx hb dX0_listCells_66 rfl (lv_at hl 0 rfl) ?_
          refine lv_sipush (v := 800) hx hb dX0_listCells_67 (by decide) ?_
          refine lv_iload_n hx hb dX0_listCells_70 rfl (lv_at hl 3 rfl) ?_
          refine lv_iadd hx hb dX0_listCells_71 ?_
          refine x_calli (As := [.int (800 + k)]) (rest := [.int 400, .ref h0, .int t, .ref h0]) ⟨hx, hb, hml, hown, hts⟩ (kX0_read l D h0 r0 cA σ1 (800 + k)) (cwV 1 hts gX0_listCells_X0_read rfl rfl rfl (by decide +kernel) ⟨Nat.le_of_ble_eq_true rfl, Nat.le_of_ble_eq_true rfl⟩) G rfl hl.1 rfl (Nat.le_of_ble_eq_true rfl) dX0_listCells_72 ⟨Nat.zero_le _, Nat.zero_le _⟩ (fun r_3 σ_4 H locs e_5 G => ?_)
          refine lv_iadd hx hb dX0_listCells_75 ?_
          refine x_calli (As := [.int (400 + r_3)]) (rest := [.int t, .ref h0]) ⟨hx, hb, hml, hown, hts⟩ (kX0_read l D h0 r0 cA σ_4 (400 + r_3)) (cwV 1 hts gX0_listCells_X0_read rfl rfl rfl (by decide +kernel) ⟨Nat.le_of_ble_eq_true rfl, Nat.le_of_ble_eq_true rfl⟩) G rfl hl.1 rfl (Nat.le_of_ble_eq_true rfl) dX0_listCells_76 ⟨Nat.zero_le _, Nat.zero_le _⟩ (fun r_6 σ_7 H locs e_8 G => ?_)
          refine lv_sipush (v := 200) hx hb dX0_listCells_79 (by decide) ?_
          refine x_calli (As := [.int t, .int r_6, .int 200]) (rest := []) ⟨hx, hb, hml, hown, hts⟩ (kX0_listChain l D h0 r0 cA σ_7 t r_6 200) (cwV 3 hts gX0_listCells_X0_listChain rfl rfl rfl (by decide +kernel) ⟨Nat.le_of_ble_eq_true rfl, Nat.le_of_ble_eq_true rfl⟩) G rfl hl.1 rfl (Nat.le_of_ble_eq_true rfl) dX0_listCells_82 ⟨Nat.zero_le _, Nat.zero_le _⟩ (fun r_9 σ_10 H locs e_11 G => ?_)
          refine lv_istore_n (lv' := [(2, .int r_9), (0, .ref h0), (1, .int a0), (3, .int k)]) hx hb dX0_listCells_85 rfl hl (by decide) rfl (fun ls hl => ?_)
          obtain ⟨v_12, ev_12⟩ : ∃ y : Int32, y = k + 1 := ⟨_, rfl⟩
          refine lv_iinc (v := v_12) (lv' := [(3, .int v_12), (2, .int r_9), (0, .ref h0), (1, .int a0)]) hx hb dX0_listCells_86 hl (k := 3) rfl (by rw [ev_12]; rfl) (by decide) rfl (fun ls hl => ?_)
          refine lv_goto (tgt := 48) hx hb dX0_listCells_89 (by decide) ?_
          exact ih σ_10 r_9 v_12 _ _ _ (by subst ev_12; exact Nat.lt_of_lt_of_le (x_meas c_2) (Nat.le_of_lt_succ hm)) (by subst ev_12; rw [← hinv]; (simp only [y_lsC, c_1, c_2, e_5, e_8, e_11, ↓reduceIte]) <;> rfl) G (lv_sub hl [2, 3, 1, 0] rfl)
  have loop1 : ∀ (n : Nat) (σ1 : Sx) (t : Int32) (k : Int32) (H : Heap) (locs : List Loc) (ls : Array Slot), ((8 : Int32).toInt - k.toInt).toNat < n → y_lsC 201 (y_lsT a0 n σ1 t k).2 (y_lsT a0 n σ1 t k).1 0 = x_listCells σ a0 → gG D vwCl [(cA, .int)] A s (xw h0 r0 cA σ1) H locs → lv_has ls 4 [(0, .ref h0), (1, .int a0), (2, .int t), (3, .int k)] → W p l e ({ frames := 2, cells := 0, slots := 0, locals := 48 }) s m [.ref h0, .int a0].toArray below meth c H locs 0 0 (MQ below (va_Qi (fun r σ' => x_listCells σ a0 = (r, σ')) (gB D vwCl [(cA, .int)] A (xw h0 r0 cA)) A) [.ref h0, .int a0].toArray s 0 0 A) (F0 m 18 ls []) := by
    intro n
    induction n with
    | zero => intro σ1 t k H locs ls hm; exact absurd hm (Nat.not_lt_zero _)
    | succ n ih =>
      intro σ1 t k H locs ls hm hinv G hl
      refine lv_iload_n hx hb dX0_listCells_18 rfl (lv_at hl 3 rfl) ?_
      refine lv_bipush (v := 8) hx hb dX0_listCells_19 (by decide) ?_
      refine lv_icmp_ge (tgt := 46) hx hb dX0_listCells_21 (by decide) (fun c_13 => ?_) (fun c_13 => ?_)
      · refine lv_iconst (v := 0) hx hb dX0_listCells_46 (by decide) ?_
        refine lv_istore_n (lv' := [(3, .int 0), (0, .ref h0), (1, .int a0), (2, .int t)]) hx hb dX0_listCells_47 rfl hl (by decide) rfl (fun ls hl => ?_)
        exact loop2 (201) σ1 t 0 _ _ _ (by decide) (by rw [← hinv]; (simp only [y_lsT, c_13, ↓reduceIte]) <;> rfl) G (lv_sub hl [1, 2, 3, 0] rfl)
      · refine lv_aload_n hx hb dX0_listCells_24 rfl (lv_at hl 0 rfl) ?_
        refine lv_iload_n hx hb dX0_listCells_25 rfl (lv_at hl 2 rfl) ?_
        refine lv_aload_n hx hb dX0_listCells_26 rfl (lv_at hl 0 rfl) ?_
        refine lv_iload_n hx hb dX0_listCells_27 rfl (lv_at hl 1 rfl) ?_
        refine lv_iload_n hx hb dX0_listCells_28 rfl (lv_at hl 3 rfl) ?_
        refine g_calls (As := [.int a0, .int k]) (rest := [.ref h0, .int t, .ref h0]) ⟨hx, hb, hml, hown, hts⟩ (kX0_topAt l a0 k) (va_cwS 2 hts gX0_listCells_X0_topAt rfl rfl rfl (by decide +kernel) ⟨Nat.le_of_ble_eq_true rfl, Nat.le_of_ble_eq_true rfl⟩) G rfl hl.1 rfl (Nat.le_of_ble_eq_true rfl) dX0_listCells_29 ⟨Nat.zero_le _, Nat.zero_le _⟩ (fun r_14 H locs e_15 G => ?_)
        subst e_15
        refine x_calli (As := [.int (x_topAt a0 k)]) (rest := [.int t, .ref h0]) ⟨hx, hb, hml, hown, hts⟩ (kX0_read l D h0 r0 cA σ1 (x_topAt a0 k)) (cwV 1 hts gX0_listCells_X0_read rfl rfl rfl (by decide +kernel) ⟨Nat.le_of_ble_eq_true rfl, Nat.le_of_ble_eq_true rfl⟩) G rfl hl.1 rfl (Nat.le_of_ble_eq_true rfl) dX0_listCells_32 ⟨Nat.zero_le _, Nat.zero_le _⟩ (fun r_16 σ_17 H locs e_18 G => ?_)
        refine lv_iconst (v := 1) hx hb dX0_listCells_35 (by decide) ?_
        refine x_calli (As := [.int t, .int r_16, .int 1]) (rest := []) ⟨hx, hb, hml, hown, hts⟩ (kX0_listChain l D h0 r0 cA σ_17 t r_16 1) (cwV 3 hts gX0_listCells_X0_listChain rfl rfl rfl (by decide +kernel) ⟨Nat.le_of_ble_eq_true rfl, Nat.le_of_ble_eq_true rfl⟩) G rfl hl.1 rfl (Nat.le_of_ble_eq_true rfl) dX0_listCells_36 ⟨Nat.zero_le _, Nat.zero_le _⟩ (fun r_19 σ_20 H locs e_21 G => ?_)
        refine lv_istore_n (lv' := [(2, .int r_19), (0, .ref h0), (1, .int a0), (3, .int k)]) hx hb dX0_listCells_39 rfl hl (by decide) rfl (fun ls hl => ?_)
        obtain ⟨v_22, ev_22⟩ : ∃ y : Int32, y = k + 1 := ⟨_, rfl⟩
        refine lv_iinc (v := v_22) (lv' := [(3, .int v_22), (2, .int r_19), (0, .ref h0), (1, .int a0)]) hx hb dX0_listCells_40 hl (k := 3) rfl (by rw [ev_22]; rfl) (by decide) rfl (fun ls hl => ?_)
        refine lv_goto (tgt := 18) hx hb dX0_listCells_43 (by decide) ?_
        exact ih σ_20 r_19 v_22 _ _ _ (by subst ev_22; exact Nat.lt_of_lt_of_le (x_meas c_13) (Nat.le_of_lt_succ hm)) (by subst ev_22; rw [← hinv]; (simp only [y_lsT, c_13, e_18, e_21, ↓reduceIte]) <;> rfl) G (lv_sub hl [2, 3, 1, 0] rfl)
  refine lv_aload_n hx hb dX0_listCells_0 rfl (lv_at hl 0 rfl) ?_
  refine lv_iconst (v := 0) hx hb dX0_listCells_1 (by decide) ?_
  refine lv_aload_n hx hb dX0_listCells_2 rfl (lv_at hl 0 rfl) ?_
  refine lv_sipush (v := 1064) hx hb dX0_listCells_3 (by decide) ?_
  refine lv_iload_n hx hb dX0_listCells_6 rfl (lv_at hl 1 rfl) ?_
  refine lv_iadd hx hb dX0_listCells_7 ?_
  refine x_calli (As := [.int (1064 + a0)]) (rest := [.int 0, .ref h0]) ⟨hx, hb, hml, hown, hts⟩ (kX0_read l D h0 r0 cA σ (1064 + a0)) (cwV 1 hts gX0_listCells_X0_read rfl rfl rfl (by decide +kernel) ⟨Nat.le_of_ble_eq_true rfl, Nat.le_of_ble_eq_true rfl⟩) G rfl hl.1 rfl (Nat.le_of_ble_eq_true rfl) dX0_listCells_8 ⟨Nat.zero_le _, Nat.zero_le _⟩ (fun r_23 σ_24 H locs e_25 G => ?_)
  refine lv_iconst (v := 1) hx hb dX0_listCells_11 (by decide) ?_
  refine x_calli (As := [.int 0, .int r_23, .int 1]) (rest := []) ⟨hx, hb, hml, hown, hts⟩ (kX0_listChain l D h0 r0 cA σ_24 0 r_23 1) (cwV 3 hts gX0_listCells_X0_listChain rfl rfl rfl (by decide +kernel) ⟨Nat.le_of_ble_eq_true rfl, Nat.le_of_ble_eq_true rfl⟩) G rfl hl.1 rfl (Nat.le_of_ble_eq_true rfl) dX0_listCells_12 ⟨Nat.zero_le _, Nat.zero_le _⟩ (fun r_26 σ_27 H locs e_28 G => ?_)
  refine lv_istore_n (lv' := [(2, .int r_26), (0, .ref h0), (1, .int a0)]) hx hb dX0_listCells_15 rfl hl (by decide) rfl (fun ls hl => ?_)
  refine lv_iconst (v := 0) hx hb dX0_listCells_16 (by decide) ?_
  refine lv_istore_n (lv' := [(3, .int 0), (2, .int r_26), (0, .ref h0), (1, .int a0)]) hx hb dX0_listCells_17 rfl hl (by decide) rfl (fun ls hl => ?_)
  exact loop1 (9) σ_27 r_26 0 _ _ _ (by decide) (by (simp only [x_listCells, e_25, e_28, ↓reduceIte]) <;> rfl) G (lv_sub hl [2, 3, 1, 0] rfl)

set_option maxHeartbeats 4000000 in
set_option maxRecDepth 100000 in
theorem kX0_countUpTo (l : Launch) (D : va_G) (h0 r0 : Nat) (cA : ClassId) (σ : Sx) (a0 : Int32) (a1 : Int64) : gMi l yX0_countUpTo wsX0_countUpTo ({ frames := 2, cells := 0, slots := 0, locals := 42 }) D vwCl [(cA, .int)] [.ref h0, .int a0, .long a1] (xw h0 r0 cA) σ (fun r σ' => x_countUpTo σ a0 a1 = (r, σ')) := by
  refine gMi_of (cc := cX0_countUpTo) (maxL := 6) (ret := (some .int)) (by decide) rfl (Nat.le_of_ble_eq_true rfl) ?_
  intro p e s m below meth c A ls E G hl
  obtain ⟨hx, hb, hml, hr, hlocks, hown, hts, -, -⟩ := id E
  have hin : ∀ w ∈ wsX00, w ∈ wsX0_countUpTo := fun w h => List.mem_cons_of_mem _ (List.mem_append_right _ h)
  have hl : lv_has ls 6 [(0, .ref h0), (1, .int a0), (2, .long a1)] := hl
  have loop : ∀ (n : Nat) (σ1 : Sx) (t : Int32) (k : Int32) (H : Heap) (locs : List Loc) (ls : Array Slot), (a0.toInt - k.toInt).toNat < n → y_cuL a1 a0 n σ1 t k = x_countUpTo σ a0 a1 → gG D vwCl [(cA, .int)] A s (xw h0 r0 cA σ1) H locs → lv_has ls 6 [(0, .ref h0), (1, .int a0), (2, .long a1), (4, .int t), (5, .int k)] → W p l e ({ frames := 2, cells := 0, slots := 0, locals := 42 }) s m [.ref h0, .int a0, .long a1].toArray below meth c H locs 0 0 (MQ below (va_Qi (fun r σ' => x_countUpTo σ a0 a1 = (r, σ')) (gB D vwCl [(cA, .int)] A (xw h0 r0 cA)) A) [.ref h0, .int a0, .long a1].toArray s 0 0 A) (F0 m 6 ls []) := by
    intro n
    induction n with
    | zero => intro σ1 t k H locs ls hm; exact absurd hm (Nat.not_lt_zero _)
    | succ n ih =>
      intro σ1 t k H locs ls hm hinv G hl
      refine lv_iload hx hb dX0_countUpTo_6 (lv_at hl 4 rfl) ?_
      refine lv_iload_n hx hb dX0_countUpTo_8 rfl (lv_at hl 1 rfl) ?_
      refine lv_icmp_ge (tgt := 33) hx hb dX0_countUpTo_9 (by decide) (fun c_1 => ?_) (fun c_1 => ?_)
      · refine lv_iload hx hb dX0_countUpTo_33 (lv_at hl 3 rfl) ?_
        exact g_iret (u := σ1) E G (by rw [← hinv]; (simp only [y_cuL, c_1, ↓reduceIte]) <;> rfl) dX0_countUpTo_35
      · refine lv_aload_n hx hb dX0_countUpTo_12 rfl (lv_at hl 0 rfl) ?_
        refine lv_iload hx hb dX0_countUpTo_13 (lv_at hl 4 rfl) ?_
        refine x_calli (As := [.int k]) (rest := []) ⟨hx, hb, hml, hown, hts⟩ (kX0_listedKey l D h0 r0 cA σ1 k) (cwV 1 hts gX0_countUpTo_X0_listedKey rfl rfl rfl (by decide +kernel) ⟨Nat.le_of_ble_eq_true rfl, Nat.le_of_ble_eq_true rfl⟩) G rfl hl.1 rfl (Nat.le_of_ble_eq_true rfl) dX0_countUpTo_15 ⟨Nat.zero_le _, Nat.zero_le _⟩ (fun r_2 σ_3 H locs e_4 G => ?_)
        refine lv_i2l (v := r_2.toInt64) hx hb dX0_countUpTo_18 rfl ?_
        refine lv_lload_n hx hb dX0_countUpTo_19 rfl (lv_at hl 2 rfl) ?_
        refine W.lcmp hx hb dX0_countUpTo_20 ?_
        refine lv_if_gt (tgt := 27) hx hb dX0_countUpTo_21 (by decide) (fun c_5 => ?_) (fun c_5 => ?_)
        · rw [lg_cmp_gt] at c_5
          obtain ⟨v_6, ev_6⟩ : ∃ y : Int32, y = k + 1 := ⟨_, rfl⟩
          refine lv_iinc (v := v_6) (lv' := [(5, .int v_6), (0, .ref h0), (1, .int a0), (2, .long a1), (4, .int t)]) hx hb dX0_countUpTo_27 hl (k := 4) rfl (by rw [ev_6]; rfl) (by decide) rfl (fun ls hl => ?_)
          refine lv_goto (tgt := 6) hx hb dX0_countUpTo_30 (by decide) ?_
          exact ih σ_3 t v_6 _ _ _ (by subst ev_6; exact Nat.lt_of_lt_of_le (x_meas c_1) (Nat.le_of_lt_succ hm)) (by subst ev_6; rw [← hinv]; (simp only [y_cuL, c_1, e_4, c_5, ↓reduceIte]) <;> rfl) G (lv_sub hl [1, 2, 3, 4, 0] rfl)
        · rw [lg_cmp_gt] at c_5
          obtain ⟨v_7, ev_7⟩ : ∃ y : Int32, y = t + 1 := ⟨_, rfl⟩
          refine lv_iinc (v := v_7) (lv' := [(4, .int v_7), (0, .ref h0), (1, .int a0), (2, .long a1), (5, .int k)]) hx hb dX0_countUpTo_24 hl (k := 3) rfl (by rw [ev_7]; rfl) (by decide) rfl (fun ls hl => ?_)
          obtain ⟨v_8, ev_8⟩ : ∃ y : Int32, y = k + 1 := ⟨_, rfl⟩
          refine lv_iinc (v := v_8) (lv' := [(5, .int v_8), (4, .int v_7), (0, .ref h0), (1, .int a0), (2, .long a1)]) hx hb dX0_countUpTo_27 hl (k := 4) rfl (by rw [ev_8]; rfl) (by decide) rfl (fun ls hl => ?_)
          refine lv_goto (tgt := 6) hx hb dX0_countUpTo_30 (by decide) ?_
          exact ih σ_3 v_7 v_8 _ _ _ (by subst ev_8; subst ev_7; exact Nat.lt_of_lt_of_le (x_meas c_1) (Nat.le_of_lt_succ hm)) (by subst ev_8; subst ev_7; rw [← hinv]; (simp only [y_cuL, c_1, e_4, c_5, ↓reduceIte]) <;> rfl) G (lv_sub hl [2, 3, 4, 1, 0] rfl)
  refine lv_iconst (v := 0) hx hb dX0_countUpTo_0 (by decide) ?_
  refine lv_istore (lv' := [(4, .int 0), (0, .ref h0), (1, .int a0), (2, .long a1)]) hx hb dX0_countUpTo_1 hl (by decide) rfl (fun ls hl => ?_)
  refine lv_iconst (v := 0) hx hb dX0_countUpTo_3 (by decide) ?_
  refine lv_istore (lv' := [(5, .int 0), (4, .int 0), (0, .ref h0), (1, .int a0), (2, .long a1)]) hx hb dX0_countUpTo_4 hl (by decide) rfl (fun ls hl => ?_)
  exact loop (a0.toInt.toNat + 1) σ 0 0 _ _ _ (x_meas0) (by (simp only [x_countUpTo, ↓reduceIte]) <;> rfl) G (lv_sub hl [2, 3, 4, 1, 0] rfl)

set_option maxHeartbeats 4000000 in
set_option maxRecDepth 100000 in
theorem kX0_kthListed (l : Launch) (D : va_G) (h0 r0 : Nat) (cA : ClassId) (σ : Sx) (a0 : Int32) (a1 : Int32) : gMl l yX0_kthListed wsX0_kthListed ({ frames := 3, cells := 0, slots := 0, locals := 67 }) D vwCl [(cA, .int)] [.ref h0, .int a0, .int a1] (xw h0 r0 cA) σ (fun r σ' => x_kthListed σ a0 a1 = (r, σ')) := by
  refine gMl_of (cc := cX0_kthListed) (maxL := 10) (ret := (some .long)) (by decide) rfl (Nat.le_of_ble_eq_true rfl) ?_
  intro p e s m below meth c A ls E G hl
  obtain ⟨hx, hb, hml, hr, hlocks, hown, hts, -, -⟩ := id E
  have hin : ∀ w ∈ wsX00, w ∈ wsX0_kthListed := fun w h => List.mem_cons_of_mem _ (List.mem_append_right _ h)
  have hl : lv_has ls 10 [(0, .ref h0), (1, .int a0), (2, .int a1)] := hl
  have loop : ∀ (n : Nat) (σ1 : Sx) (lo : Int64) (hi : Int64) (k : Int32) (H : Heap) (locs : List Loc) (ls : Array Slot), ((32 : Int32).toInt - k.toInt).toNat < n → y_kthL a0 a1 n σ1 lo hi k = x_kthListed σ a0 a1 → gG D vwCl [(cA, .int)] A s (xw h0 r0 cA σ1) H locs → lv_has ls 10 [(0, .ref h0), (1, .int a0), (2, .int a1), (3, .long lo), (5, .long hi), (7, .int k)] → W p l e ({ frames := 3, cells := 0, slots := 0, locals := 67 }) s m [.ref h0, .int a0, .int a1].toArray below meth c H locs 0 0 (MQ below (va_Ql (fun r σ' => x_kthListed σ a0 a1 = (r, σ')) (gB D vwCl [(cA, .int)] A (xw h0 r0 cA)) A) [.ref h0, .int a0, .int a1].toArray s 0 0 A) (F0 m 12 ls []) := by
    intro n
    induction n with
    | zero => intro σ1 lo hi k H locs ls hm; exact absurd hm (Nat.not_lt_zero _)
    | succ n ih =>
      intro σ1 lo hi k H locs ls hm hinv G hl
      refine lv_iload hx hb dX0_kthListed_12 (lv_at hl 5 rfl) ?_
      refine lv_bipush (v := 32) hx hb dX0_kthListed_14 (by decide) ?_
      refine lv_icmp_ge (tgt := 56) hx hb dX0_kthListed_16 (by decide) (fun c_1 => ?_) (fun c_1 => ?_)
      · refine lv_lload_n hx hb dX0_kthListed_56 rfl (lv_at hl 3 rfl) ?_
        exact g_lret (u := σ1) E G (by rw [← hinv]; (simp only [y_kthL, c_1, ↓reduceIte]) <;> rfl) dX0_kthListed_57
      · refine lv_lload_n hx hb dX0_kthListed_19 rfl (lv_at hl 3 rfl) ?_
        refine lv_lload hx hb dX0_kthListed_20 (lv_at hl 4 rfl) ?_
        refine lv_ladd hx hb dX0_kthListed_22 ?_
        refine lv_iconst (v := 1) hx hb dX0_kthListed_23 (by decide) ?_
        refine lv_lshr (v := ((lo + hi) >>> ((1 : Int32).toInt64 &&& 63))) hx hb dX0_kthListed_24 rfl ?_
        refine lv_topl (fun v_2 ev_2 => ?_)
        refine lv_lstore (lv' := [(8, .long v_2), (0, .ref h0), (1, .int a0), (2, .int a1), (3, .long lo), (5, .long hi), (7, .int k)]) hx hb dX0_kthListed_25 hl (by decide) rfl (fun ls hl => ?_)
        refine lv_aload_n hx hb dX0_kthListed_27 rfl (lv_at hl 1 rfl) ?_
        refine lv_iload_n hx hb dX0_kthListed_28 rfl (lv_at hl 2 rfl) ?_
        refine lv_lload hx hb dX0_kthListed_29 (lv_at hl 0 rfl) ?_
        refine x_calli (As := [.int a0, .long v_2]) (rest := []) ⟨hx, hb, hml, hown, hts⟩ (kX0_countUpTo l D h0 r0 cA σ1 a0 v_2) (cwV 2 hts gX0_kthListed_X0_countUpTo rfl rfl rfl (by decide +kernel) ⟨Nat.le_of_ble_eq_true rfl, Nat.le_of_ble_eq_true rfl⟩) G rfl hl.1 rfl (Nat.le_of_ble_eq_true rfl) dX0_kthListed_31 ⟨Nat.zero_le _, Nat.zero_le _⟩ (fun r_3 σ_4 H locs e_5 G => ?_)
        refine lv_iload_n hx hb dX0_kthListed_34 rfl (lv_at hl 3 rfl) ?_
        refine lv_icmp_le (tgt := 45) hx hb dX0_kthListed_35 (by decide) (fun c_6 => ?_) (fun c_6 => ?_)
        · refine lv_lload hx hb dX0_kthListed_45 (lv_at hl 0 rfl) ?_
          refine lv_lconst (v := 1) hx hb dX0_kthListed_47 (by decide) ?_
          refine lv_ladd hx hb dX0_kthListed_48 ?_
          refine lv_topl (fun v_7 ev_7 => ?_)
          refine lv_lstore_n (lv' := [(3, .long v_7), (8, .long v_2), (0, .ref h0), (1, .int a0), (2, .int a1), (5, .long hi), (7, .int k)]) hx hb dX0_kthListed_49 rfl hl (by decide) rfl (fun ls hl => ?_)
          obtain ⟨v_8, ev_8⟩ : ∃ y : Int32, y = k + 1 := ⟨_, rfl⟩
          refine lv_iinc (v := v_8) (lv' := [(7, .int v_8), (3, .long v_7), (8, .long v_2), (0, .ref h0), (1, .int a0), (2, .int a1), (5, .long hi)]) hx hb dX0_kthListed_50 hl (k := 6) rfl (by rw [ev_8]; rfl) (by decide) rfl (fun ls hl => ?_)
          refine lv_goto (tgt := 12) hx hb dX0_kthListed_53 (by decide) ?_
          exact ih σ_4 v_7 hi v_8 _ _ _ (by subst ev_8; subst ev_7; subst ev_2; exact Nat.lt_of_lt_of_le (x_meas c_1) (Nat.le_of_lt_succ hm)) (by subst ev_8; subst ev_7; subst ev_2; rw [← hinv]; (simp only [y_kthL, c_1, e_5, c_6, ↓reduceIte]) <;> rfl) G (lv_sub hl [3, 4, 5, 1, 6, 0] rfl)
        · refine lv_lload hx hb dX0_kthListed_38 (lv_at hl 0 rfl) ?_
          refine lv_lstore (lv' := [(5, .long v_2), (8, .long v_2), (0, .ref h0), (1, .int a0), (2, .int a1), (3, .long lo), (7, .int k)]) hx hb dX0_kthListed_40 hl (by decide) rfl (fun ls hl => ?_)
          refine lv_goto (tgt := 50) hx hb dX0_kthListed_42 (by decide) ?_
          obtain ⟨v_9, ev_9⟩ : ∃ y : Int32, y = k + 1 := ⟨_, rfl⟩
          refine lv_iinc (v := v_9) (lv' := [(7, .int v_9), (5, .long v_2), (8, .long v_2), (0, .ref h0), (1, .int a0), (2, .int a1), (3, .long lo)]) hx hb dX0_kthListed_50 hl (k := 6) rfl (by rw [ev_9]; rfl) (by decide) rfl (fun ls hl => ?_)
          refine lv_goto (tgt := 12) hx hb dX0_kthListed_53 (by decide) ?_
          exact ih σ_4 lo v_2 v_9 _ _ _ (by subst ev_9; subst ev_2; exact Nat.lt_of_lt_of_le (x_meas c_1) (Nat.le_of_lt_succ hm)) (by subst ev_9; subst ev_2; rw [← hinv]; (simp only [y_kthL, c_1, e_5, c_6, ↓reduceIte]) <;> rfl) G (lv_sub hl [3, 4, 5, 6, 1, 0] rfl)
  refine lv_ldc2 hx hb hown (hts (.constantLong RX0 124 (-2147483648)) (by decide +kernel)) dX0_kthListed_0 ?_
  refine lv_lstore_n (lv' := [(3, .long (-2147483648)), (0, .ref h0), (1, .int a0), (2, .int a1)]) hx hb dX0_kthListed_3 rfl hl (by decide) rfl (fun ls hl => ?_)
  refine lv_ldc2 hx hb hown (hts (.constantLong RX0 126 (2147483647)) (by decide +kernel)) dX0_kthListed_4 ?_
  refine lv_lstore (lv' := [(5, .long (2147483647)), (3, .long (-2147483648)), (0, .ref h0), (1, .int a0), (2, .int a1)]) hx hb dX0_kthListed_7 hl (by decide) rfl (fun ls hl => ?_)
  refine lv_iconst (v := 0) hx hb dX0_kthListed_9 (by decide) ?_
  refine lv_istore (lv' := [(7, .int 0), (5, .long (2147483647)), (3, .long (-2147483648)), (0, .ref h0), (1, .int a0), (2, .int a1)]) hx hb dX0_kthListed_10 hl (by decide) rfl (fun ls hl => ?_)
  exact loop (33) σ (-2147483648) (2147483647) 0 _ _ _ (by decide) (by (simp only [x_kthListed, ↓reduceIte]) <;> rfl) G (lv_sub hl [3, 4, 5, 2, 1, 0] rfl)
end
section
set_option maxHeartbeats 4000000 in
set_option maxRecDepth 100000 in
theorem kX0_heap (l : Launch) (D : va_G) (h0 r0 : Nat) (cA : ClassId) (σ : Sx) : gMi l yX0_heap wsX0_heap ({ frames := 1, cells := 0, slots := 0, locals := 21 }) D vwCl [(cA, .int)] [.ref h0] (xw h0 r0 cA) σ (fun r σ' => x_heap σ = (r, σ')) := by
  refine gMi_of (cc := cX0_heap) (maxL := 1) (ret := (some .int)) (by decide) rfl (Nat.le_of_ble_eq_true rfl) ?_
  intro p e s m below meth c A ls E G hl
  obtain ⟨hx, hb, hml, hr, hlocks, hown, hts, -, -⟩ := id E
  have hin : ∀ w ∈ wsX00, w ∈ wsX0_heap := fun w h => List.mem_cons_of_mem _ (List.mem_append_right _ h)
  have hl : lv_has ls 1 [(0, .ref h0)] := hl
  refine lv_aload_n hx hb dX0_heap_0 rfl (lv_at hl 0 rfl) ?_
  refine lv_ldc hx hb hown (hts (.constant RX0 29 (2147483647)) (by decide +kernel)) dX0_heap_1 ?_
  refine x_callv (As := [.int (2147483647)]) (rest := []) ⟨hx, hb, hml, hown, hts⟩ (kX0_begin l D h0 r0 cA σ (2147483647)) (cwV 1 hts gX0_heap_X0_begin rfl rfl rfl (by decide +kernel) ⟨Nat.le_of_ble_eq_true rfl, Nat.le_of_ble_eq_true rfl⟩) G rfl hl.1 rfl (Nat.le_of_ble_eq_true rfl) dX0_heap_3 ⟨Nat.zero_le _, Nat.zero_le _⟩ (fun σ_2 H locs e_3 G => ?_)
  refine lv_aload_n hx hb dX0_heap_6 rfl (lv_at hl 0 rfl) ?_
  refine g_get (C := RX0) (T := TX0) (N := 6) (ci := 0) (v := .int σ_2.2.1) hx hb hts hin hown G 0 rfl rfl 1 (by decide) (hts (.fieldLink RX0 33 "SkewMelds" "heaps" "I") (by decide +kernel)) rfl rfl dX0_heap_7 ?_
  refine lv_bipush (v := 8) hx hb dX0_heap_10 (by decide) ?_
  refine lv_icmp_lt (tgt := 17) hx hb dX0_heap_12 (by decide) (fun c_4 => ?_) (fun c_4 => ?_)
  · refine lv_aload_n hx hb dX0_heap_17 rfl (lv_at hl 0 rfl) ?_
    refine lv_dup hx hb dX0_heap_18 rfl ?_
    refine g_get (C := RX0) (T := TX0) (N := 6) (ci := 0) (v := .int σ_2.2.1) hx hb hts hin hown G 0 rfl rfl 1 (by decide) (hts (.fieldLink RX0 33 "SkewMelds" "heaps" "I") (by decide +kernel)) rfl rfl dX0_heap_19 ?_
    refine lv_iconst (v := 1) hx hb dX0_heap_22 (by decide) ?_
    refine lv_iadd hx hb dX0_heap_23 ?_
    refine g_put (C := RX0) (T := TX0) (N := 6) (ci := 0) (v := .int (σ_2.2.1 + 1)) (ty := .int) hx hb hts hin tyX0 tyX0_ok nmX0 hown G 0 rfl rfl 1 (by decide) (hts (.fieldLink RX0 33 "SkewMelds" "heaps" "I") (by decide +kernel)) rfl rfl (by decide +kernel) rfl rfl (Nat.le_of_ble_eq_true rfl) (xw h0 r0 cA (x_sH σ_2 (σ_2.2.1 + 1))) rfl dX0_heap_24 (fun H locs G => ?_)
    refine lv_aload_n hx hb dX0_heap_27 rfl (lv_at hl 0 rfl) ?_
    refine g_get (C := RX0) (T := TX0) (N := 6) (ci := 0) (v := .int (x_sH σ_2 (σ_2.2.1 + 1)).2.1) hx hb hts hin hown G 0 rfl rfl 1 (by decide) (hts (.fieldLink RX0 33 "SkewMelds" "heaps" "I") (by decide +kernel)) rfl rfl dX0_heap_28 ?_
    refine lv_iconst (v := 1) hx hb dX0_heap_31 (by decide) ?_
    refine lv_isub hx hb dX0_heap_32 ?_
    exact g_iret (u := (x_sH σ_2 (σ_2.2.1 + 1))) E G (by (simp only [x_heap, e_3, c_4, ↓reduceIte]) <;> rfl) dX0_heap_33
  · refine lv_iconst (v := (-1)) hx hb dX0_heap_15 (by decide) ?_
    exact g_iret (u := σ_2) E G (by (simp only [x_heap, e_3, c_4, ↓reduceIte]) <;> rfl) dX0_heap_16

set_option maxHeartbeats 4000000 in
set_option maxRecDepth 100000 in
theorem kX0_add (l : Launch) (D : va_G) (h0 r0 : Nat) (cA : ClassId) (σ : Sx) (a0 : Int32) (a1 : Int32) : gMi l yX0_add wsX0_add ({ frames := 4, cells := 0, slots := 0, locals := 93 }) D vwCl [(cA, .int)] [.ref h0, .int a0, .int a1] (xw h0 r0 cA) σ (fun r σ' => x_add σ a0 a1 = (r, σ')) := by
  refine gMi_of (cc := cX0_add) (maxL := 3) (ret := (some .int)) (by decide) rfl (Nat.le_of_ble_eq_true rfl) ?_
  intro p e s m below meth c A ls E G hl
  obtain ⟨hx, hb, hml, hr, hlocks, hown, hts, -, -⟩ := id E
  have hin : ∀ w ∈ wsX00, w ∈ wsX0_add := fun w h => List.mem_cons_of_mem _ (List.mem_append_right _ h)
  have hl : lv_has ls 3 [(0, .ref h0), (1, .int a0), (2, .int a1)] := hl
  refine lv_aload_n hx hb dX0_add_0 rfl (lv_at hl 0 rfl) ?_
  refine lv_bipush (v := 100) hx hb dX0_add_1 (by decide) ?_
  refine x_callv (As := [.int 100]) (rest := []) ⟨hx, hb, hml, hown, hts⟩ (kX0_begin l D h0 r0 cA σ 100) (cwV 1 hts gX0_add_X0_begin rfl rfl rfl (by decide +kernel) ⟨Nat.le_of_ble_eq_true rfl, Nat.le_of_ble_eq_true rfl⟩) G rfl hl.1 rfl (Nat.le_of_ble_eq_true rfl) dX0_add_3 ⟨Nat.zero_le _, Nat.zero_le _⟩ (fun σ_2 H locs e_3 G => ?_)
  refine lv_aload_n hx hb dX0_add_6 rfl (lv_at hl 0 rfl) ?_
  refine lv_iload_n hx hb dX0_add_7 rfl (lv_at hl 1 rfl) ?_
  refine x_calli (As := [.int a0]) (rest := []) ⟨hx, hb, hml, hown, hts⟩ (kX0_exists l D h0 r0 cA σ_2 a0) (cwV 1 hts gX0_add_X0_exists rfl rfl rfl (by decide +kernel) ⟨Nat.le_of_ble_eq_true rfl, Nat.le_of_ble_eq_true rfl⟩) G rfl hl.1 rfl (Nat.le_of_ble_eq_true rfl) dX0_add_8 ⟨Nat.zero_le _, Nat.zero_le _⟩ (fun r_4 σ_5 H locs e_6 G => ?_)
  obtain ⟨rfl, rfl⟩ := e_6
  refine lv_if_ne (tgt := 16) hx hb dX0_add_11 (by decide) (fun c_7 => ?_) (fun c_7 => ?_)
  · refine lv_aload_n hx hb dX0_add_16 rfl (lv_at hl 0 rfl) ?_
    refine g_get (C := RX0) (T := TX0) (N := 6) (ci := 0) (v := .int σ_2.2.2.2.1) hx hb hts hin hown G 0 rfl rfl 3 (by decide) (hts (.fieldLink RX0 21 "SkewMelds" "firstUnused" "I") (by decide +kernel)) rfl rfl dX0_add_17 ?_
    refine lv_iconst (v := (-1)) hx hb dX0_add_20 (by decide) ?_
    refine lv_icmp_ne (tgt := 27) hx hb dX0_add_21 (by decide) (fun c_8 => ?_) (fun c_8 => ?_)
    · refine lv_aload_n hx hb dX0_add_27 rfl (lv_at hl 0 rfl) ?_
      refine lv_iload_n hx hb dX0_add_28 rfl (lv_at hl 1 rfl) ?_
      refine lv_aload_n hx hb dX0_add_29 rfl (lv_at hl 0 rfl) ?_
      refine lv_iload_n hx hb dX0_add_30 rfl (lv_at hl 2 rfl) ?_
      refine x_calli (As := [.int a1]) (rest := [.int a0, .ref h0]) ⟨hx, hb, hml, hown, hts⟩ (kX0_newCell l D h0 r0 cA σ_2 a1) (cwV 1 hts gX0_add_X0_newCell rfl rfl rfl (by decide +kernel) ⟨Nat.le_of_ble_eq_true rfl, Nat.le_of_ble_eq_true rfl⟩) G rfl hl.1 rfl (Nat.le_of_ble_eq_true rfl) dX0_add_31 ⟨Nat.zero_le _, Nat.zero_le _⟩ (fun r_9 σ_10 H locs e_11 G => ?_)
      refine x_callv (As := [.int a0, .int r_9]) (rest := []) ⟨hx, hb, hml, hown, hts⟩ (kX0_insertCell l D h0 r0 cA σ_10 a0 r_9) (cwV 2 hts gX0_add_X0_insertCell rfl rfl rfl (by decide +kernel) ⟨Nat.le_of_ble_eq_true rfl, Nat.le_of_ble_eq_true rfl⟩) G rfl hl.1 rfl (Nat.le_of_ble_eq_true rfl) dX0_add_34 ⟨Nat.zero_le _, Nat.zero_le _⟩ (fun σ_13 H locs e_14 G => ?_)
      refine lv_aload_n hx hb dX0_add_37 rfl (lv_at hl 0 rfl) ?_
      refine lv_iload_n hx hb dX0_add_38 rfl (lv_at hl 1 rfl) ?_
      refine lv_aload_n hx hb dX0_add_39 rfl (lv_at hl 0 rfl) ?_
      refine lv_sipush (v := 1072) hx hb dX0_add_40 (by decide) ?_
      refine lv_iload_n hx hb dX0_add_43 rfl (lv_at hl 1 rfl) ?_
      refine lv_iadd hx hb dX0_add_44 ?_
      refine x_calli (As := [.int (1072 + a0)]) (rest := [.int a0, .ref h0]) ⟨hx, hb, hml, hown, hts⟩ (kX0_read l D h0 r0 cA σ_13 (1072 + a0)) (cwV 1 hts gX0_add_X0_read rfl rfl rfl (by decide +kernel) ⟨Nat.le_of_ble_eq_true rfl, Nat.le_of_ble_eq_true rfl⟩) G rfl hl.1 rfl (Nat.le_of_ble_eq_true rfl) dX0_add_45 ⟨Nat.zero_le _, Nat.zero_le _⟩ (fun r_15 σ_16 H locs e_17 G => ?_)
      refine lv_iconst (v := 1) hx hb dX0_add_48 (by decide) ?_
      refine lv_iadd hx hb dX0_add_49 ?_
      refine x_calli (As := [.int a0, .int (r_15 + 1)]) (rest := []) ⟨hx, hb, hml, hown, hts⟩ (kX0_resize l D h0 r0 cA σ_16 a0 (r_15 + 1)) (cwV 2 hts gX0_add_X0_resize rfl rfl rfl (by decide +kernel) ⟨Nat.le_of_ble_eq_true rfl, Nat.le_of_ble_eq_true rfl⟩) G rfl hl.1 rfl (Nat.le_of_ble_eq_true rfl) dX0_add_50 ⟨Nat.zero_le _, Nat.zero_le _⟩ (fun r_18 σ_19 H locs e_20 G => ?_)
      exact g_iret (u := σ_19) E G (by (simp only [x_add, e_3, c_7, c_8, e_11, e_14, e_17, e_20, ↓reduceIte]) <;> rfl) dX0_add_53
    · refine lv_bipush (v := (-2)) hx hb dX0_add_24 (by decide) ?_
      exact g_iret (u := σ_2) E G (by (simp only [x_add, e_3, c_7, c_8, ↓reduceIte]) <;> rfl) dX0_add_26
  · refine lv_iconst (v := (-1)) hx hb dX0_add_14 (by decide) ?_
    exact g_iret (u := σ_2) E G (by (simp only [x_add, e_3, c_7, ↓reduceIte]) <;> rfl) dX0_add_15

set_option maxHeartbeats 4000000 in
set_option maxRecDepth 100000 in
theorem kX0_least (l : Launch) (D : va_G) (h0 r0 : Nat) (cA : ClassId) (σ : Sx) (a0 : Int32) : gMl l yX0_least wsX0_least ({ frames := 3, cells := 0, slots := 0, locals := 66 }) D vwCl [(cA, .int)] [.ref h0, .int a0] (xw h0 r0 cA) σ (fun r σ' => x_least σ a0 = (r, σ')) := by
  refine gMl_of (cc := cX0_least) (maxL := 3) (ret := (some .long)) (by decide) rfl (Nat.le_of_ble_eq_true rfl) ?_
  intro p e s m below meth c A ls E G hl
  obtain ⟨hx, hb, hml, hr, hlocks, hown, hts, -, -⟩ := id E
  have hin : ∀ w ∈ wsX00, w ∈ wsX0_least := fun w h => List.mem_cons_of_mem _ (List.mem_append_right _ h)
  have hl : lv_has ls 3 [(0, .ref h0), (1, .int a0)] := hl
  refine lv_aload_n hx hb dX0_least_0 rfl (lv_at hl 0 rfl) ?_
  refine lv_iload_n hx hb dX0_least_1 rfl (lv_at hl 1 rfl) ?_
  refine x_callv (As := [.int a0]) (rest := []) ⟨hx, hb, hml, hown, hts⟩ (kX0_beginOn l D h0 r0 cA σ a0) (cwV 1 hts gX0_least_X0_beginOn rfl rfl rfl (by decide +kernel) ⟨Nat.le_of_ble_eq_true rfl, Nat.le_of_ble_eq_true rfl⟩) G rfl hl.1 rfl (Nat.le_of_ble_eq_true rfl) dX0_least_2 ⟨Nat.zero_le _, Nat.zero_le _⟩ (fun σ_2 H locs e_3 G => ?_)
  refine lv_aload_n hx hb dX0_least_5 rfl (lv_at hl 0 rfl) ?_
  refine lv_iload_n hx hb dX0_least_6 rfl (lv_at hl 1 rfl) ?_
  refine x_calli (As := [.int a0]) (rest := []) ⟨hx, hb, hml, hown, hts⟩ (kX0_leastRoot l D h0 r0 cA σ_2 a0) (cwV 1 hts gX0_least_X0_leastRoot rfl rfl rfl (by decide +kernel) ⟨Nat.le_of_ble_eq_true rfl, Nat.le_of_ble_eq_true rfl⟩) G rfl hl.1 rfl (Nat.le_of_ble_eq_true rfl) dX0_least_7 ⟨Nat.zero_le _, Nat.zero_le _⟩ (fun r_4 σ_5 H locs e_6 G => ?_)
  refine lv_istore_n (lv' := [(2, .int r_4), (0, .ref h0), (1, .int a0)]) hx hb dX0_least_10 rfl hl (by decide) rfl (fun ls hl => ?_)
  refine lv_iload_n hx hb dX0_least_11 rfl (lv_at hl 0 rfl) ?_
  refine lv_iconst (v := (-1)) hx hb dX0_least_12 (by decide) ?_
  refine lv_icmp_ne (tgt := 22) hx hb dX0_least_13 (by decide) (fun c_7 => ?_) (fun c_7 => ?_)
  · refine lv_aload_n hx hb dX0_least_22 rfl (lv_at hl 1 rfl) ?_
    refine lv_iconst (v := 0) hx hb dX0_least_23 (by decide) ?_
    refine lv_iload_n hx hb dX0_least_24 rfl (lv_at hl 0 rfl) ?_
    refine lv_iadd hx hb dX0_least_25 ?_
    refine x_calli (As := [.int (0 + r_4)]) (rest := []) ⟨hx, hb, hml, hown, hts⟩ (kX0_read l D h0 r0 cA σ_5 (0 + r_4)) (cwV 1 hts gX0_least_X0_read rfl rfl rfl (by decide +kernel) ⟨Nat.le_of_ble_eq_true rfl, Nat.le_of_ble_eq_true rfl⟩) G rfl hl.1 rfl (Nat.le_of_ble_eq_true rfl) dX0_least_26 ⟨Nat.zero_le _, Nat.zero_le _⟩ (fun r_8 σ_9 H locs e_10 G => ?_)
    refine lv_i2l (v := r_8.toInt64) hx hb dX0_least_29 rfl ?_
    exact g_lret (u := σ_9) E G (by (simp only [x_least, e_3, e_6, c_7, e_10, ↓reduceIte]) <;> rfl) dX0_least_30
  · refine lv_ldc2 hx hb hown (hts (.constantLong RX0 60 (-9223372036854775808)) (by decide +kernel)) dX0_least_16 ?_
    refine lv_goto (tgt := 30) hx hb dX0_least_19 (by decide) ?_
    exact g_lret (u := σ_5) E G (by (simp only [x_least, e_3, e_6, c_7, ↓reduceIte]) <;> rfl) dX0_least_30

set_option maxHeartbeats 4000000 in
set_option maxRecDepth 100000 in
theorem kX0_take (l : Launch) (D : va_G) (h0 r0 : Nat) (cA : ClassId) (σ : Sx) (a0 : Int32) : gMl l yX0_take wsX0_take ({ frames := 5, cells := 0, slots := 0, locals := 118 }) D vwCl [(cA, .int)] [.ref h0, .int a0] (xw h0 r0 cA) σ (fun r σ' => x_take σ a0 = (r, σ')) := by
  refine gMl_of (cc := cX0_take) (maxL := 5) (ret := (some .long)) (by decide) rfl (Nat.le_of_ble_eq_true rfl) ?_
  intro p e s m below meth c A ls E G hl
  obtain ⟨hx, hb, hml, hr, hlocks, hown, hts, -, -⟩ := id E
  have hin : ∀ w ∈ wsX00, w ∈ wsX0_take := fun w h => List.mem_cons_of_mem _ (List.mem_append_right _ h)
  have hl : lv_has ls 5 [(0, .ref h0), (1, .int a0)] := hl
  refine lv_aload_n hx hb dX0_take_0 rfl (lv_at hl 0 rfl) ?_
  refine lv_iload_n hx hb dX0_take_1 rfl (lv_at hl 1 rfl) ?_
  refine x_callv (As := [.int a0]) (rest := []) ⟨hx, hb, hml, hown, hts⟩ (kX0_beginOn l D h0 r0 cA σ a0) (cwV 1 hts gX0_take_X0_beginOn rfl rfl rfl (by decide +kernel) ⟨Nat.le_of_ble_eq_true rfl, Nat.le_of_ble_eq_true rfl⟩) G rfl hl.1 rfl (Nat.le_of_ble_eq_true rfl) dX0_take_2 ⟨Nat.zero_le _, Nat.zero_le _⟩ (fun σ_2 H locs e_3 G => ?_)
  refine lv_aload_n hx hb dX0_take_5 rfl (lv_at hl 0 rfl) ?_
  refine lv_iload_n hx hb dX0_take_6 rfl (lv_at hl 1 rfl) ?_
  refine x_calli (As := [.int a0]) (rest := []) ⟨hx, hb, hml, hown, hts⟩ (kX0_leastRoot l D h0 r0 cA σ_2 a0) (cwV 1 hts gX0_take_X0_leastRoot rfl rfl rfl (by decide +kernel) ⟨Nat.le_of_ble_eq_true rfl, Nat.le_of_ble_eq_true rfl⟩) G rfl hl.1 rfl (Nat.le_of_ble_eq_true rfl) dX0_take_7 ⟨Nat.zero_le _, Nat.zero_le _⟩ (fun r_4 σ_5 H locs e_6 G => ?_)
  refine lv_istore_n (lv' := [(2, .int r_4), (0, .ref h0), (1, .int a0)]) hx hb dX0_take_10 rfl hl (by decide) rfl (fun ls hl => ?_)
  refine lv_iload_n hx hb dX0_take_11 rfl (lv_at hl 0 rfl) ?_
  refine lv_iconst (v := (-1)) hx hb dX0_take_12 (by decide) ?_
  refine lv_icmp_ne (tgt := 20) hx hb dX0_take_13 (by decide) (fun c_7 => ?_) (fun c_7 => ?_)
  · refine lv_aload_n hx hb dX0_take_20 rfl (lv_at hl 1 rfl) ?_
    refine lv_iconst (v := 0) hx hb dX0_take_21 (by decide) ?_
    refine lv_iload_n hx hb dX0_take_22 rfl (lv_at hl 0 rfl) ?_
    refine lv_iadd hx hb dX0_take_23 ?_
    refine x_calli (As := [.int (0 + r_4)]) (rest := []) ⟨hx, hb, hml, hown, hts⟩ (kX0_read l D h0 r0 cA σ_5 (0 + r_4)) (cwV 1 hts gX0_take_X0_read rfl rfl rfl (by decide +kernel) ⟨Nat.le_of_ble_eq_true rfl, Nat.le_of_ble_eq_true rfl⟩) G rfl hl.1 rfl (Nat.le_of_ble_eq_true rfl) dX0_take_24 ⟨Nat.zero_le _, Nat.zero_le _⟩ (fun r_8 σ_9 H locs e_10 G => ?_)
    refine lv_i2l (v := r_8.toInt64) hx hb dX0_take_27 rfl ?_
    refine lv_topl (fun v_11 ev_11 => ?_)
    refine lv_lstore_n (lv' := [(3, .long v_11), (2, .int r_4), (0, .ref h0), (1, .int a0)]) hx hb dX0_take_28 rfl hl (by decide) rfl (fun ls hl => ?_)
    refine lv_aload_n hx hb dX0_take_29 rfl (lv_at hl 2 rfl) ?_
    refine lv_iload_n hx hb dX0_take_30 rfl (lv_at hl 3 rfl) ?_
    refine lv_iload_n hx hb dX0_take_31 rfl (lv_at hl 1 rfl) ?_
    refine x_callv (As := [.int a0, .int r_4]) (rest := []) ⟨hx, hb, hml, hown, hts⟩ (kX0_cutRoot l D h0 r0 cA σ_9 a0 r_4) (cwV 2 hts gX0_take_X0_cutRoot rfl rfl rfl (by decide +kernel) ⟨Nat.le_of_ble_eq_true rfl, Nat.le_of_ble_eq_true rfl⟩) G rfl hl.1 rfl (Nat.le_of_ble_eq_true rfl) dX0_take_32 ⟨Nat.zero_le _, Nat.zero_le _⟩ (fun σ_13 H locs e_14 G => ?_)
    refine lv_aload_n hx hb dX0_take_35 rfl (lv_at hl 2 rfl) ?_
    refine lv_iload_n hx hb dX0_take_36 rfl (lv_at hl 3 rfl) ?_
    refine lv_iload_n hx hb dX0_take_37 rfl (lv_at hl 1 rfl) ?_
    refine x_callv (As := [.int a0, .int r_4]) (rest := []) ⟨hx, hb, hml, hown, hts⟩ (kX0_placeChildren l D h0 r0 cA σ_13 a0 r_4) (cwV 2 hts gX0_take_X0_placeChildren rfl rfl rfl (by decide +kernel) ⟨Nat.le_of_ble_eq_true rfl, Nat.le_of_ble_eq_true rfl⟩) G rfl hl.1 rfl (Nat.le_of_ble_eq_true rfl) dX0_take_38 ⟨Nat.zero_le _, Nat.zero_le _⟩ (fun σ_16 H locs e_17 G => ?_)
    refine lv_aload_n hx hb dX0_take_41 rfl (lv_at hl 2 rfl) ?_
    refine lv_iload_n hx hb dX0_take_42 rfl (lv_at hl 1 rfl) ?_
    refine x_callv (As := [.int r_4]) (rest := []) ⟨hx, hb, hml, hown, hts⟩ (kX0_giveBack l D h0 r0 cA σ_16 r_4) (cwV 1 hts gX0_take_X0_giveBack rfl rfl rfl (by decide +kernel) ⟨Nat.le_of_ble_eq_true rfl, Nat.le_of_ble_eq_true rfl⟩) G rfl hl.1 rfl (Nat.le_of_ble_eq_true rfl) dX0_take_43 ⟨Nat.zero_le _, Nat.zero_le _⟩ (fun σ_19 H locs e_20 G => ?_)
    refine lv_aload_n hx hb dX0_take_46 rfl (lv_at hl 2 rfl) ?_
    refine lv_iload_n hx hb dX0_take_47 rfl (lv_at hl 3 rfl) ?_
    refine lv_aload_n hx hb dX0_take_48 rfl (lv_at hl 2 rfl) ?_
    refine lv_sipush (v := 1072) hx hb dX0_take_49 (by decide) ?_
    refine lv_iload_n hx hb dX0_take_52 rfl (lv_at hl 3 rfl) ?_
    refine lv_iadd hx hb dX0_take_53 ?_
    refine x_calli (As := [.int (1072 + a0)]) (rest := [.int a0, .ref h0]) ⟨hx, hb, hml, hown, hts⟩ (kX0_read l D h0 r0 cA σ_19 (1072 + a0)) (cwV 1 hts gX0_take_X0_read rfl rfl rfl (by decide +kernel) ⟨Nat.le_of_ble_eq_true rfl, Nat.le_of_ble_eq_true rfl⟩) G rfl hl.1 rfl (Nat.le_of_ble_eq_true rfl) dX0_take_54 ⟨Nat.zero_le _, Nat.zero_le _⟩ (fun r_21 σ_22 H locs e_23 G => ?_)
    refine lv_iconst (v := 1) hx hb dX0_take_57 (by decide) ?_
    refine lv_isub hx hb dX0_take_58 ?_
    refine x_calli (As := [.int a0, .int (r_21 - 1)]) (rest := []) ⟨hx, hb, hml, hown, hts⟩ (kX0_resize l D h0 r0 cA σ_22 a0 (r_21 - 1)) (cwV 2 hts gX0_take_X0_resize rfl rfl rfl (by decide +kernel) ⟨Nat.le_of_ble_eq_true rfl, Nat.le_of_ble_eq_true rfl⟩) G rfl hl.1 rfl (Nat.le_of_ble_eq_true rfl) dX0_take_59 ⟨Nat.zero_le _, Nat.zero_le _⟩ (fun r_24 σ_25 H locs e_26 G => ?_)
    refine lv_pop hx hb dX0_take_62 rfl ?_
    refine lv_lload_n hx hb dX0_take_63 rfl (lv_at hl 0 rfl) ?_
    exact g_lret (u := σ_25) E G (by subst ev_11; (simp only [x_take, e_3, e_6, c_7, e_10, e_14, e_17, e_20, e_23, e_26, ↓reduceIte]) <;> rfl) dX0_take_64
  · refine lv_ldc2 hx hb hown (hts (.constantLong RX0 60 (-9223372036854775808)) (by decide +kernel)) dX0_take_16 ?_
    exact g_lret (u := σ_5) E G (by (simp only [x_take, e_3, e_6, c_7, ↓reduceIte]) <;> rfl) dX0_take_19

set_option maxHeartbeats 4000000 in
set_option maxRecDepth 100000 in
theorem kX0_meld (l : Launch) (D : va_G) (h0 r0 : Nat) (cA : ClassId) (σ : Sx) (a0 : Int32) (a1 : Int32) : gMi l yX0_meld wsX0_meld ({ frames := 4, cells := 0, slots := 0, locals := 93 }) D vwCl [(cA, .int)] [.ref h0, .int a0, .int a1] (xw h0 r0 cA) σ (fun r σ' => x_meld σ a0 a1 = (r, σ')) := by
  refine gMi_of (cc := cX0_meld) (maxL := 4) (ret := (some .int)) (by decide) rfl (Nat.le_of_ble_eq_true rfl) ?_
  intro p e s m below meth c A ls E G hl
  obtain ⟨hx, hb, hml, hr, hlocks, hown, hts, -, -⟩ := id E
  have hin : ∀ w ∈ wsX00, w ∈ wsX0_meld := fun w h => List.mem_cons_of_mem _ (List.mem_append_right _ h)
  have hl : lv_has ls 4 [(0, .ref h0), (1, .int a0), (2, .int a1)] := hl
  have loop : ∀ (n : Nat) (σ1 : Sx) (k : Int32) (H : Heap) (locs : List Loc) (ls : Array Slot), ((8 : Int32).toInt - k.toInt).toNat < n → x_meldT a0 a1 (y_meL a0 a1 n σ1 k) = x_meld σ a0 a1 → gG D vwCl [(cA, .int)] A s (xw h0 r0 cA σ1) H locs → lv_has ls 4 [(0, .ref h0), (1, .int a0), (2, .int a1), (3, .int k)] → W p l e ({ frames := 4, cells := 0, slots := 0, locals := 93 }) s m [.ref h0, .int a0, .int a1].toArray below meth c H locs 0 0 (MQ below (va_Qi (fun r σ' => x_meld σ a0 a1 = (r, σ')) (gB D vwCl [(cA, .int)] A (xw h0 r0 cA)) A) [.ref h0, .int a0, .int a1].toArray s 0 0 A) (F0 m 51 ls []) := by
    intro n
    induction n with
    | zero => intro σ1 k H locs ls hm; exact absurd hm (Nat.not_lt_zero _)
    | succ n ih =>
      intro σ1 k H locs ls hm hinv G hl
      refine lv_iload_n hx hb dX0_meld_51 rfl (lv_at hl 3 rfl) ?_
      refine lv_bipush (v := 8) hx hb dX0_meld_52 (by decide) ?_
      refine lv_icmp_ge (tgt := 74) hx hb dX0_meld_54 (by decide) (fun c_1 => ?_) (fun c_1 => ?_)
      · refine lv_aload_n hx hb dX0_meld_74 rfl (lv_at hl 0 rfl) ?_
        refine lv_sipush (v := 1072) hx hb dX0_meld_75 (by decide) ?_
        refine lv_iload_n hx hb dX0_meld_78 rfl (lv_at hl 2 rfl) ?_
        refine lv_iadd hx hb dX0_meld_79 ?_
        refine x_calli (As := [.int (1072 + a1)]) (rest := []) ⟨hx, hb, hml, hown, hts⟩ (kX0_read l D h0 r0 cA σ1 (1072 + a1)) (cwV 1 hts gX0_meld_X0_read rfl rfl rfl (by decide +kernel) ⟨Nat.le_of_ble_eq_true rfl, Nat.le_of_ble_eq_true rfl⟩) G rfl hl.1 rfl (Nat.le_of_ble_eq_true rfl) dX0_meld_80 ⟨Nat.zero_le _, Nat.zero_le _⟩ (fun r_2 σ_3 H locs e_4 G => ?_)
        refine lv_istore_n (lv' := [(3, .int r_2), (0, .ref h0), (1, .int a0), (2, .int a1)]) hx hb dX0_meld_83 rfl hl (by decide) rfl (fun ls hl => ?_)
        refine lv_aload_n hx hb dX0_meld_84 rfl (lv_at hl 1 rfl) ?_
        refine lv_iload_n hx hb dX0_meld_85 rfl (lv_at hl 3 rfl) ?_
        refine lv_iconst (v := 0) hx hb dX0_meld_86 (by decide) ?_
        refine x_calli (As := [.int a1, .int 0]) (rest := []) ⟨hx, hb, hml, hown, hts⟩ (kX0_resize l D h0 r0 cA σ_3 a1 0) (cwV 2 hts gX0_meld_X0_resize rfl rfl rfl (by decide +kernel) ⟨Nat.le_of_ble_eq_true rfl, Nat.le_of_ble_eq_true rfl⟩) G rfl hl.1 rfl (Nat.le_of_ble_eq_true rfl) dX0_meld_87 ⟨Nat.zero_le _, Nat.zero_le _⟩ (fun r_5 σ_6 H locs e_7 G => ?_)
        refine lv_pop hx hb dX0_meld_90 rfl ?_
        refine lv_aload_n hx hb dX0_meld_91 rfl (lv_at hl 1 rfl) ?_
        refine lv_iload_n hx hb dX0_meld_92 rfl (lv_at hl 2 rfl) ?_
        refine lv_aload_n hx hb dX0_meld_93 rfl (lv_at hl 1 rfl) ?_
        refine lv_sipush (v := 1072) hx hb dX0_meld_94 (by decide) ?_
        refine lv_iload_n hx hb dX0_meld_97 rfl (lv_at hl 2 rfl) ?_
        refine lv_iadd hx hb dX0_meld_98 ?_
        refine x_calli (As := [.int (1072 + a0)]) (rest := [.int a0, .ref h0]) ⟨hx, hb, hml, hown, hts⟩ (kX0_read l D h0 r0 cA σ_6 (1072 + a0)) (cwV 1 hts gX0_meld_X0_read rfl rfl rfl (by decide +kernel) ⟨Nat.le_of_ble_eq_true rfl, Nat.le_of_ble_eq_true rfl⟩) G rfl hl.1 rfl (Nat.le_of_ble_eq_true rfl) dX0_meld_99 ⟨Nat.zero_le _, Nat.zero_le _⟩ (fun r_8 σ_9 H locs e_10 G => ?_)
        refine lv_iload_n hx hb dX0_meld_102 rfl (lv_at hl 0 rfl) ?_
        refine lv_iadd hx hb dX0_meld_103 ?_
        refine x_calli (As := [.int a0, .int (r_8 + r_2)]) (rest := []) ⟨hx, hb, hml, hown, hts⟩ (kX0_resize l D h0 r0 cA σ_9 a0 (r_8 + r_2)) (cwV 2 hts gX0_meld_X0_resize rfl rfl rfl (by decide +kernel) ⟨Nat.le_of_ble_eq_true rfl, Nat.le_of_ble_eq_true rfl⟩) G rfl hl.1 rfl (Nat.le_of_ble_eq_true rfl) dX0_meld_104 ⟨Nat.zero_le _, Nat.zero_le _⟩ (fun r_11 σ_12 H locs e_13 G => ?_)
        exact g_iret (u := σ_12) E G (by rw [← hinv]; (simp only [y_meL, x_meldT, c_1, e_4, e_7, e_10, e_13, ↓reduceIte]) <;> rfl) dX0_meld_107
      · refine lv_aload_n hx hb dX0_meld_57 rfl (lv_at hl 0 rfl) ?_
        refine lv_iload_n hx hb dX0_meld_58 rfl (lv_at hl 1 rfl) ?_
        refine lv_aload_n hx hb dX0_meld_59 rfl (lv_at hl 0 rfl) ?_
        refine lv_iload_n hx hb dX0_meld_60 rfl (lv_at hl 2 rfl) ?_
        refine lv_iload_n hx hb dX0_meld_61 rfl (lv_at hl 3 rfl) ?_
        refine x_calli (As := [.int a1, .int k]) (rest := [.int a0, .ref h0]) ⟨hx, hb, hml, hown, hts⟩ (kX0_cutTop l D h0 r0 cA σ1 a1 k) (cwV 2 hts gX0_meld_X0_cutTop rfl rfl rfl (by decide +kernel) ⟨Nat.le_of_ble_eq_true rfl, Nat.le_of_ble_eq_true rfl⟩) G rfl hl.1 rfl (Nat.le_of_ble_eq_true rfl) dX0_meld_62 ⟨Nat.zero_le _, Nat.zero_le _⟩ (fun r_14 σ_15 H locs e_16 G => ?_)
        refine x_callv (As := [.int a0, .int r_14]) (rest := []) ⟨hx, hb, hml, hown, hts⟩ (kX0_place l D h0 r0 cA σ_15 a0 r_14) (cwV 2 hts gX0_meld_X0_place rfl rfl rfl (by decide +kernel) ⟨Nat.le_of_ble_eq_true rfl, Nat.le_of_ble_eq_true rfl⟩) G rfl hl.1 rfl (Nat.le_of_ble_eq_true rfl) dX0_meld_65 ⟨Nat.zero_le _, Nat.zero_le _⟩ (fun σ_18 H locs e_19 G => ?_)
        obtain ⟨v_20, ev_20⟩ : ∃ y : Int32, y = k + 1 := ⟨_, rfl⟩
        refine lv_iinc (v := v_20) (lv' := [(3, .int v_20), (0, .ref h0), (1, .int a0), (2, .int a1)]) hx hb dX0_meld_68 hl (k := 3) rfl (by rw [ev_20]; rfl) (by decide) rfl (fun ls hl => ?_)
        refine lv_goto (tgt := 51) hx hb dX0_meld_71 (by decide) ?_
        exact ih σ_18 v_20 _ _ _ (by subst ev_20; exact Nat.lt_of_lt_of_le (x_meas c_1) (Nat.le_of_lt_succ hm)) (by subst ev_20; rw [← hinv]; (simp only [y_meL, x_meldT, c_1, e_16, e_19, ↓reduceIte]) <;> rfl) G (lv_sub hl [1, 2, 3, 0] rfl)
  refine lv_aload_n hx hb dX0_meld_0 rfl (lv_at hl 0 rfl) ?_
  refine lv_iload_n hx hb dX0_meld_1 rfl (lv_at hl 1 rfl) ?_
  refine lv_iload_n hx hb dX0_meld_2 rfl (lv_at hl 2 rfl) ?_
  refine x_callv (As := [.int a0, .int a1]) (rest := []) ⟨hx, hb, hml, hown, hts⟩ (kX0_beginOnBoth l D h0 r0 cA σ a0 a1) (cwV 2 hts gX0_meld_X0_beginOnBoth rfl rfl rfl (by decide +kernel) ⟨Nat.le_of_ble_eq_true rfl, Nat.le_of_ble_eq_true rfl⟩) G rfl hl.1 rfl (Nat.le_of_ble_eq_true rfl) dX0_meld_3 ⟨Nat.zero_le _, Nat.zero_le _⟩ (fun σ_22 H locs e_23 G => ?_)
  refine lv_aload_n hx hb dX0_meld_6 rfl (lv_at hl 0 rfl) ?_
  refine lv_iload_n hx hb dX0_meld_7 rfl (lv_at hl 1 rfl) ?_
  refine x_calli (As := [.int a0]) (rest := []) ⟨hx, hb, hml, hown, hts⟩ (kX0_exists l D h0 r0 cA σ_22 a0) (cwV 1 hts gX0_meld_X0_exists rfl rfl rfl (by decide +kernel) ⟨Nat.le_of_ble_eq_true rfl, Nat.le_of_ble_eq_true rfl⟩) G rfl hl.1 rfl (Nat.le_of_ble_eq_true rfl) dX0_meld_8 ⟨Nat.zero_le _, Nat.zero_le _⟩ (fun r_24 σ_25 H locs e_26 G => ?_)
  obtain ⟨rfl, rfl⟩ := e_26
  refine lv_if_eq (tgt := 27) hx hb dX0_meld_11 (by decide) (fun c_27 => ?_) (fun c_27 => ?_)
  · refine lv_iconst (v := (-1)) hx hb dX0_meld_27 (by decide) ?_
    exact g_iret (u := σ_22) E G (by (simp only [x_meld, e_23, c_27, ↓reduceIte]) <;> rfl) dX0_meld_28
  · refine lv_aload_n hx hb dX0_meld_14 rfl (lv_at hl 0 rfl) ?_
    refine lv_iload_n hx hb dX0_meld_15 rfl (lv_at hl 2 rfl) ?_
    refine x_calli (As := [.int a1]) (rest := []) ⟨hx, hb, hml, hown, hts⟩ (kX0_exists l D h0 r0 cA σ_22 a1) (cwV 1 hts gX0_meld_X0_exists rfl rfl rfl (by decide +kernel) ⟨Nat.le_of_ble_eq_true rfl, Nat.le_of_ble_eq_true rfl⟩) G rfl hl.1 rfl (Nat.le_of_ble_eq_true rfl) dX0_meld_16 ⟨Nat.zero_le _, Nat.zero_le _⟩ (fun r_28 σ_29 H locs e_30 G => ?_)
    obtain ⟨rfl, rfl⟩ := e_30
    refine lv_if_eq (tgt := 27) hx hb dX0_meld_19 (by decide) (fun c_31 => ?_) (fun c_31 => ?_)
    · refine lv_iconst (v := (-1)) hx hb dX0_meld_27 (by decide) ?_
      exact g_iret (u := σ_22) E G (by (simp only [x_meld, e_23, c_27, c_31, ↓reduceIte]) <;> rfl) dX0_meld_28
    · refine lv_iload_n hx hb dX0_meld_22 rfl (lv_at hl 1 rfl) ?_
      refine lv_iload_n hx hb dX0_meld_23 rfl (lv_at hl 2 rfl) ?_
      refine lv_icmp_ne (tgt := 29) hx hb dX0_meld_24 (by decide) (fun c_32 => ?_) (fun c_32 => ?_)
      · refine lv_aload_n hx hb dX0_meld_29 rfl (lv_at hl 0 rfl) ?_
        refine lv_iload_n hx hb dX0_meld_30 rfl (lv_at hl 1 rfl) ?_
        refine lv_aload_n hx hb dX0_meld_31 rfl (lv_at hl 0 rfl) ?_
        refine lv_iload_n hx hb dX0_meld_32 rfl (lv_at hl 1 rfl) ?_
        refine x_calli (As := [.int a0]) (rest := [.int a0, .ref h0]) ⟨hx, hb, hml, hown, hts⟩ (kX0_cutTwin l D h0 r0 cA σ_22 a0) (cwV 1 hts gX0_meld_X0_cutTwin rfl rfl rfl (by decide +kernel) ⟨Nat.le_of_ble_eq_true rfl, Nat.le_of_ble_eq_true rfl⟩) G rfl hl.1 rfl (Nat.le_of_ble_eq_true rfl) dX0_meld_33 ⟨Nat.zero_le _, Nat.zero_le _⟩ (fun r_33 σ_34 H locs e_35 G => ?_)
        refine x_callv (As := [.int a0, .int r_33]) (rest := []) ⟨hx, hb, hml, hown, hts⟩ (kX0_place l D h0 r0 cA σ_34 a0 r_33) (cwV 2 hts gX0_meld_X0_place rfl rfl rfl (by decide +kernel) ⟨Nat.le_of_ble_eq_true rfl, Nat.le_of_ble_eq_true rfl⟩) G rfl hl.1 rfl (Nat.le_of_ble_eq_true rfl) dX0_meld_36 ⟨Nat.zero_le _, Nat.zero_le _⟩ (fun σ_37 H locs e_38 G => ?_)
        refine lv_aload_n hx hb dX0_meld_39 rfl (lv_at hl 0 rfl) ?_
        refine lv_iload_n hx hb dX0_meld_40 rfl (lv_at hl 1 rfl) ?_
        refine lv_aload_n hx hb dX0_meld_41 rfl (lv_at hl 0 rfl) ?_
        refine lv_iload_n hx hb dX0_meld_42 rfl (lv_at hl 2 rfl) ?_
        refine x_calli (As := [.int a1]) (rest := [.int a0, .ref h0]) ⟨hx, hb, hml, hown, hts⟩ (kX0_cutTwin l D h0 r0 cA σ_37 a1) (cwV 1 hts gX0_meld_X0_cutTwin rfl rfl rfl (by decide +kernel) ⟨Nat.le_of_ble_eq_true rfl, Nat.le_of_ble_eq_true rfl⟩) G rfl hl.1 rfl (Nat.le_of_ble_eq_true rfl) dX0_meld_43 ⟨Nat.zero_le _, Nat.zero_le _⟩ (fun r_39 σ_40 H locs e_41 G => ?_)
        refine x_callv (As := [.int a0, .int r_39]) (rest := []) ⟨hx, hb, hml, hown, hts⟩ (kX0_place l D h0 r0 cA σ_40 a0 r_39) (cwV 2 hts gX0_meld_X0_place rfl rfl rfl (by decide +kernel) ⟨Nat.le_of_ble_eq_true rfl, Nat.le_of_ble_eq_true rfl⟩) G rfl hl.1 rfl (Nat.le_of_ble_eq_true rfl) dX0_meld_46 ⟨Nat.zero_le _, Nat.zero_le _⟩ (fun σ_43 H locs e_44 G => ?_)
        refine lv_iconst (v := 0) hx hb dX0_meld_49 (by decide) ?_
        refine lv_istore_n (lv' := [(3, .int 0), (0, .ref h0), (1, .int a0), (2, .int a1)]) hx hb dX0_meld_50 rfl hl (by decide) rfl (fun ls hl => ?_)
        exact loop (9) σ_43 0 _ _ _ (by decide) (by (simp only [x_meld, e_23, c_27, c_31, c_32, e_35, e_38, e_41, e_44, ↓reduceIte]) <;> rfl) G (lv_sub hl [1, 2, 3, 0] rfl)
      · refine lv_iconst (v := (-1)) hx hb dX0_meld_27 (by decide) ?_
        exact g_iret (u := σ_22) E G (by (simp only [x_meld, e_23, c_27, c_31, if_pos c_32, ↓reduceIte]) <;> rfl) dX0_meld_28

set_option maxHeartbeats 4000000 in
set_option maxRecDepth 100000 in
theorem kX0_size (l : Launch) (D : va_G) (h0 r0 : Nat) (cA : ClassId) (σ : Sx) (a0 : Int32) : gMi l yX0_size wsX0_size ({ frames := 1, cells := 0, slots := 0, locals := 21 }) D vwCl [(cA, .int)] [.ref h0, .int a0] (xw h0 r0 cA) σ (fun r σ' => x_size σ a0 = (r, σ')) := by
  refine gMi_of (cc := cX0_size) (maxL := 2) (ret := (some .int)) (by decide) rfl (Nat.le_of_ble_eq_true rfl) ?_
  intro p e s m below meth c A ls E G hl
  obtain ⟨hx, hb, hml, hr, hlocks, hown, hts, -, -⟩ := id E
  have hin : ∀ w ∈ wsX00, w ∈ wsX0_size := fun w h => List.mem_cons_of_mem _ (List.mem_append_right _ h)
  have hl : lv_has ls 2 [(0, .ref h0), (1, .int a0)] := hl
  refine lv_aload_n hx hb dX0_size_0 rfl (lv_at hl 0 rfl) ?_
  refine lv_ldc hx hb hown (hts (.constant RX0 29 (2147483647)) (by decide +kernel)) dX0_size_1 ?_
  refine x_callv (As := [.int (2147483647)]) (rest := []) ⟨hx, hb, hml, hown, hts⟩ (kX0_begin l D h0 r0 cA σ (2147483647)) (cwV 1 hts gX0_size_X0_begin rfl rfl rfl (by decide +kernel) ⟨Nat.le_of_ble_eq_true rfl, Nat.le_of_ble_eq_true rfl⟩) G rfl hl.1 rfl (Nat.le_of_ble_eq_true rfl) dX0_size_3 ⟨Nat.zero_le _, Nat.zero_le _⟩ (fun σ_2 H locs e_3 G => ?_)
  refine lv_aload_n hx hb dX0_size_6 rfl (lv_at hl 0 rfl) ?_
  refine lv_iload_n hx hb dX0_size_7 rfl (lv_at hl 1 rfl) ?_
  refine x_calli (As := [.int a0]) (rest := []) ⟨hx, hb, hml, hown, hts⟩ (kX0_exists l D h0 r0 cA σ_2 a0) (cwV 1 hts gX0_size_X0_exists rfl rfl rfl (by decide +kernel) ⟨Nat.le_of_ble_eq_true rfl, Nat.le_of_ble_eq_true rfl⟩) G rfl hl.1 rfl (Nat.le_of_ble_eq_true rfl) dX0_size_8 ⟨Nat.zero_le _, Nat.zero_le _⟩ (fun r_4 σ_5 H locs e_6 G => ?_)
  obtain ⟨rfl, rfl⟩ := e_6
  refine lv_if_eq (tgt := 26) hx hb dX0_size_11 (by decide) (fun c_7 => ?_) (fun c_7 => ?_)
  · refine lv_iconst (v := (-1)) hx hb dX0_size_26 (by decide) ?_
    exact g_iret (u := σ_2) E G (by (simp only [x_size, e_3, c_7, ↓reduceIte]) <;> rfl) dX0_size_27
  · refine lv_aload_n hx hb dX0_size_14 rfl (lv_at hl 0 rfl) ?_
    refine lv_sipush (v := 1072) hx hb dX0_size_15 (by decide) ?_
    refine lv_iload_n hx hb dX0_size_18 rfl (lv_at hl 1 rfl) ?_
    refine lv_iadd hx hb dX0_size_19 ?_
    refine x_calli (As := [.int (1072 + a0)]) (rest := []) ⟨hx, hb, hml, hown, hts⟩ (kX0_read l D h0 r0 cA σ_2 (1072 + a0)) (cwV 1 hts gX0_size_X0_read rfl rfl rfl (by decide +kernel) ⟨Nat.le_of_ble_eq_true rfl, Nat.le_of_ble_eq_true rfl⟩) G rfl hl.1 rfl (Nat.le_of_ble_eq_true rfl) dX0_size_20 ⟨Nat.zero_le _, Nat.zero_le _⟩ (fun r_8 σ_9 H locs e_10 G => ?_)
    refine lv_goto (tgt := 27) hx hb dX0_size_23 (by decide) ?_
    exact g_iret (u := σ_9) E G (by (simp only [x_size, e_3, c_7, e_10, ↓reduceIte]) <;> rfl) dX0_size_27

set_option maxHeartbeats 4000000 in
set_option maxRecDepth 100000 in
theorem kX0_key (l : Launch) (D : va_G) (h0 r0 : Nat) (cA : ClassId) (σ : Sx) (a0 : Int32) (a1 : Int32) : gMl l yX0_key wsX0_key ({ frames := 4, cells := 0, slots := 0, locals := 96 }) D vwCl [(cA, .int)] [.ref h0, .int a0, .int a1] (xw h0 r0 cA) σ (fun r σ' => x_key σ a0 a1 = (r, σ')) := by
  refine gMl_of (cc := cX0_key) (maxL := 3) (ret := (some .long)) (by decide) rfl (Nat.le_of_ble_eq_true rfl) ?_
  intro p e s m below meth c A ls E G hl
  obtain ⟨hx, hb, hml, hr, hlocks, hown, hts, -, -⟩ := id E
  have hin : ∀ w ∈ wsX00, w ∈ wsX0_key := fun w h => List.mem_cons_of_mem _ (List.mem_append_right _ h)
  have hl : lv_has ls 3 [(0, .ref h0), (1, .int a0), (2, .int a1)] := hl
  refine lv_aload_n hx hb dX0_key_0 rfl (lv_at hl 0 rfl) ?_
  refine lv_ldc hx hb hown (hts (.constant RX0 29 (2147483647)) (by decide +kernel)) dX0_key_1 ?_
  refine x_callv (As := [.int (2147483647)]) (rest := []) ⟨hx, hb, hml, hown, hts⟩ (kX0_begin l D h0 r0 cA σ (2147483647)) (cwV 1 hts gX0_key_X0_begin rfl rfl rfl (by decide +kernel) ⟨Nat.le_of_ble_eq_true rfl, Nat.le_of_ble_eq_true rfl⟩) G rfl hl.1 rfl (Nat.le_of_ble_eq_true rfl) dX0_key_3 ⟨Nat.zero_le _, Nat.zero_le _⟩ (fun σ_2 H locs e_3 G => ?_)
  refine lv_iload_n hx hb dX0_key_6 rfl (lv_at hl 2 rfl) ?_
  refine lv_if_lt (tgt := 19) hx hb dX0_key_7 (by decide) (fun c_4 => ?_) (fun c_4 => ?_)
  · refine lv_ldc2 hx hb hown (hts (.constantLong RX0 60 (-9223372036854775808)) (by decide +kernel)) dX0_key_19 ?_
    exact g_lret (u := σ_2) E G (by (simp only [x_key, e_3, c_4, ↓reduceIte]) <;> rfl) dX0_key_22
  · refine lv_iload_n hx hb dX0_key_10 rfl (lv_at hl 2 rfl) ?_
    refine lv_aload_n hx hb dX0_key_11 rfl (lv_at hl 0 rfl) ?_
    refine lv_iload_n hx hb dX0_key_12 rfl (lv_at hl 1 rfl) ?_
    refine x_calli (As := [.int a0]) (rest := [.int a1]) ⟨hx, hb, hml, hown, hts⟩ (kX0_keysIn l D h0 r0 cA σ_2 a0) (cwV 1 hts gX0_key_X0_keysIn rfl rfl rfl (by decide +kernel) ⟨Nat.le_of_ble_eq_true rfl, Nat.le_of_ble_eq_true rfl⟩) G rfl hl.1 rfl (Nat.le_of_ble_eq_true rfl) dX0_key_13 ⟨Nat.zero_le _, Nat.zero_le _⟩ (fun r_5 σ_6 H locs e_7 G => ?_)
    refine lv_icmp_lt (tgt := 23) hx hb dX0_key_16 (by decide) (fun c_8 => ?_) (fun c_8 => ?_)
    · refine lv_aload_n hx hb dX0_key_23 rfl (lv_at hl 0 rfl) ?_
      refine lv_aload_n hx hb dX0_key_24 rfl (lv_at hl 0 rfl) ?_
      refine lv_iload_n hx hb dX0_key_25 rfl (lv_at hl 1 rfl) ?_
      refine x_calli (As := [.int a0]) (rest := [.ref h0]) ⟨hx, hb, hml, hown, hts⟩ (kX0_listCells l D h0 r0 cA σ_6 a0) (cwV 1 hts gX0_key_X0_listCells rfl rfl rfl (by decide +kernel) ⟨Nat.le_of_ble_eq_true rfl, Nat.le_of_ble_eq_true rfl⟩) G rfl hl.1 rfl (Nat.le_of_ble_eq_true rfl) dX0_key_26 ⟨Nat.zero_le _, Nat.zero_le _⟩ (fun r_9 σ_10 H locs e_11 G => ?_)
      refine lv_iload_n hx hb dX0_key_29 rfl (lv_at hl 2 rfl) ?_
      refine x_calll (As := [.int r_9, .int a1]) (rest := []) ⟨hx, hb, hml, hown, hts⟩ (kX0_kthListed l D h0 r0 cA σ_10 r_9 a1) (cwV 2 hts gX0_key_X0_kthListed rfl rfl rfl (by decide +kernel) ⟨Nat.le_of_ble_eq_true rfl, Nat.le_of_ble_eq_true rfl⟩) G rfl hl.1 rfl (Nat.le_of_ble_eq_true rfl) dX0_key_30 ⟨Nat.zero_le _, Nat.zero_le _⟩ (fun r_12 σ_13 H locs e_14 G => ?_)
      exact g_lret (u := σ_13) E G (by (simp only [x_key, e_3, c_4, e_7, c_8, e_11, e_14, ↓reduceIte]) <;> rfl) dX0_key_33
    · refine lv_ldc2 hx hb hown (hts (.constantLong RX0 60 (-9223372036854775808)) (by decide +kernel)) dX0_key_19 ?_
      exact g_lret (u := σ_6) E G (by (simp only [x_key, e_3, c_4, e_7, c_8, ↓reduceIte]) <;> rfl) dX0_key_22

set_option maxHeartbeats 4000000 in
set_option maxRecDepth 100000 in
theorem kX0_sum (l : Launch) (D : va_G) (h0 r0 : Nat) (cA : ClassId) (σ : Sx) (a0 : Int32) : gMl l yX0_sum wsX0_sum ({ frames := 3, cells := 0, slots := 0, locals := 71 }) D vwCl [(cA, .int)] [.ref h0, .int a0] (xw h0 r0 cA) σ (fun r σ' => x_sum σ a0 = (r, σ')) := by
  refine gMl_of (cc := cX0_sum) (maxL := 6) (ret := (some .long)) (by decide) rfl (Nat.le_of_ble_eq_true rfl) ?_
  intro p e s m below meth c A ls E G hl
  obtain ⟨hx, hb, hml, hr, hlocks, hown, hts, -, -⟩ := id E
  have hin : ∀ w ∈ wsX00, w ∈ wsX0_sum := fun w h => List.mem_cons_of_mem _ (List.mem_append_right _ h)
  have hl : lv_has ls 6 [(0, .ref h0), (1, .int a0)] := hl
  have loop : ∀ (n : Nat) (σ1 : Sx) (cn : Int32) (t : Int64) (k : Int32) (H : Heap) (locs : List Loc) (ls : Array Slot), (cn.toInt - k.toInt).toNat < n → y_sumL cn n σ1 t k = x_sum σ a0 → gG D vwCl [(cA, .int)] A s (xw h0 r0 cA σ1) H locs → lv_has ls 6 [(0, .ref h0), (1, .int a0), (2, .int cn), (3, .long t), (5, .int k)] → W p l e ({ frames := 3, cells := 0, slots := 0, locals := 71 }) s m [.ref h0, .int a0].toArray below meth c H locs 0 0 (MQ below (va_Ql (fun r σ' => x_sum σ a0 = (r, σ')) (gB D vwCl [(cA, .int)] A (xw h0 r0 cA)) A) [.ref h0, .int a0].toArray s 0 0 A) (F0 m 27 ls []) := by
    intro n
    induction n with
    | zero => intro σ1 cn t k H locs ls hm; exact absurd hm (Nat.not_lt_zero _)
    | succ n ih =>
      intro σ1 cn t k H locs ls hm hinv G hl
      refine lv_iload hx hb dX0_sum_27 (lv_at hl 4 rfl) ?_
      refine lv_iload_n hx hb dX0_sum_29 rfl (lv_at hl 2 rfl) ?_
      refine lv_icmp_ge (tgt := 49) hx hb dX0_sum_30 (by decide) (fun c_1 => ?_) (fun c_1 => ?_)
      · refine lv_lload_n hx hb dX0_sum_49 rfl (lv_at hl 3 rfl) ?_
        exact g_lret (u := σ1) E G (by rw [← hinv]; (simp only [y_sumL, c_1, ↓reduceIte]) <;> rfl) dX0_sum_50
      · refine lv_lload_n hx hb dX0_sum_33 rfl (lv_at hl 3 rfl) ?_
        refine lv_aload_n hx hb dX0_sum_34 rfl (lv_at hl 0 rfl) ?_
        refine lv_iload hx hb dX0_sum_35 (lv_at hl 4 rfl) ?_
        refine x_calli (As := [.int k]) (rest := [.long t]) ⟨hx, hb, hml, hown, hts⟩ (kX0_listedKey l D h0 r0 cA σ1 k) (cwV 1 hts gX0_sum_X0_listedKey rfl rfl rfl (by decide +kernel) ⟨Nat.le_of_ble_eq_true rfl, Nat.le_of_ble_eq_true rfl⟩) G rfl hl.1 rfl (Nat.le_of_ble_eq_true rfl) dX0_sum_37 ⟨Nat.zero_le _, Nat.zero_le _⟩ (fun r_2 σ_3 H locs e_4 G => ?_)
        refine lv_i2l (v := r_2.toInt64) hx hb dX0_sum_40 rfl ?_
        refine lv_ladd hx hb dX0_sum_41 ?_
        refine lv_topl (fun v_5 ev_5 => ?_)
        refine lv_lstore_n (lv' := [(3, .long v_5), (0, .ref h0), (1, .int a0), (2, .int cn), (5, .int k)]) hx hb dX0_sum_42 rfl hl (by decide) rfl (fun ls hl => ?_)
        obtain ⟨v_6, ev_6⟩ : ∃ y : Int32, y = k + 1 := ⟨_, rfl⟩
        refine lv_iinc (v := v_6) (lv' := [(5, .int v_6), (3, .long v_5), (0, .ref h0), (1, .int a0), (2, .int cn)]) hx hb dX0_sum_43 hl (k := 4) rfl (by rw [ev_6]; rfl) (by decide) rfl (fun ls hl => ?_)
        refine lv_goto (tgt := 27) hx hb dX0_sum_46 (by decide) ?_
        exact ih σ_3 cn v_5 v_6 _ _ _ (by subst ev_6; subst ev_5; exact Nat.lt_of_lt_of_le (x_meas c_1) (Nat.le_of_lt_succ hm)) (by subst ev_6; subst ev_5; rw [← hinv]; (simp only [y_sumL, c_1, e_4, ↓reduceIte]) <;> rfl) G (lv_sub hl [2, 3, 4, 1, 0] rfl)
  refine lv_aload_n hx hb dX0_sum_0 rfl (lv_at hl 0 rfl) ?_
  refine lv_ldc hx hb hown (hts (.constant RX0 29 (2147483647)) (by decide +kernel)) dX0_sum_1 ?_
  refine x_callv (As := [.int (2147483647)]) (rest := []) ⟨hx, hb, hml, hown, hts⟩ (kX0_begin l D h0 r0 cA σ (2147483647)) (cwV 1 hts gX0_sum_X0_begin rfl rfl rfl (by decide +kernel) ⟨Nat.le_of_ble_eq_true rfl, Nat.le_of_ble_eq_true rfl⟩) G rfl hl.1 rfl (Nat.le_of_ble_eq_true rfl) dX0_sum_3 ⟨Nat.zero_le _, Nat.zero_le _⟩ (fun σ_8 H locs e_9 G => ?_)
  refine lv_aload_n hx hb dX0_sum_6 rfl (lv_at hl 0 rfl) ?_
  refine lv_iload_n hx hb dX0_sum_7 rfl (lv_at hl 1 rfl) ?_
  refine x_calli (As := [.int a0]) (rest := []) ⟨hx, hb, hml, hown, hts⟩ (kX0_exists l D h0 r0 cA σ_8 a0) (cwV 1 hts gX0_sum_X0_exists rfl rfl rfl (by decide +kernel) ⟨Nat.le_of_ble_eq_true rfl, Nat.le_of_ble_eq_true rfl⟩) G rfl hl.1 rfl (Nat.le_of_ble_eq_true rfl) dX0_sum_8 ⟨Nat.zero_le _, Nat.zero_le _⟩ (fun r_10 σ_11 H locs e_12 G => ?_)
  obtain ⟨rfl, rfl⟩ := e_12
  refine lv_if_ne (tgt := 16) hx hb dX0_sum_11 (by decide) (fun c_13 => ?_) (fun c_13 => ?_)
  · refine lv_aload_n hx hb dX0_sum_16 rfl (lv_at hl 0 rfl) ?_
    refine lv_iload_n hx hb dX0_sum_17 rfl (lv_at hl 1 rfl) ?_
    refine x_calli (As := [.int a0]) (rest := []) ⟨hx, hb, hml, hown, hts⟩ (kX0_listCells l D h0 r0 cA σ_8 a0) (cwV 1 hts gX0_sum_X0_listCells rfl rfl rfl (by decide +kernel) ⟨Nat.le_of_ble_eq_true rfl, Nat.le_of_ble_eq_true rfl⟩) G rfl hl.1 rfl (Nat.le_of_ble_eq_true rfl) dX0_sum_18 ⟨Nat.zero_le _, Nat.zero_le _⟩ (fun r_14 σ_15 H locs e_16 G => ?_)
    refine lv_istore_n (lv' := [(2, .int r_14), (0, .ref h0), (1, .int a0)]) hx hb dX0_sum_21 rfl hl (by decide) rfl (fun ls hl => ?_)
    refine lv_lconst (v := 0) hx hb dX0_sum_22 (by decide) ?_
    refine lv_lstore_n (lv' := [(3, .long 0), (2, .int r_14), (0, .ref h0), (1, .int a0)]) hx hb dX0_sum_23 rfl hl (by decide) rfl (fun ls hl => ?_)
    refine lv_iconst (v := 0) hx hb dX0_sum_24 (by decide) ?_
    refine lv_istore (lv' := [(5, .int 0), (3, .long 0), (2, .int r_14), (0, .ref h0), (1, .int a0)]) hx hb dX0_sum_25 hl (by decide) rfl (fun ls hl => ?_)
    exact loop (r_14.toInt.toNat + 1) σ_15 r_14 0 0 _ _ _ (x_meas0) (by (simp only [x_sum, e_9, c_13, e_16, ↓reduceIte]) <;> rfl) G (lv_sub hl [3, 4, 2, 1, 0] rfl)
  · refine lv_lconst (v := 0) hx hb dX0_sum_14 (by decide) ?_
    exact g_lret (u := σ_8) E G (by (simp only [x_sum, e_9, c_13, ↓reduceIte]) <;> rfl) dX0_sum_15

set_option maxHeartbeats 4000000 in
set_option maxRecDepth 100000 in
theorem kX0_free (l : Launch) (D : va_G) (h0 r0 : Nat) (cA : ClassId) (σ : Sx) : gMi l yX0_free wsX0_free ({ frames := 1, cells := 0, slots := 0, locals := 21 }) D vwCl [(cA, .int)] [.ref h0] (xw h0 r0 cA) σ (fun r σ' => x_free σ = (r, σ')) := by
  refine gMi_of (cc := cX0_free) (maxL := 1) (ret := (some .int)) (by decide) rfl (Nat.le_of_ble_eq_true rfl) ?_
  intro p e s m below meth c A ls E G hl
  obtain ⟨hx, hb, hml, hr, hlocks, hown, hts, -, -⟩ := id E
  have hin : ∀ w ∈ wsX00, w ∈ wsX0_free := fun w h => List.mem_cons_of_mem _ (List.mem_append_right _ h)
  have hl : lv_has ls 1 [(0, .ref h0)] := hl
  refine lv_aload_n hx hb dX0_free_0 rfl (lv_at hl 0 rfl) ?_
  refine lv_ldc hx hb hown (hts (.constant RX0 29 (2147483647)) (by decide +kernel)) dX0_free_1 ?_
  refine x_callv (As := [.int (2147483647)]) (rest := []) ⟨hx, hb, hml, hown, hts⟩ (kX0_begin l D h0 r0 cA σ (2147483647)) (cwV 1 hts gX0_free_X0_begin rfl rfl rfl (by decide +kernel) ⟨Nat.le_of_ble_eq_true rfl, Nat.le_of_ble_eq_true rfl⟩) G rfl hl.1 rfl (Nat.le_of_ble_eq_true rfl) dX0_free_3 ⟨Nat.zero_le _, Nat.zero_le _⟩ (fun σ_2 H locs e_3 G => ?_)
  refine lv_aload_n hx hb dX0_free_6 rfl (lv_at hl 0 rfl) ?_
  refine g_get (C := RX0) (T := TX0) (N := 6) (ci := 0) (v := .int σ_2.2.2.1) hx hb hts hin hown G 0 rfl rfl 2 (by decide) (hts (.fieldLink RX0 93 "SkewMelds" "unused" "I") (by decide +kernel)) rfl rfl dX0_free_7 ?_
  exact g_iret (u := σ_2) E G (by (simp only [x_free, e_3, ↓reduceIte]) <;> rfl) dX0_free_10

set_option maxHeartbeats 4000000 in
set_option maxRecDepth 100000 in
theorem kX0_few (l : Launch) (D : va_G) (h0 r0 : Nat) (cA : ClassId) (σ : Sx) : gMi l yX0_few wsX0_few ({ frames := 1, cells := 0, slots := 0, locals := 21 }) D vwCl [(cA, .int)] [.ref h0] (xw h0 r0 cA) σ (fun r σ' => x_few σ = (r, σ')) := by
  refine gMi_of (cc := cX0_few) (maxL := 2) (ret := (some .boolean)) (by decide) rfl (Nat.le_of_ble_eq_true rfl) ?_
  intro p e s m below meth c A ls E G hl
  obtain ⟨hx, hb, hml, hr, hlocks, hown, hts, -, -⟩ := id E
  have hin : ∀ w ∈ wsX00, w ∈ wsX0_few := fun w h => List.mem_cons_of_mem _ (List.mem_append_right _ h)
  have hl : lv_has ls 2 [(0, .ref h0)] := hl
  refine lv_aload_n hx hb dX0_few_0 rfl (lv_at hl 0 rfl) ?_
  refine g_get (C := RX0) (T := TX0) (N := 6) (ci := 0) (v := .int σ.2.2.2.2.1) hx hb hts hin hown G 0 rfl rfl 4 (by decide) (hts (.fieldLink RX0 96 "SkewMelds" "steps" "I") (by decide +kernel)) rfl rfl dX0_few_1 ?_
  refine lv_aload_n hx hb dX0_few_4 rfl (lv_at hl 0 rfl) ?_
  refine g_get (C := RX0) (T := TX0) (N := 6) (ci := 0) (v := .int σ.2.2.2.2.2) hx hb hts hin hown G 0 rfl rfl 5 (by decide) (hts (.fieldLink RX0 99 "SkewMelds" "limit" "I") (by decide +kernel)) rfl rfl dX0_few_5 ?_
  refine lv_icmp_gt (tgt := 15) hx hb dX0_few_8 (by decide) (fun c_1 => ?_) (fun c_1 => ?_)
  · refine lv_iconst (v := 0) hx hb dX0_few_15 (by decide) ?_
    refine lv_istore_n (lv' := [(1, .int 0), (0, .ref h0)]) hx hb dX0_few_16 rfl hl (by decide) rfl (fun ls hl => ?_)
    refine lv_aload_n hx hb dX0_few_17 rfl (lv_at hl 1 rfl) ?_
    refine lv_ldc hx hb hown (hts (.constant RX0 29 (2147483647)) (by decide +kernel)) dX0_few_18 ?_
    refine x_callv (As := [.int (2147483647)]) (rest := []) ⟨hx, hb, hml, hown, hts⟩ (kX0_begin l D h0 r0 cA σ (2147483647)) (cwV 1 hts gX0_few_X0_begin rfl rfl rfl (by decide +kernel) ⟨Nat.le_of_ble_eq_true rfl, Nat.le_of_ble_eq_true rfl⟩) G rfl hl.1 rfl (Nat.le_of_ble_eq_true rfl) dX0_few_20 ⟨Nat.zero_le _, Nat.zero_le _⟩ (fun σ_3 H locs e_4 G => ?_)
    refine lv_iload_n hx hb dX0_few_23 rfl (lv_at hl 0 rfl) ?_
    exact g_zret (u := σ_3) E G (by decide) (by (simp only [x_few, c_1, e_4, ↓reduceIte]) <;> rfl) dX0_few_24
  · refine lv_iconst (v := 1) hx hb dX0_few_11 (by decide) ?_
    refine lv_goto (tgt := 16) hx hb dX0_few_12 (by decide) ?_
    refine lv_istore_n (lv' := [(1, .int 1), (0, .ref h0)]) hx hb dX0_few_16 rfl hl (by decide) rfl (fun ls hl => ?_)
    refine lv_aload_n hx hb dX0_few_17 rfl (lv_at hl 1 rfl) ?_
    refine lv_ldc hx hb hown (hts (.constant RX0 29 (2147483647)) (by decide +kernel)) dX0_few_18 ?_
    refine x_callv (As := [.int (2147483647)]) (rest := []) ⟨hx, hb, hml, hown, hts⟩ (kX0_begin l D h0 r0 cA σ (2147483647)) (cwV 1 hts gX0_few_X0_begin rfl rfl rfl (by decide +kernel) ⟨Nat.le_of_ble_eq_true rfl, Nat.le_of_ble_eq_true rfl⟩) G rfl hl.1 rfl (Nat.le_of_ble_eq_true rfl) dX0_few_20 ⟨Nat.zero_le _, Nat.zero_le _⟩ (fun σ_6 H locs e_7 G => ?_)
    refine lv_iload_n hx hb dX0_few_23 rfl (lv_at hl 0 rfl) ?_
    exact g_zret (u := σ_6) E G (by decide) (by (simp only [x_few, c_1, e_7, ↓reduceIte]) <;> rfl) dX0_few_24
end
section
/-! the forest in the row: pure, nothing of the machine. A forest is a binary tree in a type that is there: .append (.tag cell children) siblings; all else is the empty forest -/
def RS (σ : Sx) (f : Nat → Int32) (n : Nat) : Sx := (f, σ.2.1, σ.2.2.1, σ.2.2.2.1, σ.2.2.2.2.1 + nI n, σ.2.2.2.2.2)
theorem RS_0 (σ : Sx) : RS σ σ.1 0 = σ := by
  unfold RS
  rw [nI_0]
  simp
theorem RS_read {σ : Sx} {f : Nat → Int32} {n k : Nat} (h : k < 1080) : x_read (RS σ f n) (nI k) = (f k, RS σ f (n + 1)) := by
  unfold x_read
  rw [if_neg (nI_pos (by omega)), if_pos (show nI k < (1080 : Int32) from nI_lt (b := 1080) h (by omega)), nI_clamp (by omega)]
  simp [RS, x_sS, nI_succ, Int32.add_assoc]
theorem RS_write {σ : Sx} {f : Nat → Int32} {n k : Nat} {v : Int32} (h : k < 1080) : x_write (RS σ f n) (nI k) v = RS σ (upd f k v) (n + 1) := by
  unfold x_write
  rw [if_neg (nI_pos (by omega)), if_pos (show nI k < (1080 : Int32) from nI_lt (b := 1080) h (by omega)), nI_clamp (by omega)]
  simp [RS, x_sS, x_sR, nI_succ, Int32.add_assoc]
theorem ad_0 (a : Nat) : (0 : Int32) + nI a = nI a := by simp
theorem ad_200 (a : Nat) : (200 : Int32) + nI a = nI (200 + a) := nI_add 200 a
theorem ad_400 (a : Nat) : (400 : Int32) + nI a = nI (400 + a) := nI_add 400 a
theorem ad_600 (a : Nat) : (600 : Int32) + nI a = nI (600 + a) := nI_add 600 a
theorem ad_800 (a : Nat) : (800 : Int32) + nI a = nI (800 + a) := nI_add 800 a
theorem ad_tw (a : Nat) : (1064 : Int32) + nI a = nI (1064 + a) := nI_add 1064 a
theorem ad_sz (a : Nat) : (1072 : Int32) + nI a = nI (1072 + a) := nI_add 1072 a
theorem ad_top (h r : Nat) : x_topAt (nI h) (nI r) = nI (1000 + (8 * h + r)) := by
  unfold x_topAt
  show nI 1000 + nI h * nI 8 + nI r = _
  rw [pk_mul, nI_add, nI_add]
  congr 1
  omega
theorem nI_ne_m1 {a : Nat} (h : a < 2 ^ 31) : ¬ nI a = -1 := fun e => by
  have := nI_pos h
  rw [e] at this
  exact this (by decide)
theorem nI_inj {a b : Nat} (ha : a < 2 ^ 31) (hb : b < 2 ^ 31) (h : nI a = nI b) : a = b := (nI_eq ha hb).mp h
abbrev Tr : Type := Nat × Nat × Std.Format
def fcells : Std.Format → List Nat
  | .append (.tag c a) b => c :: (fcells a ++ fcells b)
  | _ => []
def flen : Std.Format → Nat
  | .append (.tag _ _) b => flen b + 1
  | _ => 0
def fok (f : Nat → Int32) : Std.Format → Int32 → Int32 → Prop
  | .append (.tag c a) b, p, k => p = nI c ∧ c < 200 ∧ k ≤ f c ∧ (∃ r, f (200 + c) = nI r ∧ flen a ≤ 2 * r ∧ 2 ^ r ≤ 1 + (fcells a).length) ∧ fok f a (f (400 + c)) (f c) ∧ fok f b (f (600 + c)) k
  | _, p, _ => p = -1
def tc (t : Tr) : List Nat := t.2.1 :: fcells t.2.2
def tok (f : Nat → Int32) (t : Tr) : Prop := t.2.1 < 200 ∧ f (200 + t.2.1) = nI t.1 ∧ flen t.2.2 ≤ 2 * t.1 ∧ 2 ^ t.1 ≤ 1 + (fcells t.2.2).length ∧ fok f t.2.2 (f (400 + t.2.1)) (f t.2.1)
def agr (Z : List Nat) (f g : Nat → Int32) : Prop := ∀ c ∈ Z, g c = f c ∧ g (200 + c) = f (200 + c) ∧ g (400 + c) = f (400 + c) ∧ g (600 + c) = f (600 + c)
def oc : Option Tr → List Nat
  | none => []
  | some t => tc t
def slotOk (f : Nat → Int32) (i : Nat) : Option Tr → Prop
  | none => f (1000 + i) = -1
  | some t => f (1000 + i) = nI t.2.1 ∧ tok f t ∧ (i < 64 → t.1 = i % 8)
def tcs (TT : Nat → Option Tr) : List Nat := (List.range 72).flatMap (fun i => oc (TT i))
def PI (f : Nat → Int32) (TT : Nat → Option Tr) (hand : List Tr) (Z : List Nat) : Prop :=
  (∀ i, i < 72 → slotOk f i (TT i)) ∧ (∀ t ∈ hand, tok f t) ∧ (Z ++ (hand.flatMap tc ++ tcs TT)).Nodup ∧ (Z ++ (hand.flatMap tc ++ tcs TT)).length = 200 ∧ ∀ c ∈ Z, c < 200
theorem fok_lt {f : Nat → Int32} : ∀ (t : Std.Format) (p k : Int32), fok f t p k → ∀ c ∈ fcells t, c < 200 := by
  intro t
  induction t using fcells.induct with
  | case1 c a b iha ihb =>
    intro p k h x hx
    simp only [fok] at h
    simp only [fcells, List.mem_cons, List.mem_append] at hx
    rcases hx with rfl | hx | hx
    · exact h.2.1
    · exact iha _ _ h.2.2.2.2.1 x hx
    · exact ihb _ _ h.2.2.2.2.2 x hx
  | case2 t ht =>
    intro p k h x hx
    rw [fcells] at hx
    · simp at hx
    · exact ht
theorem fok_agr {f g : Nat → Int32} : ∀ (t : Std.Format) (p k : Int32), agr (fcells t) f g → fok f t p k → fok g t p k := by
  intro t
  induction t using fcells.induct with
  | case1 c a b iha ihb =>
    intro p k hz h
    simp only [fok] at h ⊢
    obtain ⟨e0, e2, e4, e6⟩ := hz c (by simp [fcells])
    rw [e0, e2, e4, e6]
    exact ⟨h.1, h.2.1, h.2.2.1, h.2.2.2.1, iha _ _ (fun x hx => hz x (by simp [fcells, hx])) h.2.2.2.2.1, ihb _ _ (fun x hx => hz x (by simp [fcells, hx])) h.2.2.2.2.2⟩
  | case2 t ht =>
    intro p k hz h
    rw [fok] at h ⊢
    · exact h
    · exact ht
    · exact ht
theorem fok_mono {f : Nat → Int32} : ∀ (t : Std.Format) (p k k' : Int32), k' ≤ k → fok f t p k → fok f t p k' := by
  intro t
  induction t using fcells.induct with
  | case1 c a b iha ihb =>
    intro p k k' hk h
    simp only [fok] at h ⊢
    exact ⟨h.1, h.2.1, Int32.le_trans hk h.2.2.1, h.2.2.2.1, h.2.2.2.2.1, ihb _ _ _ hk h.2.2.2.2.2⟩
  | case2 t ht =>
    intro p k k' hk h
    rw [fok] at h ⊢
    · exact h
    · exact ht
    · exact ht
/-- the least key of a forest is not below the bound -/
theorem fok_min {f : Nat → Int32} : ∀ (t : Std.Format) (p k : Int32), fok f t p k → ∀ c ∈ fcells t, k ≤ f c := by
  intro t
  induction t using fcells.induct with
  | case1 c a b iha ihb =>
    intro p k h x hx
    simp only [fok] at h
    simp only [fcells, List.mem_cons, List.mem_append] at hx
    rcases hx with rfl | hx | hx
    · exact h.2.2.1
    · exact Int32.le_trans h.2.2.1 (iha _ _ h.2.2.2.2.1 x hx)
    · exact ihb _ _ h.2.2.2.2.2 x hx
  | case2 t ht =>
    intro p k h x hx
    rw [fcells] at hx
    · simp at hx
    · exact ht
theorem tok_lt {f : Nat → Int32} {t : Tr} (h : tok f t) : ∀ c ∈ tc t, c < 200 := by
  intro c hc
  rcases List.mem_cons.mp hc with rfl | hc
  · exact h.1
  · exact fok_lt _ _ _ h.2.2.2.2 c hc
theorem tok_agr {f g : Nat → Int32} {t : Tr} (hz : agr (tc t) f g) (h : tok f t) : tok g t := by
  obtain ⟨e0, e2, e4, e6⟩ := hz t.2.1 List.mem_cons_self
  refine ⟨h.1, by rw [e2]; exact h.2.1, h.2.2.1, h.2.2.2.1, ?_⟩
  rw [e0, e4]
  exact fok_agr _ _ _ (fun x hx => hz x (List.mem_cons_of_mem _ hx)) h.2.2.2.2
theorem agr_sub {Z Z' : List Nat} {f g : Nat → Int32} (h : agr Z f g) (hs : ∀ c ∈ Z', c ∈ Z) : agr Z' f g := fun c hc => h c (hs c hc)
theorem agr_rf {Z : List Nat} {f : Nat → Int32} : agr Z f f := fun _ _ => ⟨rfl, rfl, rfl, rfl⟩
theorem agr_tr {Z : List Nat} {f g k : Nat → Int32} (h1 : agr Z f g) (h2 : agr Z g k) : agr Z f k := fun c hc => by
  obtain ⟨a, b, d, e⟩ := h1 c hc
  obtain ⟨a', b', d', e'⟩ := h2 c hc
  exact ⟨a'.trans a, b'.trans b, d'.trans d, e'.trans e⟩
theorem agr_hi {Z : List Nat} {f : Nat → Int32} {k : Nat} {v : Int32} (hZ : ∀ c ∈ Z, c < 200) (hk : 800 ≤ k) : agr Z f (upd f k v) := fun c hc => by
  have := hZ c hc
  exact ⟨pk_un (by omega), pk_un (by omega), pk_un (by omega), pk_un (by omega)⟩
theorem fm_congr {α β : Type} {f g : α → List β} : ∀ {l : List α}, (∀ x ∈ l, f x = g x) → l.flatMap f = l.flatMap g := by
  intro l
  induction l with
  | nil => intro _; rfl
  | cons x l ih => intro h; rw [List.flatMap_cons, List.flatMap_cons, h x List.mem_cons_self, ih (fun y hy => h y (List.mem_cons_of_mem _ hy))]
end
section
/-! trees in the table of places, trees in hand, and the cells Z of whatever else: what cutting, putting, linking and hanging do -/
theorem fm_up {α : Type} (g g' : Nat → List α) (i : Nat) : ∀ (l : List Nat), l.Nodup → i ∈ l → (∀ j ∈ l, j ≠ i → g' j = g j) → (l.flatMap g' ++ g i).Perm (g' i ++ l.flatMap g) := by
  intro l
  induction l with
  | nil => intro _ h; simp at h
  | cons x l ih =>
    intro hn hi hj
    simp only [List.flatMap_cons]
    by_cases hx : x = i
    · subst hx
      have : l.flatMap g' = l.flatMap g := by
        apply fm_congr
        intro j hj2
        exact hj j (List.mem_cons_of_mem _ hj2) (fun e => (List.nodup_cons.mp hn).1 (e ▸ hj2))
      rw [this]
      refine List.perm_append_comm.trans ?_
      rw [← List.append_assoc, ← List.append_assoc]
      exact List.perm_append_comm.append_right _
    · have hi2 : i ∈ l := by
        rcases List.mem_cons.mp hi with h | h
        · exact absurd h.symm hx
        · exact h
      have h1 := ih (List.nodup_cons.mp hn).2 hi2 (fun j h2 h3 => hj j (List.mem_cons_of_mem _ h2) h3)
      rw [hj x List.mem_cons_self hx, List.append_assoc]
      refine (h1.append_left _).trans ?_
      rw [← List.append_assoc, ← List.append_assoc]
      exact List.perm_append_comm.append_right _
def up (TT : Nat → Option Tr) (i : Nat) (o : Option Tr) : Nat → Option Tr := fun j => if j = i then o else TT j
theorem up_s {TT : Nat → Option Tr} {i : Nat} {o : Option Tr} : up TT i o i = o := by simp [up]
theorem up_n {TT : Nat → Option Tr} {i j : Nat} {o : Option Tr} (h : j ≠ i) : up TT i o j = TT j := by simp [up, h]
theorem tcs_up {TT : Nat → Option Tr} {i : Nat} {o : Option Tr} (hi : i < 72) : (tcs (up TT i o) ++ oc (TT i)).Perm (oc o ++ tcs TT) := by
  have h := fm_up (fun j => oc (TT j)) (fun j => oc (up TT i o j)) i (List.range 72) List.nodup_range (List.mem_range.mpr hi) (fun j _ h => by simp [up_n h])
  simpa [up_s, tcs] using h
theorem tcs_mem {TT : Nat → Option Tr} {i : Nat} {t : Tr} (hi : i < 72) (h : TT i = some t) : ∀ c ∈ tc t, c ∈ tcs TT := by
  intro c hc
  exact List.mem_flatMap.mpr ⟨i, List.mem_range.mpr hi, by rw [h]; exact hc⟩
def NL (L : List Nat) : Prop := L.Nodup ∧ L.length = 200
theorem NL_perm {L L' : List Nat} (h : L.Perm L') (hn : NL L) : NL L' := ⟨h.nodup_iff.mp hn.1, h.length_eq ▸ hn.2⟩
theorem PI_NL {f : Nat → Int32} {TT : Nat → Option Tr} {hand : List Tr} {Z : List Nat} (h : PI f TT hand Z) : NL (Z ++ (hand.flatMap tc ++ tcs TT)) := ⟨h.2.2.1, h.2.2.2.1⟩
theorem PI_lt {f : Nat → Int32} {TT : Nat → Option Tr} {hand : List Tr} {Z : List Nat} (h : PI f TT hand Z) : ∀ c ∈ hand.flatMap tc ++ tcs TT, c < 200 := by
  intro c hc
  rcases List.mem_append.mp hc with hc | hc
  · obtain ⟨t, ht, hc⟩ := List.mem_flatMap.mp hc
    exact tok_lt (h.2.1 t ht) c hc
  · obtain ⟨i, hi, hc⟩ := List.mem_flatMap.mp hc
    have hs := h.1 i (List.mem_range.mp hi)
    cases ht : TT i with
    | none => rw [ht] at hc; simp [oc] at hc
    | some t => rw [ht] at hc hs; exact tok_lt hs.2.1 c hc
theorem PI_chg {f g : Nat → Int32} {TT : Nat → Option Tr} {ts ts' hand : List Tr} {Z : List Nat} (h : PI f TT (ts ++ hand) Z) (ha : agr (hand.flatMap tc ++ tcs TT) f g) (hs : ∀ i, i < 72 → g (1000 + i) = f (1000 + i)) (ht : ∀ t ∈ ts', tok g t) (hp : (ts'.flatMap tc).Perm (ts.flatMap tc)) : PI g TT (ts' ++ hand) Z := by
  have hN : NL (Z ++ ((ts' ++ hand).flatMap tc ++ tcs TT)) := by
    refine NL_perm ?_ (PI_NL h)
    simp only [List.flatMap_append, List.append_assoc]
    exact (hp.symm.append_right _).append_left _
  refine ⟨fun i hi => ?_, fun t h1 => ?_, hN.1, hN.2, h.2.2.2.2⟩
  · have h1 := h.1 i hi
    cases h2 : TT i with
    | none => rw [h2] at h1; show g _ = _; rw [hs i hi]; exact h1
    | some t =>
      rw [h2] at h1
      exact ⟨by rw [hs i hi]; exact h1.1, tok_agr (agr_sub ha (fun c hc => List.mem_append_right _ (tcs_mem hi h2 c hc))) h1.2.1, h1.2.2⟩
  · rcases List.mem_append.mp h1 with h1 | h1
    · exact ht t h1
    · exact tok_agr (agr_sub ha (fun c hc => List.mem_append_left _ (List.mem_flatMap.mpr ⟨t, h1, hc⟩))) (h.2.1 t (List.mem_append_right _ h1))
theorem PI_cut {f : Nat → Int32} {TT : Nat → Option Tr} {hand : List Tr} {Z : List Nat} {i : Nat} {t : Tr} (h : PI f TT hand Z) (hi : i < 72) (ht : TT i = some t) : PI (upd f (1000 + i) (-1)) (up TT i none) (t :: hand) Z := by
  have hN : NL (Z ++ ((t :: hand).flatMap tc ++ tcs (up TT i none))) := by
    refine NL_perm ?_ (PI_NL h)
    have h1 := tcs_up (TT := TT) (o := none) hi
    rw [ht] at h1
    simp only [List.flatMap_cons]
    refine List.Perm.append_left _ (List.perm_iff_count.mpr fun a => ?_)
    have h2 := h1.count_eq a
    simp only [List.count_append, oc, List.count_nil] at h2 ⊢
    omega
  have hlt := PI_lt h
  refine ⟨fun j hj => ?_, fun t' h1 => ?_, hN.1, hN.2, h.2.2.2.2⟩
  · by_cases hji : j = i
    · subst hji
      rw [up_s]
      exact pk_us
    · rw [up_n hji]
      have h1 := h.1 j hj
      cases h2 : TT j with
      | none => rw [h2] at h1; show upd _ _ _ _ = _; rw [pk_un (by omega)]; exact h1
      | some t2 =>
        rw [h2] at h1
        exact ⟨by rw [pk_un (by omega)]; exact h1.1, tok_agr (agr_hi (tok_lt h1.2.1) (by omega)) h1.2.1, h1.2.2⟩
  · rcases List.mem_cons.mp h1 with rfl | h1
    · have h2 := h.1 i hi
      rw [ht] at h2
      exact tok_agr (agr_hi (tok_lt h2.2.1) (by omega)) h2.2.1
    · exact tok_agr (agr_hi (tok_lt (h.2.1 t' h1)) (by omega)) (h.2.1 t' h1)
theorem PI_put {f : Nat → Int32} {TT : Nat → Option Tr} {hand : List Tr} {Z : List Nat} {i : Nat} {t : Tr} (h : PI f TT (t :: hand) Z) (hi : i < 72) (ht : TT i = none) (hr : i < 64 → t.1 = i % 8) : PI (upd f (1000 + i) (nI t.2.1)) (up TT i (some t)) hand Z := by
  have hN : NL (Z ++ (hand.flatMap tc ++ tcs (up TT i (some t)))) := by
    refine NL_perm ?_ (PI_NL h)
    have h1 := tcs_up (TT := TT) (o := some t) hi
    rw [ht] at h1
    simp only [List.flatMap_cons]
    refine List.Perm.append_left _ (List.perm_iff_count.mpr fun a => ?_)
    have h2 := h1.count_eq a
    simp only [List.count_append, oc, List.count_nil] at h2 ⊢
    omega
  refine ⟨fun j hj => ?_, fun t' h1 => ?_, hN.1, hN.2, h.2.2.2.2⟩
  · by_cases hji : j = i
    · subst hji
      rw [up_s]
      have h2 := h.2.1 t List.mem_cons_self
      exact ⟨pk_us, tok_agr (agr_hi (tok_lt h2) (by omega)) h2, hr⟩
    · rw [up_n hji]
      have h1 := h.1 j hj
      cases h2 : TT j with
      | none => rw [h2] at h1; show upd _ _ _ _ = _; rw [pk_un (by omega)]; exact h1
      | some t2 =>
        rw [h2] at h1
        exact ⟨by rw [pk_un (by omega)]; exact h1.1, tok_agr (agr_hi (tok_lt h1.2.1) (by omega)) h1.2.1, h1.2.2⟩
  · have h2 := h.2.1 t' (List.mem_cons_of_mem _ h1)
    exact tok_agr (agr_hi (tok_lt h2) (by omega)) h2
/-- a tree has at most 200 cells, so its rank is below 8 -/
theorem PI_rank {f : Nat → Int32} {TT : Nat → Option Tr} {hand : List Tr} {Z : List Nat} {t : Tr} (h : PI f TT (t :: hand) Z) : t.1 < 8 := by
  have h1 := h.2.1 t List.mem_cons_self
  have h2 := h.2.2.2.1
  simp only [List.flatMap_cons, List.length_append, tc, List.length_cons] at h2
  have h3 : 2 ^ t.1 ≤ 200 := by have := h1.2.2.2.1; omega
  rcases Nat.lt_or_ge t.1 8 with h4 | h4
  · exact h4
  · have := Nat.pow_le_pow_right (n := 2) (by omega) h4
    omega
/-- two trees of one rank under one root -/
def lkT (root other : Tr) : Tr := (root.1 + 1, root.2.1, .append (.tag other.2.1 other.2.2) root.2.2)
def lkF (f : Nat → Int32) (root other : Tr) : Nat → Int32 := upd (upd (upd f (600 + other.2.1) (f (400 + root.2.1))) (400 + root.2.1) (nI other.2.1)) (200 + root.2.1) (nI (root.1 + 1))
theorem lkF_agr {f : Nat → Int32} {root other : Tr} {Z : List Nat} (hZ : ∀ c ∈ Z, c < 200) (h1 : root.2.1 < 200) (h2 : other.2.1 < 200) (hr : root.2.1 ∉ Z) (ho : other.2.1 ∉ Z) : agr Z f (lkF f root other) := by
  intro c hc
  have h3 := hZ c hc
  have h4 : c ≠ root.2.1 := fun e => hr (e ▸ hc)
  have h5 : c ≠ other.2.1 := fun e => ho (e ▸ hc)
  unfold lkF
  refine ⟨?_, ?_, ?_, ?_⟩ <;> rw [pk_un (by omega), pk_un (by omega), pk_un (by omega)]
theorem lk_tok {f : Nat → Int32} {root other : Tr} (h1 : tok f root) (h2 : tok f other) (hrk : root.1 = other.1) (hk : f root.2.1 ≤ f other.2.1) (hn : (tc root ++ tc other).Nodup) : tok (lkF f root other) (lkT root other) := by
  obtain ⟨a1, a2, a3, a4, a5⟩ := h1
  obtain ⟨b1, b2, b3, b4, b5⟩ := h2
  obtain ⟨n1, n2, n3⟩ := List.nodup_append.mp hn
  have hne : root.2.1 ≠ other.2.1 := n3 _ List.mem_cons_self _ List.mem_cons_self
  have ro : root.2.1 ∉ fcells other.2.2 := fun h => n3 _ List.mem_cons_self _ (List.mem_cons_of_mem _ h) rfl
  have rr : root.2.1 ∉ fcells root.2.2 := (List.nodup_cons.mp n1).1
  have oo : other.2.1 ∉ fcells other.2.2 := (List.nodup_cons.mp n2).1
  have orr : other.2.1 ∉ fcells root.2.2 := fun h => n3 _ (List.mem_cons_of_mem _ h) _ List.mem_cons_self rfl
  have e0r : lkF f root other root.2.1 = f root.2.1 := by unfold lkF; rw [pk_un (by omega), pk_un (by omega), pk_un (by omega)]
  have e0o : lkF f root other other.2.1 = f other.2.1 := by unfold lkF; rw [pk_un (by omega), pk_un (by omega), pk_un (by omega)]
  have e2o : lkF f root other (200 + other.2.1) = f (200 + other.2.1) := by unfold lkF; rw [pk_un (by omega), pk_un (by omega), pk_un (by omega)]
  have e4o : lkF f root other (400 + other.2.1) = f (400 + other.2.1) := by unfold lkF; rw [pk_un (by omega), pk_un (by omega), pk_un (by omega)]
  have e6o : lkF f root other (600 + other.2.1) = f (400 + root.2.1) := by unfold lkF; rw [pk_un (by omega), pk_un (by omega), pk_us]
  have e4r : lkF f root other (400 + root.2.1) = nI other.2.1 := by unfold lkF; rw [pk_un (by omega), pk_us]
  have e2r : lkF f root other (200 + root.2.1) = nI (root.1 + 1) := by unfold lkF; rw [pk_us]
  refine ⟨a1, e2r, ?_, ?_, ?_⟩
  · show flen root.2.2 + 1 ≤ 2 * (root.1 + 1)
    omega
  · show 2 ^ (root.1 + 1) ≤ 1 + (other.2.1 :: (fcells other.2.2 ++ fcells root.2.2)).length
    rw [Nat.pow_succ]
    rw [← hrk] at b4
    simp only [List.length_cons, List.length_append]
    omega
  · show fok (lkF f root other) (.append (.tag other.2.1 other.2.2) root.2.2) _ _
    simp only [fok]
    show lkF f root other (400 + root.2.1) = _ ∧ _
    rw [e4r]
    show _ ∧ _ ∧ lkF f root other root.2.1 ≤ _ ∧ _ ∧ _ ∧ fok _ _ _ (lkF f root other root.2.1)
    rw [e0r, e0o, e2o, e4o, e6o]
    refine ⟨rfl, b1, hk, ⟨other.1, b2, b3, b4⟩, fok_agr _ _ _ (lkF_agr (fok_lt _ _ _ b5) a1 b1 ro oo) b5, fok_agr _ _ _ (lkF_agr (fok_lt _ _ _ a5) a1 b1 rr orr) a5⟩
theorem x_hangTree_RS {σ : Sx} {f : Nat → Int32} {n a b : Nat} (ha : a < 200) (hb : b < 200) : x_hangTree (RS σ f n) (nI a) (nI b) = RS σ (upd (upd f (600 + b) (f (400 + a))) (400 + a) (nI b)) (n + 3) := by
  unfold x_hangTree
  simp only [ad_400, ad_600, RS_read (show 400 + a < 1080 by omega), RS_write (show 600 + b < 1080 by omega), RS_write (show 400 + a < 1080 by omega)]
theorem x_link_RS {σ : Sx} {f : Nat → Int32} {n : Nat} {t1 t2 : Tr} (h1 : tok f t1) (h2 : tok f t2) (hrk : t1.1 = t2.1) (hne : t1.2.1 ≠ t2.2.1) :
    x_link (RS σ f n) (nI t1.2.1) (nI t2.2.1) = if f t2.2.1 < f t1.2.1 then (nI t2.2.1, RS σ (lkF f t2 t1) (n + 7)) else (nI t1.2.1, RS σ (lkF f t1 t2) (n + 7)) := by
  have a1 := h1.1
  have b1 := h2.1
  unfold x_link
  simp only [ad_0, ad_200, RS_read (show t1.2.1 < 1080 by omega), RS_read (show t2.2.1 < 1080 by omega), x_hangTree_RS a1 b1, x_hangTree_RS b1 a1]
  split
  · rw [RS_read (show 200 + t2.2.1 < 1080 by omega), RS_write (show 200 + t2.2.1 < 1080 by omega)]
    simp only
    rw [pk_un (by omega), pk_un (by omega), h2.2.1, nI_1]
    rfl
  · rw [RS_read (show 200 + t1.2.1 < 1080 by omega), RS_write (show 200 + t1.2.1 < 1080 by omega)]
    simp only
    rw [pk_un (by omega), pk_un (by omega), h1.2.1, nI_1]
    rfl
theorem PI_link {σ : Sx} {f : Nat → Int32} {n : Nat} {TT : Nat → Option Tr} {hand : List Tr} {Z : List Nat} {t1 t2 : Tr} (h : PI f TT (t1 :: t2 :: hand) Z) (hrk : t1.1 = t2.1) :
    ∃ (g : Nat → Int32) (t : Tr), x_link (RS σ f n) (nI t1.2.1) (nI t2.2.1) = (nI t.2.1, RS σ g (n + 7)) ∧ PI g TT (t :: hand) Z ∧ agr Z f g ∧ t.1 = t1.1 + 1 ∧ (tc t).Perm (tc t1 ++ tc t2) ∧ flen t.2.2 ≤ 2 * t1.1 + 1 ∧ (∀ k, k < 200 → g k = f k) ∧ ∀ k, 800 ≤ k → g k = f k := by
  have h1 := h.2.1 t1 List.mem_cons_self
  have h2 := h.2.1 t2 (List.mem_cons_of_mem _ List.mem_cons_self)
  have hN := h.2.2.1
  simp only [List.flatMap_cons] at hN
  have hsub : ((tc t1 ++ tc t2) ++ (Z ++ (hand.flatMap tc ++ tcs TT))).Nodup := by
    refine List.Perm.nodup ?_ hN
    refine List.perm_iff_count.mpr fun a => ?_
    simp only [List.count_append]
    omega
  obtain ⟨hn, hn2, hn3⟩ := List.nodup_append.mp hsub
  have m1 : t1.2.1 ∈ tc t1 ++ tc t2 := List.mem_append_left _ List.mem_cons_self
  have m2 : t2.2.1 ∈ tc t1 ++ tc t2 := List.mem_append_right _ List.mem_cons_self
  have hne : t1.2.1 ≠ t2.2.1 := (List.nodup_append.mp hn).2.2 _ List.mem_cons_self _ List.mem_cons_self
  have out : ∀ c ∈ tc t1 ++ tc t2, c ∉ Z ∧ c ∉ hand.flatMap tc ++ tcs TT := fun c hc =>
    ⟨fun hz => hn3 c hc c (List.mem_append_left _ hz) rfl, fun hz => hn3 c hc c (List.mem_append_right _ hz) rfl⟩
  have hlt : ∀ c ∈ hand.flatMap tc ++ tcs TT, c < 200 := fun c hc => PI_lt h c (by
    rcases List.mem_append.mp hc with hc | hc
    · simp only [List.flatMap_cons]
      exact List.mem_append_left _ (List.mem_append_right _ (List.mem_append_right _ hc))
    · exact List.mem_append_right _ hc)
  rw [x_link_RS h1 h2 hrk hne]
  have hi : ∀ (a b : Tr) (k : Nat), a.2.1 < 200 → b.2.1 < 200 → (k < 200 ∨ 800 ≤ k) → lkF f a b k = f k := fun a b k ha hb hk => by
    unfold lkF
    rw [pk_un (by omega), pk_un (by omega), pk_un (by omega)]
  have pm : ∀ (a b : Tr), (tc (lkT a b)).Perm (tc a ++ tc b) := fun a b => by
    refine List.perm_iff_count.mpr fun x => ?_
    simp only [tc, lkT, fcells, List.count_append, List.count_cons]
    omega
  split
  · rename_i hlt2
    have hk : f t2.2.1 ≤ f t1.2.1 := Int32.le_of_lt hlt2
    have hn' : (tc t2 ++ tc t1).Nodup := List.Perm.nodup List.perm_append_comm hn
    refine ⟨lkF f t2 t1, lkT t2 t1, rfl, ?_, lkF_agr h.2.2.2.2 h2.1 h1.1 (out _ m2).1 (out _ m1).1, by show t2.1 + 1 = _; omega, (pm t2 t1).trans List.perm_append_comm, ?_, fun k hk => hi _ _ k h2.1 h1.1 (Or.inl hk), fun k hk => hi _ _ k h2.1 h1.1 (Or.inr hk)⟩
    · refine PI_chg (ts := [t1, t2]) (ts' := [lkT t2 t1]) (hand := hand) h (lkF_agr hlt h2.1 h1.1 (out _ m2).2 (out _ m1).2) (fun i _ => hi _ _ _ h2.1 h1.1 (Or.inr (by omega))) (fun t ht => ?_) ?_
      · rw [List.mem_singleton.mp ht]
        exact lk_tok h2 h1 hrk.symm hk hn'
      · simpa [List.flatMap_cons] using (pm t2 t1).trans List.perm_append_comm
    · show flen t2.2.2 + 1 ≤ _
      have := h2.2.2.1
      omega
  · rename_i hlt2
    have hk : f t1.2.1 ≤ f t2.2.1 := Int32.not_lt.mp hlt2
    refine ⟨lkF f t1 t2, lkT t1 t2, rfl, ?_, lkF_agr h.2.2.2.2 h1.1 h2.1 (out _ m1).1 (out _ m2).1, rfl, pm t1 t2, ?_, fun k hk => hi _ _ k h1.1 h2.1 (Or.inl hk), fun k hk => hi _ _ k h1.1 h2.1 (Or.inr hk)⟩
    · refine PI_chg (ts := [t1, t2]) (ts' := [lkT t1 t2]) (hand := hand) h (lkF_agr hlt h1.1 h2.1 (out _ m1).2 (out _ m2).2) (fun i _ => hi _ _ _ h1.1 h2.1 (Or.inr (by omega))) (fun t ht => ?_) ?_
      · rw [List.mem_singleton.mp ht]
        exact lk_tok h1 h2 hrk hk hn
      · simpa [List.flatMap_cons] using pm t1 t2
    · show flen t1.2.2 + 1 ≤ _
      have := h1.2.2.1
      omega
end
section
/-! a heap's cells; place, least root, the cut of a root, the placing of children -/
def hc (TT : Nat → Option Tr) (h : Nat) : List Nat := oc (TT (64 + h)) ++ (List.range 8).flatMap (fun r => oc (TT (8 * h + r)))
theorem hc_top {TT : Nat → Option Tr} {h r : Nat} {o : Option Tr} (hh : h < 8) (hr : r < 8) : (hc (up TT (8 * h + r) o) h ++ oc (TT (8 * h + r))).Perm (oc o ++ hc TT h) := by
  have h1 := fm_up (fun j => oc (TT (8 * h + j))) (fun j => oc (up TT (8 * h + r) o (8 * h + j))) r (List.range 8) List.nodup_range (List.mem_range.mpr hr) (fun j _ hj => by rw [up_n (by omega)])
  simp only [up_s] at h1
  unfold hc
  rw [up_n (by omega)]
  refine List.perm_iff_count.mpr fun a => ?_
  have h2 := h1.count_eq a
  simp only [List.count_append] at h2 ⊢
  omega
theorem hc_twin {TT : Nat → Option Tr} {h : Nat} {o : Option Tr} (hh : h < 8) : (hc (up TT (64 + h) o) h ++ oc (TT (64 + h))).Perm (oc o ++ hc TT h) := by
  unfold hc
  rw [up_s]
  have e : (List.range 8).flatMap (fun r => oc (up TT (64 + h) o (8 * h + r))) = (List.range 8).flatMap (fun r => oc (TT (8 * h + r))) := by
    apply fm_congr
    intro r hr
    have := List.mem_range.mp hr
    rw [up_n (by omega)]
  rw [e]
  refine List.perm_iff_count.mpr fun a => ?_
  simp only [List.count_append]
  omega
theorem hc_eq {TT TT' : Nat → Option Tr} {h : Nat} (hh : h < 8) (h1 : TT' (64 + h) = TT (64 + h)) (h2 : ∀ r, r < 8 → TT' (8 * h + r) = TT (8 * h + r)) : hc TT' h = hc TT h := by
  unfold hc
  rw [h1]
  congr 1
  apply fm_congr
  intro r hr
  rw [h2 r (List.mem_range.mp hr)]
theorem hc_mem {TT : Nat → Option Tr} {h c : Nat} (hh : h < 8) (hc0 : c ∈ hc TT h) : ∃ i t, i < 72 ∧ (i = 64 + h ∨ (8 * h ≤ i ∧ i < 8 * h + 8)) ∧ TT i = some t ∧ c ∈ tc t := by
  rcases List.mem_append.mp hc0 with h1 | h1
  · cases h2 : TT (64 + h) with
    | none => rw [h2] at h1; simp [oc] at h1
    | some t => rw [h2] at h1; exact ⟨64 + h, t, by omega, Or.inl rfl, h2, h1⟩
  · obtain ⟨r, hr, h1⟩ := List.mem_flatMap.mp h1
    have hr := List.mem_range.mp hr
    cases h2 : TT (8 * h + r) with
    | none => rw [h2] at h1; simp [oc] at h1
    | some t => rw [h2] at h1; exact ⟨8 * h + r, t, by omega, Or.inr ⟨by omega, by omega⟩, h2, h1⟩
theorem hc_in {TT : Nat → Option Tr} {h c i : Nat} {t : Tr} (hh : h < 8) (hi : i = 64 + h ∨ (8 * h ≤ i ∧ i < 8 * h + 8)) (ht : TT i = some t) (hc0 : c ∈ tc t) : c ∈ hc TT h := by
  rcases hi with rfl | hi
  · exact List.mem_append_left _ (by rw [ht]; exact hc0)
  · refine List.mem_append_right _ (List.mem_flatMap.mpr ⟨i - 8 * h, List.mem_range.mpr (by omega), ?_⟩)
    rw [show 8 * h + (i - 8 * h) = i by omega, ht]
    exact hc0
theorem hc_tcs {TT : Nat → Option Tr} {h c : Nat} (hh : h < 8) (hc0 : c ∈ hc TT h) : c ∈ tcs TT := by
  obtain ⟨i, t, hi, -, ht, hm⟩ := hc_mem hh hc0
  exact tcs_mem hi ht c hm
theorem x_cutTop_RS {σ : Sx} {f : Nat → Int32} {n h r : Nat} (hh : h < 8) (hr : r < 8) : x_cutTop (RS σ f n) (nI h) (nI r) = (f (1000 + (8 * h + r)), RS σ (upd f (1000 + (8 * h + r)) (-1)) (n + 2)) := by
  unfold x_cutTop
  simp only [ad_top, RS_read (show 1000 + (8 * h + r) < 1080 by omega), RS_write (show 1000 + (8 * h + r) < 1080 by omega)]
theorem x_cutTwin_RS {σ : Sx} {f : Nat → Int32} {n h : Nat} (hh : h < 8) : x_cutTwin (RS σ f n) (nI h) = (f (1000 + (64 + h)), RS σ (upd f (1000 + (64 + h)) (-1)) (n + 2)) := by
  unfold x_cutTwin
  simp only [ad_tw, RS_read (show 1064 + h < 1080 by omega), RS_write (show 1064 + h < 1080 by omega)]
  rw [show 1064 + h = 1000 + (64 + h) by omega]
theorem upd_same {f : Nat → Int32} {k : Nat} {v : Int32} (h : f k = v) : upd f k v = f := by
  funext j
  by_cases hj : j = k
  · subst hj; rw [pk_us, h]
  · rw [pk_un hj]
theorem PI_none {f : Nat → Int32} {TT : Nat → Option Tr} {hand : List Tr} {Z : List Nat} {i : Nat} (h : PI f TT hand Z) (hi : i < 72) (ht : TT i = none) : f (1000 + i) = -1 := by
  have := h.1 i hi
  rw [ht] at this
  exact this
theorem PI_some {f : Nat → Int32} {TT : Nat → Option Tr} {hand : List Tr} {Z : List Nat} {i : Nat} {t : Tr} (h : PI f TT hand Z) (hi : i < 72) (ht : TT i = some t) : f (1000 + i) = nI t.2.1 ∧ tok f t ∧ (i < 64 → t.1 = i % 8) := by
  have := h.1 i hi
  rw [ht] at this
  exact this
theorem place_L {σ : Sx} {h : Nat} {hand : List Tr} {Z : List Nat} (hh : h < 8) : ∀ (m : Nat) (f : Nat → Int32) (n : Nat) (TT : Nat → Option Tr) (t : Tr), PI f TT (t :: hand) Z → 8 < t.1 + m →
    ∃ (g : Nat → Int32) (n' : Nat) (TT' : Nat → Option Tr), x_placeL (nI h) m (RS σ f n) (nI t.2.1) (nI t.1) = RS σ g n' ∧ n' ≤ n + 9 * (8 - t.1) ∧ PI g TT' hand Z ∧ agr Z f g ∧ (hc TT' h).Perm (tc t ++ hc TT h) ∧ (∀ i, i < 8 * h ∨ 8 * h + 8 ≤ i → TT' i = TT i) ∧ (∀ k, k < 200 → g k = f k) ∧ ∀ k, 1064 ≤ k → g k = f k := by
  intro m
  induction m with
  | zero =>
    intro f n TT t h1 h2
    have := PI_rank h1
    omega
  | succ m ih =>
    intro f n TT t h1 h2
    have hr := PI_rank h1
    unfold x_placeL
    rw [if_neg (show ¬ (8 : Int32) ≤ nI t.1 from nI_ge (b := 8) hr (by omega)), x_cutTop_RS hh hr]
    simp only
    have hi : 8 * h + t.1 < 72 := by omega
    cases ht : TT (8 * h + t.1) with
    | none =>
      have e := PI_none h1 hi ht
      rw [if_pos e, upd_same e, ad_top, RS_write (by omega)]
      refine ⟨_, _, up TT (8 * h + t.1) (some t), rfl, by omega, PI_put h1 hi ht (fun _ => by omega), agr_hi h1.2.2.2.2 (by omega), ?_, fun i hi2 => up_n (by omega), fun k hk => pk_un (by omega), fun k hk => pk_un (by omega)⟩
      have h3 := hc_top (TT := TT) (o := some t) hh hr
      rw [ht] at h3
      simpa [oc] using h3
    | some t2 =>
      obtain ⟨e, htok, hrk⟩ := PI_some h1 hi ht
      have hrk2 : t2.1 = t.1 := by have := hrk (by omega); omega
      rw [if_neg (by rw [e]; exact nI_ne_m1 (by have := htok.1; omega)), e]
      have h3 := PI_cut h1 hi ht
      have h4 : PI (upd f (1000 + (8 * h + t.1)) (-1)) (up TT (8 * h + t.1) none) (t :: t2 :: hand) Z := by
        have hN : NL (Z ++ ((t :: t2 :: hand).flatMap tc ++ tcs (up TT (8 * h + t.1) none))) := by
          refine NL_perm ?_ (PI_NL h3)
          refine List.perm_iff_count.mpr fun a => ?_
          simp only [List.flatMap_cons, List.count_append]
          omega
        exact ⟨h3.1, fun x hx => h3.2.1 x (by simp only [List.mem_cons] at hx ⊢; rcases hx with rfl | rfl | hx <;> simp_all), hN.1, hN.2, h3.2.2.2.2⟩
      obtain ⟨g, t', el, hPI, hag, hrk3, hperm, -, hk1, hk2⟩ := PI_link (σ := σ) (n := n + 2) h4 hrk2.symm
      rw [el]
      simp only
      rw [nI_1, ← hrk3]
      obtain ⟨g', n', TT', e2, hn', hPI', hag', hperm', hout, hk1', hk2'⟩ := ih g (n + 2 + 7) _ t' hPI (by omega)
      refine ⟨g', n', TT', e2, by omega, hPI', agr_tr (agr_tr (agr_hi h1.2.2.2.2 (by omega)) hag) hag', ?_, fun i hi2 => (hout i hi2).trans (up_n (by omega)), fun k hk => by rw [hk1' k hk, hk1 k hk, pk_un (by omega)], fun k hk => by rw [hk2' k hk, hk2 k (by omega), pk_un (by omega)]⟩
      have h5 := hc_top (TT := TT) (o := none) hh hr
      rw [ht] at h5
      refine List.perm_iff_count.mpr fun a => ?_
      have c1 := hperm'.count_eq a
      have c2 := hperm.count_eq a
      have c3 := h5.count_eq a
      simp only [List.count_append, oc, List.count_nil] at c1 c2 c3 ⊢
      omega
theorem place_RS {σ : Sx} {f : Nat → Int32} {n h : Nat} {TT : Nat → Option Tr} {hand : List Tr} {Z : List Nat} {t : Tr} (hh : h < 8) (h1 : PI f TT (t :: hand) Z) :
    ∃ (g : Nat → Int32) (n' : Nat) (TT' : Nat → Option Tr), x_place (RS σ f n) (nI h) (nI t.2.1) = RS σ g n' ∧ n' ≤ n + 73 ∧ PI g TT' hand Z ∧ agr Z f g ∧ (hc TT' h).Perm (tc t ++ hc TT h) ∧ (∀ i, i < 8 * h ∨ 8 * h + 8 ≤ i → TT' i = TT i) ∧ (∀ k, k < 200 → g k = f k) ∧ ∀ k, 1064 ≤ k → g k = f k := by
  have htok := h1.2.1 t List.mem_cons_self
  have hlt := htok.1
  have hr := PI_rank h1
  unfold x_place
  rw [if_neg (nI_ne_m1 (by omega)), ad_200, RS_read (by omega)]
  simp only
  rw [htok.2.1]
  have e : (8 - (nI t.1).toInt).toNat + 1 = 9 - t.1 := by rw [nI_toInt (by omega)]; omega
  rw [e]
  obtain ⟨g, n', TT', a1, a2, a3⟩ := place_L (σ := σ) hh (9 - t.1) f (n + 1) TT t h1 (by omega)
  exact ⟨g, n', TT', a1, by omega, a3⟩
theorem place_nil {σ : Sx} {h : Int32} : x_place σ h (-1) = σ := by
  unfold x_place
  rw [if_pos rfl]
end
section
/-! the loops of the code, without their counters -/
def x_pcL (h : Int32) : Nat → Sx → Int32 → Sx
  | 0, σ, _ => σ
  | n + 1, σ, child =>
    if child = -1 then σ else
      let q := x_read σ (600 + child)
      x_pcL h n (x_place q.2 h child) q.1
def x_lrL (h : Int32) : Nat → Sx → Int32 → Int32 → Int32 × Sx
  | 0, σ, best, _ => (best, σ)
  | n + 1, σ, best, rank =>
    let q := x_read σ (x_topAt h rank)
    let q2 := x_lesserRoot q.2 best q.1
    x_lrL h n q2.2 q2.1 (rank + 1)
theorem pcL_eq (h : Int32) : ∀ (m i : Nat) (σ : Sx) (ch : Int32), i + m = 200 → y_pcL h (m + 1) σ ch (nI i) = x_pcL h m σ ch := by
  intro m
  induction m with
  | zero =>
    intro i σ ch hi
    unfold y_pcL x_pcL
    rw [if_pos (show (200 : Int32) ≤ nI i from nI_le (a := 200) (by omega) (by omega))]
  | succ m ih =>
    intro i σ ch hi
    unfold y_pcL x_pcL
    rw [if_neg (show ¬ (200 : Int32) ≤ nI i from nI_ge (b := 200) (by omega) (by omega))]
    split
    · rfl
    · simp only
      rw [nI_1]
      exact ih (i + 1) _ _ (by omega)
theorem lrL_eq (h : Int32) : ∀ (m i : Nat) (σ : Sx) (b : Int32), i + m = 8 → y_lrL h (m + 1) σ b (nI i) = x_lrL h m σ b (nI i) := by
  intro m
  induction m with
  | zero =>
    intro i σ b hi
    unfold y_lrL x_lrL
    rw [if_pos (show (8 : Int32) ≤ nI i from nI_le (a := 8) (by omega) (by omega))]
  | succ m ih =>
    intro i σ b hi
    unfold y_lrL x_lrL
    rw [if_neg (show ¬ (8 : Int32) ≤ nI i from nI_ge (b := 8) (by omega) (by omega))]
    simp only
    rw [nI_1]
    exact ih (i + 1) _ _ (by omega)
/-- what leastRoot knows of the places that it has seen -/
def lrI (f : Nat → Int32) (TT : Nat → Option Tr) (V : Nat → Prop) (best : Int32) : Prop :=
  (best = -1 ∧ ∀ j, V j → TT j = none) ∨ ∃ i t, V i ∧ TT i = some t ∧ best = nI t.2.1 ∧ ∀ j t', V j → TT j = some t' → f t.2.1 ≤ f t'.2.1
theorem lr_step {σ : Sx} {f : Nat → Int32} {n i : Nat} {TT : Nat → Option Tr} {hand : List Tr} {Z : List Nat} {V : Nat → Prop} {best : Int32} (h : PI f TT hand Z) (hV : ∀ j, V j → j < 72) (hi : i < 72) (hb : lrI f TT V best) :
    ∃ b' n', x_lesserRoot (RS σ f n) best (f (1000 + i)) = (b', RS σ f n') ∧ n' ≤ n + 2 ∧ lrI f TT (fun j => V j ∨ j = i) b' := by
  unfold x_lesserRoot
  rcases hb with ⟨rfl, hb⟩ | ⟨j, t, hj, ht, rfl, hb⟩
  · rw [if_pos rfl]
    refine ⟨_, n, rfl, by omega, ?_⟩
    cases hti : TT i with
    | none => exact Or.inl ⟨PI_none h hi hti, fun k hk => by rcases hk with hk | rfl; exact hb k hk; exact hti⟩
    | some t => exact Or.inr ⟨i, t, Or.inr rfl, hti, (PI_some h hi hti).1, fun k t' hk ht' => by
        rcases hk with hk | rfl
        · rw [hb k hk] at ht'; cases ht'
        · rw [hti] at ht'; cases ht'; exact Int32.le_refl _⟩
  · have hj2 := hV j hj
    have htj := (PI_some h hj2 ht).2.1.1
    rw [if_neg (nI_ne_m1 (by omega))]
    cases hti : TT i with
    | none =>
      rw [PI_none h hi hti, if_pos rfl]
      exact ⟨_, n, rfl, by omega, Or.inr ⟨j, t, Or.inl hj, ht, rfl, fun k t' hk ht' => by
        rcases hk with hk | rfl
        · exact hb k t' hk ht'
        · rw [hti] at ht'; cases ht'⟩⟩
    | some t2 =>
      obtain ⟨e, htok, -⟩ := PI_some h hi hti
      have h2 := htok.1
      rw [e, if_neg (nI_ne_m1 (by omega)), ad_0, ad_0, RS_read (by omega)]
      simp only
      rw [RS_read (by omega)]
      simp only
      split
      · rename_i hlt
        refine ⟨_, _, rfl, by omega, Or.inr ⟨i, t2, Or.inr rfl, hti, rfl, fun k t' hk ht' => ?_⟩⟩
        rcases hk with hk | rfl
        · exact Int32.le_trans (Int32.le_of_lt hlt) (hb k t' hk ht')
        · rw [hti] at ht'; cases ht'; exact Int32.le_refl _
      · rename_i hlt
        refine ⟨_, _, rfl, by omega, Or.inr ⟨j, t, Or.inl hj, ht, rfl, fun k t' hk ht' => ?_⟩⟩
        rcases hk with hk | rfl
        · exact hb k t' hk ht'
        · rw [hti] at ht'; cases ht'; exact Int32.not_lt.mp hlt
theorem lr_L {σ : Sx} {f : Nat → Int32} {h : Nat} {TT : Nat → Option Tr} {hand : List Tr} {Z : List Nat} (hh : h < 8) (hP : PI f TT hand Z) : ∀ (m r n : Nat) (best : Int32), r + m = 8 → lrI f TT (fun j => j = 64 + h ∨ (8 * h ≤ j ∧ j < 8 * h + r)) best →
    ∃ b' n', x_lrL (nI h) m (RS σ f n) best (nI r) = (b', RS σ f n') ∧ n' ≤ n + 3 * m ∧ lrI f TT (fun j => j = 64 + h ∨ (8 * h ≤ j ∧ j < 8 * h + 8)) b' := by
  intro m
  induction m with
  | zero =>
    intro r n best hr hb
    obtain rfl : r = 8 := by omega
    exact ⟨best, n, rfl, by omega, hb⟩
  | succ m ih =>
    intro r n best hr hb
    unfold x_lrL
    rw [ad_top, RS_read (by omega)]
    simp only
    obtain ⟨b1, n1, e1, h1, hb1⟩ := lr_step (σ := σ) (n := n + 1) (i := 8 * h + r) hP (fun j hj => by omega) (by omega) hb
    rw [e1]
    simp only
    rw [nI_1]
    obtain ⟨b2, n2, e2, h2, hb2⟩ := ih (r + 1) n1 b1 (by omega) (by
      have ev : (fun j => (j = 64 + h ∨ (8 * h ≤ j ∧ j < 8 * h + r)) ∨ j = 8 * h + r) = (fun j => j = 64 + h ∨ (8 * h ≤ j ∧ j < 8 * h + (r + 1))) := by
        funext j
        apply propext
        omega
      rw [← ev]
      exact hb1)
    exact ⟨b2, n2, e2, by omega, hb2⟩
/-- the least root of a heap that is there -/
theorem leastRoot_RS {σ : Sx} {f : Nat → Int32} {n h nh : Nat} {TT : Nat → Option Tr} {hand : List Tr} {Z : List Nat} (hh : h < nh) (hnh : nh ≤ 8) (hH : σ.2.1 = nI nh) (hP : PI f TT hand Z) :
    ∃ b' n', x_leastRoot (RS σ f n) (nI h) = (b', RS σ f n') ∧ n' ≤ n + 25 ∧ lrI f TT (fun j => j = 64 + h ∨ (8 * h ≤ j ∧ j < 8 * h + 8)) b' := by
  unfold x_leastRoot
  have hex : x_ex (RS σ f n) (nI h) = 1 := by
    unfold x_ex
    rw [if_neg (nI_pos (by omega))]
    show (if σ.2.1 ≤ nI h then _ else _) = _
    rw [hH, if_neg (nI_ge hh (by omega))]
  rw [hex, if_neg (by decide), ad_tw, RS_read (by omega)]
  simp only
  have h0 : lrI f TT (fun j => j = 64 + h ∨ (8 * h ≤ j ∧ j < 8 * h + 0)) (f (1064 + h)) := by
    rw [show 1064 + h = 1000 + (64 + h) by omega]
    cases ht : TT (64 + h) with
    | none => exact Or.inl ⟨PI_none hP (by omega) ht, fun j hj => by obtain rfl : j = 64 + h := by omega
                                                                     exact ht⟩
    | some t => exact Or.inr ⟨64 + h, t, Or.inl rfl, ht, (PI_some hP (by omega) ht).1, fun j t' hj ht' => by
        obtain rfl : j = 64 + h := by omega
        rw [ht] at ht'; cases ht'; exact Int32.le_refl _⟩
  obtain ⟨b, n', e, hn, hb⟩ := lr_L (σ := σ) (by omega) hP 8 0 (n + 1) _ (by omega) h0
  rw [← nI_0, lrL_eq (nI h) 8 0 _ _ (by omega)]
  exact ⟨b, n', e, by omega, hb⟩
/-- nothing is in a heap without roots; the least root's key is the heap's least -/
theorem lr_none {f : Nat → Int32} {TT : Nat → Option Tr} {h : Nat} (hh : h < 8) (hb : ∀ j, (j = 64 + h ∨ (8 * h ≤ j ∧ j < 8 * h + 8)) → TT j = none) : hc TT h = [] := by
  rw [List.eq_nil_iff_forall_not_mem]
  intro c hc0
  obtain ⟨i, t, -, hi, ht, -⟩ := hc_mem hh hc0
  rw [hb i hi] at ht
  cases ht
theorem lr_min {f : Nat → Int32} {TT : Nat → Option Tr} {hand : List Tr} {Z : List Nat} {h : Nat} {t : Tr} (hh : h < 8) (hP : PI f TT hand Z) (hb : ∀ j t', (j = 64 + h ∨ (8 * h ≤ j ∧ j < 8 * h + 8)) → TT j = some t' → f t.2.1 ≤ f t'.2.1) : ∀ c ∈ hc TT h, f t.2.1 ≤ f c := by
  intro c hc0
  obtain ⟨i, t', hi2, hi, ht, hm⟩ := hc_mem hh hc0
  have h1 := hb i t' hi ht
  have h2 := (PI_some hP hi2 ht).2.1
  rcases List.mem_cons.mp hm with rfl | hm
  · exact h1
  · exact Int32.le_trans h1 (fok_min _ _ _ h2.2.2.2.2 c hm)
/-- trees at different places share no cell -/
theorem PI_apart {f : Nat → Int32} {TT : Nat → Option Tr} {hand : List Tr} {Z : List Nat} {i j : Nat} {t t' : Tr} (hP : PI f TT hand Z) (hi : i < 72) (hj : j < 72) (hij : i ≠ j) (ht : TT i = some t) (ht' : TT j = some t') : ∀ c ∈ tc t, c ∉ tc t' := by
  intro c h1 h2
  have h3 := PI_NL (PI_cut hP hi ht)
  have h4 : up TT i none j = some t' := by rw [up_n (Ne.symm hij)]; exact ht'
  have h5 := (List.nodup_append.mp (List.nodup_append.mp h3.1).2.1).2.2 c (by simp only [List.flatMap_cons]; exact List.mem_append_left _ h1) c (tcs_mem hj h4 c h2)
  exact h5 rfl
/-- the root goes out of the table; a twin that stays is placed -/
theorem cutRoot_RS {σ : Sx} {f : Nat → Int32} {n h i : Nat} {TT : Nat → Option Tr} {hand : List Tr} {Z : List Nat} {t : Tr} (hh : h < 8) (hP : PI f TT hand Z) (hi : i = 64 + h ∨ (8 * h ≤ i ∧ i < 8 * h + 8)) (ht : TT i = some t) :
    ∃ (g : Nat → Int32) (n' : Nat) (TT' : Nat → Option Tr), x_cutRoot (RS σ f n) (nI h) (nI t.2.1) = RS σ g n' ∧ n' ≤ n + 78 ∧ PI g TT' (t :: hand) Z ∧ agr Z f g ∧ (hc TT' h ++ tc t).Perm (hc TT h) ∧ TT' (64 + h) = none ∧ (∀ j, j ≠ 64 + h → (j < 8 * h ∨ 8 * h + 8 ≤ j) → TT' j = TT j) ∧ (∀ k, k < 200 → g k = f k) ∧ ∀ k, 1072 ≤ k → g k = f k := by
  have hi72 : i < 72 := by omega
  obtain ⟨e1, htok, hrk⟩ := PI_some hP hi72 ht
  have hlt := htok.1
  unfold x_cutRoot
  rw [x_cutTwin_RS hh]
  simp only
  by_cases hiw : i = 64 + h
  · subst hiw
    rw [if_pos e1]
    refine ⟨_, _, up TT (64 + h) none, rfl, by omega, PI_cut hP hi72 ht, agr_hi hP.2.2.2.2 (by omega), ?_, up_s, fun j hj _ => up_n hj, fun k hk => pk_un (by omega), fun k hk => pk_un (by omega)⟩
    have h1 := hc_twin (TT := TT) (o := none) hh
    rw [ht] at h1
    simpa [oc] using h1
  · have hr : t.1 < 8 ∧ i = 8 * h + t.1 := by have := hrk (by omega); omega
    obtain ⟨hr, hie⟩ := hr
    subst hie
    cases htw : TT (64 + h) with
    | none =>
      have e2 := PI_none hP (show 64 + h < 72 by omega) htw
      rw [e2, if_neg (fun e => nI_ne_m1 (show t.2.1 < 2 ^ 31 by omega) e.symm), ← e2, upd_same rfl, ad_200, RS_read (by omega)]
      simp only
      rw [htok.2.1, x_cutTop_RS hh hr, e2, place_nil]
      refine ⟨_, _, up TT (8 * h + t.1) none, rfl, by omega, PI_cut hP hi72 ht, agr_hi hP.2.2.2.2 (by omega), ?_, by rw [up_n (by omega)]; exact htw, fun j hj hj2 => up_n (by omega), fun k hk => pk_un (by omega), fun k hk => pk_un (by omega)⟩
      have h1 := hc_top (TT := TT) (o := none) hh hr
      rw [ht] at h1
      simpa [oc] using h1
    | some tw =>
      obtain ⟨e2, htok2, -⟩ := PI_some hP (show 64 + h < 72 by omega) htw
      have hlt2 := htok2.1
      have hne : ¬ nI tw.2.1 = nI t.2.1 := fun e => by
        have := nI_inj (by omega) (by omega) e
        exact PI_apart hP hi72 (by omega) hiw ht htw t.2.1 List.mem_cons_self (by rw [← this]; exact List.mem_cons_self)
      rw [e2, if_neg hne, ad_200, RS_read (by omega)]
      simp only
      rw [pk_un (by omega), htok.2.1, x_cutTop_RS hh hr]
      simp only
      have h3 := PI_cut hP (show 64 + h < 72 by omega) htw
      have h4 := PI_cut (t := t) h3 hi72 (by rw [up_n (by omega)]; exact ht)
      have h5 : PI (upd (upd f (1000 + (64 + h)) (-1)) (1000 + (8 * h + t.1)) (-1)) (up (up TT (64 + h) none) (8 * h + t.1) none) (tw :: t :: hand) Z := by
        have hN : NL (Z ++ ((tw :: t :: hand).flatMap tc ++ tcs (up (up TT (64 + h) none) (8 * h + t.1) none))) := by
          refine NL_perm ?_ (PI_NL h4)
          refine List.perm_iff_count.mpr fun a => ?_
          simp only [List.flatMap_cons, List.count_append]
          omega
        exact ⟨h4.1, fun x hx => h4.2.1 x (by simp only [List.mem_cons] at hx ⊢; rcases hx with rfl | rfl | hx <;> simp_all), hN.1, hN.2, h4.2.2.2.2⟩
      obtain ⟨g, n', TT', b1, b2, b3, b4, b5, b6, b7, b8⟩ := place_RS (σ := σ) (n := n + 2 + 1 + 2) hh h5
      rw [b1]
      refine ⟨g, n', TT', rfl, by omega, b3, agr_tr (agr_tr (agr_hi hP.2.2.2.2 (by omega)) (agr_hi hP.2.2.2.2 (by omega))) b4, ?_, by rw [b6 _ (by omega), up_n (by omega), up_s], fun j hj hj2 => by rw [b6 j hj2, up_n (by omega), up_n hj], fun k hk => by rw [b7 k hk, pk_un (by omega), pk_un (by omega)], fun k hk => by rw [b8 k (by omega), pk_un (by omega), pk_un (by omega)]⟩
      have c1 := hc_twin (TT := TT) (o := none) hh
      have c2 := hc_top (TT := up TT (64 + h) none) (o := none) hh hr
      rw [htw] at c1
      rw [up_n (show 8 * h + t.1 ≠ 64 + h by omega), ht] at c2
      refine List.perm_iff_count.mpr fun a => ?_
      have d1 := c1.count_eq a
      have d2 := c2.count_eq a
      have d3 := b5.count_eq a
      simp only [List.count_append, oc, List.count_nil] at d1 d2 d3 ⊢
      omega
/-- the children of a root that is out of the table are placed one after the other -/
theorem pc_L {σ : Sx} {h : Nat} {Z : List Nat} (hh : h < 8) : ∀ (b : Std.Format) (m : Nat) (f : Nat → Int32) (n : Nat) (TT : Nat → Option Tr) (q k : Int32), PI f TT [] (fcells b ++ Z) → fok f b q k → flen b ≤ m →
    ∃ (g : Nat → Int32) (n' : Nat) (TT' : Nat → Option Tr), x_pcL (nI h) m (RS σ f n) q = RS σ g n' ∧ n' ≤ n + 74 * flen b ∧ PI g TT' [] Z ∧ agr Z f g ∧ (hc TT' h).Perm (fcells b ++ hc TT h) ∧ (∀ j, (j < 8 * h ∨ 8 * h + 8 ≤ j) → TT' j = TT j) ∧ (∀ k, k < 200 → g k = f k) ∧ ∀ k, 1064 ≤ k → g k = f k := by
  intro b
  induction b using flen.induct with
  | case1 c a b ih =>
    intro m f n TT q k hP hf hm
    simp only [flen] at hm ⊢
    simp only [fok] at hf
    obtain ⟨rfl, hc0, -, ⟨r, hr1, hr2, hr3⟩, hfa, hfb⟩ := hf
    cases m with
    | zero => omega
    | succ m =>
      unfold x_pcL
      rw [if_neg (nI_ne_m1 (by omega)), ad_600, RS_read (by omega)]
      simp only
      have h1 : PI f TT [(r, c, a)] (fcells b ++ Z) := by
        have hN : NL ((fcells b ++ Z) ++ (([(r, c, a)] : List Tr).flatMap tc ++ tcs TT)) := by
          refine NL_perm ?_ (PI_NL hP)
          refine List.perm_iff_count.mpr fun x => ?_
          simp only [List.flatMap_cons, List.flatMap_nil, tc, fcells, List.count_append, List.count_cons, List.count_nil]
          omega
        refine ⟨hP.1, fun t ht => ?_, hN.1, hN.2, fun x hx => hP.2.2.2.2 x ?_⟩
        · rw [List.mem_singleton.mp ht]
          exact ⟨hc0, hr1, hr2, hr3, hfa⟩
        · simp only [fcells, List.cons_append, List.mem_cons, List.mem_append] at hx ⊢
          rcases hx with hx | hx
          · exact Or.inr (Or.inl (Or.inr hx))
          · exact Or.inr (Or.inr hx)
      obtain ⟨g, n', TT', b1, b2, b3, b4, b5, b6, b7, b8⟩ := place_RS (σ := σ) (n := n + 1) hh h1
      rw [b1]
      obtain ⟨g2, n2, TT2, d1, d2, d3, d4, d5, d6, d7, d8⟩ := ih m g n' TT' (f (600 + c)) k b3 (fok_agr _ _ _ (agr_sub b4 (fun x hx => List.mem_append_left _ hx)) hfb) (by omega)
      refine ⟨g2, n2, TT2, d1, by omega, d3, agr_tr (agr_sub b4 (fun x hx => List.mem_append_right _ hx)) d4, ?_, fun j hj => (d6 j hj).trans (b6 j hj), fun k hk => (d7 k hk).trans (b7 k hk), fun k hk => (d8 k hk).trans (b8 k hk)⟩
      refine List.perm_iff_count.mpr fun x => ?_
      have c1 := b5.count_eq x
      have c2 := d5.count_eq x
      simp only [tc, fcells, List.count_append, List.count_cons] at c1 c2 ⊢
      omega
  | case2 b hb =>
    intro m f n TT q k hP hf hm
    have e1 : fcells b = [] := by rw [fcells]; exact hb
    have e2 : q = -1 := by rw [fok] at hf; exact hf; exact hb
    have e3 : flen b = 0 := by rw [flen]; exact hb
    rw [e1] at hP ⊢
    subst e2
    refine ⟨f, n, TT, ?_, by omega, hP, agr_rf, List.Perm.refl _, fun _ _ => rfl, fun _ _ => rfl, fun _ _ => rfl⟩
    cases m with
    | zero => rfl
    | succ m => unfold x_pcL; rw [if_pos rfl]
end
section
/-! a key is hung under a root; a cell is inserted -/
theorem PI_perm {f : Nat → Int32} {TT : Nat → Option Tr} {hand hand' : List Tr} {Z : List Nat} (hp : hand.Perm hand') (h : PI f TT hand Z) : PI f TT hand' Z := by
  have hN : NL (Z ++ (hand'.flatMap tc ++ tcs TT)) := NL_perm (((hp.flatMap_right tc).append_right _).append_left _) (PI_NL h)
  exact ⟨h.1, fun t ht => h.2.1 t (hp.mem_iff.mpr ht), hN.1, hN.2, h.2.2.2.2⟩
def hkF (f : Nat → Int32) (root c : Nat) (v1 v2 : Int32) : Nat → Int32 := upd (upd (upd (upd f root v1) c v2) (600 + c) (f (400 + root))) (400 + root) (nI c)
theorem hkF_agr {f : Nat → Int32} {root c : Nat} {v1 v2 : Int32} {Z : List Nat} (hZ : ∀ c ∈ Z, c < 200) (h1 : root < 200) (h2 : c < 200) (hr : root ∉ Z) (ho : c ∉ Z) : agr Z f (hkF f root c v1 v2) := by
  intro x hx
  have h3 := hZ x hx
  have h4 : x ≠ root := fun e => hr (e ▸ hx)
  have h5 : x ≠ c := fun e => ho (e ▸ hx)
  unfold hkF
  refine ⟨?_, ?_, ?_, ?_⟩ <;> rw [pk_un (by omega), pk_un (by omega), pk_un (by omega), pk_un (by omega)]
theorem hk_tok {f : Nat → Int32} {t : Tr} {c : Nat} {v1 v2 : Int32} (h1 : tok f t) (h2 : tok f (0, c, .nil)) (hl : flen t.2.2 + 1 ≤ 2 * t.1) (hv : v1 ≤ v2) (hv1 : v1 ≤ f t.2.1) (hn : (tc t ++ [c]).Nodup) : tok (hkF f t.2.1 c v1 v2) (t.1, t.2.1, .append (.tag c .nil) t.2.2) := by
  obtain ⟨a1, a2, a3, a4, a5⟩ := h1
  obtain ⟨b1, b2, b3, b4, b5⟩ := h2
  simp only at b1 b2 b5
  obtain ⟨n1, n2, n3⟩ := List.nodup_append.mp hn
  have hne : t.2.1 ≠ c := n3 _ List.mem_cons_self _ (List.mem_singleton.mpr rfl)
  have rr : t.2.1 ∉ fcells t.2.2 := (List.nodup_cons.mp n1).1
  have orr : c ∉ fcells t.2.2 := fun h => n3 _ (List.mem_cons_of_mem _ h) _ (List.mem_singleton.mpr rfl) rfl
  have e0r : hkF f t.2.1 c v1 v2 t.2.1 = v1 := by unfold hkF; rw [pk_un (by omega), pk_un (by omega), pk_un (by omega), pk_us]
  have e0o : hkF f t.2.1 c v1 v2 c = v2 := by unfold hkF; rw [pk_un (by omega), pk_un (by omega), pk_us]
  have e2o : hkF f t.2.1 c v1 v2 (200 + c) = f (200 + c) := by unfold hkF; rw [pk_un (by omega), pk_un (by omega), pk_un (by omega), pk_un (by omega)]
  have e2r : hkF f t.2.1 c v1 v2 (200 + t.2.1) = f (200 + t.2.1) := by unfold hkF; rw [pk_un (by omega), pk_un (by omega), pk_un (by omega), pk_un (by omega)]
  have e4o : hkF f t.2.1 c v1 v2 (400 + c) = f (400 + c) := by unfold hkF; rw [pk_un (by omega), pk_un (by omega), pk_un (by omega), pk_un (by omega)]
  have e6o : hkF f t.2.1 c v1 v2 (600 + c) = f (400 + t.2.1) := by unfold hkF; rw [pk_un (by omega), pk_us]
  have e4r : hkF f t.2.1 c v1 v2 (400 + t.2.1) = nI c := by unfold hkF; rw [pk_us]
  refine ⟨a1, by show hkF f t.2.1 c v1 v2 (200 + t.2.1) = _; rw [e2r]; exact a2, hl, ?_, ?_⟩
  · show 2 ^ t.1 ≤ 1 + (c :: ([] ++ fcells t.2.2)).length
    simp only [List.nil_append, List.length_cons]
    omega
  · show fok (hkF f t.2.1 c v1 v2) (.append (.tag c .nil) t.2.2) (hkF f t.2.1 c v1 v2 (400 + t.2.1)) (hkF f t.2.1 c v1 v2 t.2.1)
    rw [e4r, e0r]
    simp only [fok]
    rw [e0o, e2o, e4o, e6o]
    refine ⟨trivial, b1, hv, ⟨0, b2, by simp [flen], by simp [fcells]⟩, ?_, ?_⟩
    · simpa [fok] using b5
    · exact fok_mono _ _ _ _ hv1 (fok_agr _ _ _ (hkF_agr (fok_lt _ _ _ a5) a1 b1 rr orr) a5)
theorem x_hangKey_RS {σ : Sx} {f : Nat → Int32} {n root c : Nat} (h1 : root < 200) (h2 : c < 200) (hne : root ≠ c) : ∃ v1 v2 n', x_hangKey (RS σ f n) (nI root) (nI c) = RS σ (hkF f root c v1 v2) n' ∧ n' ≤ n + 7 ∧ v1 ≤ v2 ∧ v1 ≤ f root ∧ ([v1, v2] : List Int32).Perm [f root, f c] := by
  unfold x_hangKey
  simp only [ad_0, RS_read (show root < 1080 by omega), RS_read (show c < 1080 by omega)]
  split
  · rename_i hle
    refine ⟨f root, f c, n + 5, ?_, by omega, hle, Int32.le_refl _, List.Perm.refl _⟩
    rw [x_hangTree_RS h1 h2]
    unfold hkF
    rw [upd_same (f := f) rfl, upd_same (f := f) rfl]
  · rename_i hle
    have hlt : f c < f root := Int32.not_le.mp hle
    refine ⟨f c, f root, n + 7, ?_, by omega, Int32.le_of_lt hlt, Int32.le_of_lt hlt, List.Perm.swap _ _ _⟩
    rw [RS_write (show root < 1080 by omega), RS_write (show c < 1080 by omega), x_hangTree_RS h1 h2, pk_un (by omega), pk_un (by omega)]
    rfl
theorem PI_hang {σ : Sx} {f : Nat → Int32} {n c : Nat} {TT : Nat → Option Tr} {hand : List Tr} {Z : List Nat} {t : Tr} (h : PI f TT (t :: (0, c, .nil) :: hand) Z) (hl : flen t.2.2 + 1 ≤ 2 * t.1) :
    ∃ (g : Nat → Int32) (n' : Nat) (t' : Tr), x_hangKey (RS σ f n) (nI t.2.1) (nI c) = RS σ g n' ∧ n' ≤ n + 7 ∧ PI g TT (t' :: hand) Z ∧ agr Z f g ∧ t'.1 = t.1 ∧ t'.2.1 = t.2.1 ∧ (tc t').Perm (tc t ++ [c]) ∧ ((tc t').map g).Perm ((tc t ++ [c]).map f) ∧ (∀ x ∈ tcs TT, g x = f x) ∧ ∀ k, 800 ≤ k → g k = f k := by
  have h1 := h.2.1 t List.mem_cons_self
  have h2 := h.2.1 (0, c, .nil) (List.mem_cons_of_mem _ List.mem_cons_self)
  have ec : tc (0, c, .nil) = [c] := by simp [tc, fcells]
  have hsub : ((tc t ++ [c]) ++ (Z ++ (hand.flatMap tc ++ tcs TT))).Nodup := by
    refine List.Perm.nodup ?_ h.2.2.1
    refine List.perm_iff_count.mpr fun a => ?_
    simp only [List.flatMap_cons, ec, List.count_append]
    omega
  obtain ⟨hn, hn2, hn3⟩ := List.nodup_append.mp hsub
  have m1 : t.2.1 ∈ tc t ++ [c] := List.mem_append_left _ List.mem_cons_self
  have m2 : c ∈ tc t ++ [c] := List.mem_append_right _ (List.mem_singleton.mpr rfl)
  have hne : t.2.1 ≠ c := (List.nodup_append.mp hn).2.2 _ List.mem_cons_self _ (List.mem_singleton.mpr rfl)
  have out : ∀ x ∈ tc t ++ [c], x ∉ Z ∧ x ∉ hand.flatMap tc ++ tcs TT := fun x hx =>
    ⟨fun hz => hn3 x hx x (List.mem_append_left _ hz) rfl, fun hz => hn3 x hx x (List.mem_append_right _ hz) rfl⟩
  have hlt : ∀ x ∈ hand.flatMap tc ++ tcs TT, x < 200 := fun x hx => PI_lt h x (by
    rcases List.mem_append.mp hx with hx | hx
    · simp only [List.flatMap_cons]
      exact List.mem_append_left _ (List.mem_append_right _ (List.mem_append_right _ hx))
    · exact List.mem_append_right _ hx)
  have hc1 : t.2.1 < 200 := h1.1
  have hc2 : c < 200 := h2.1
  obtain ⟨v1, v2, n', e, hn', hv, hv1, hvp⟩ := x_hangKey_RS (σ := σ) (f := f) (n := n) hc1 hc2 hne
  have pm : (tc (t.1, t.2.1, Std.Format.append (.tag c .nil) t.2.2)).Perm (tc t ++ [c]) := by
    refine List.perm_iff_count.mpr fun x => ?_
    simp only [tc, fcells, List.nil_append, List.count_append, List.count_cons, List.count_nil]
    omega
  have ag := hkF_agr (v1 := v1) (v2 := v2) (f := f) hlt hc1 hc2 (out _ m1).2 (out _ m2).2
  refine ⟨_, n', (t.1, t.2.1, .append (.tag c .nil) t.2.2), e, hn', ?_, hkF_agr h.2.2.2.2 hc1 hc2 (out _ m1).1 (out _ m2).1, rfl, rfl, pm, ?_, fun x hx => (ag x (List.mem_append_right _ hx)).1, fun k hk => by unfold hkF; rw [pk_un (by omega), pk_un (by omega), pk_un (by omega), pk_un (by omega)]⟩
  · refine PI_chg (ts := [t, (0, c, .nil)]) (ts' := [(t.1, t.2.1, .append (.tag c .nil) t.2.2)]) (hand := hand) h ag (fun i _ => by unfold hkF; rw [pk_un (by omega), pk_un (by omega), pk_un (by omega), pk_un (by omega)]) (fun t' ht => ?_) ?_
    · rw [List.mem_singleton.mp ht]
      exact hk_tok h1 h2 hl hv hv1 hn
    · simpa [List.flatMap_cons, ec] using pm
  · have rr : t.2.1 ∉ fcells t.2.2 := (List.nodup_cons.mp (List.nodup_append.mp hn).1).1
    have orr : c ∉ fcells t.2.2 := fun hx => (List.nodup_append.mp hn).2.2 _ (List.mem_cons_of_mem _ hx) _ (List.mem_singleton.mpr rfl) rfl
    have em : (fcells t.2.2).map (hkF f t.2.1 c v1 v2) = (fcells t.2.2).map f := List.map_congr_left fun x hx => (hkF_agr (v1 := v1) (v2 := v2) (f := f) (fok_lt _ _ _ h1.2.2.2.2) hc1 hc2 rr orr x hx).1
    have e0r : hkF f t.2.1 c v1 v2 t.2.1 = v1 := by unfold hkF; rw [pk_un (by omega), pk_un (by omega), pk_un (by omega), pk_us]
    have e0o : hkF f t.2.1 c v1 v2 c = v2 := by unfold hkF; rw [pk_un (by omega), pk_un (by omega), pk_us]
    simp only [tc, fcells, List.nil_append, List.map_cons, List.map_append, List.map_nil, em, e0r, e0o]
    refine List.perm_iff_count.mpr fun x => ?_
    have := hvp.count_eq x
    simp only [List.count_append, List.count_cons, List.count_nil] at this ⊢
    omega
def TW (TT : Nat → Option Tr) (h : Nat) : Prop := ∀ t, TT (64 + h) = some t → t.1 < 8 ∧ (∃ t', TT (8 * h + t.1) = some t') ∧ ∀ r, r < t.1 → TT (8 * h + r) = none
theorem insTail_RS {σ : Sx} {f : Nat → Int32} {n h : Nat} {TT : Nat → Option Tr} {Z : List Nat} {t : Tr} (hh : h < 8) (hP : PI f TT [t] Z) (htw : TT (64 + h) = none) (hlow : ∀ r, r < t.1 → TT (8 * h + r) = none) :
    ∃ (g : Nat → Int32) (TT' : Nat → Option Tr), x_insTail (RS σ f n) (nI h) (nI t.2.1) = RS σ g (n + 3) ∧ PI g TT' [] Z ∧ agr Z f g ∧ (hc TT' h).Perm (tc t ++ hc TT h) ∧ TW TT' h ∧ (∀ j, j ≠ 64 + h → (j < 8 * h ∨ 8 * h + 8 ≤ j) → TT' j = TT j) ∧ (∀ k, k < 200 → g k = f k) ∧ ∀ k, 1072 ≤ k → g k = f k := by
  have hr := PI_rank hP
  have htok := hP.2.1 t List.mem_cons_self
  have hlt := htok.1
  unfold x_insTail
  rw [ad_200, RS_read (by omega)]
  simp only
  rw [htok.2.1, ad_top, RS_read (by omega)]
  simp only
  cases ht : TT (8 * h + t.1) with
  | none =>
    rw [if_pos (PI_none hP (by omega) ht), RS_write (by omega)]
    refine ⟨_, up TT (8 * h + t.1) (some t), rfl, PI_put hP (by omega) ht (fun _ => by omega), agr_hi hP.2.2.2.2 (by omega), ?_, fun t' ht' => ?_, fun j _ hj => up_n (by omega), fun k hk => pk_un (by omega), fun k hk => pk_un (by omega)⟩
    · have h3 := hc_top (TT := TT) (o := some t) hh hr
      rw [ht] at h3
      simpa [oc] using h3
    · rw [up_n (by omega), htw] at ht'
      cases ht'
  | some t2 =>
    obtain ⟨e, htok2, -⟩ := PI_some hP (show 8 * h + t.1 < 72 by omega) ht
    have := htok2.1
    rw [if_neg (by rw [e]; exact nI_ne_m1 (by omega)), ad_tw, RS_write (by omega)]
    rw [show 1064 + h = 1000 + (64 + h) by omega]
    refine ⟨_, up TT (64 + h) (some t), rfl, PI_put hP (by omega) htw (fun h2 => by omega), agr_hi hP.2.2.2.2 (by omega), ?_, fun t' ht' => ?_, fun j hj _ => up_n hj, fun k hk => pk_un (by omega), fun k hk => pk_un (by omega)⟩
    · have h3 := hc_twin (TT := TT) (o := some t) hh
      rw [htw] at h3
      simpa [oc] using h3
    · rw [up_s] at ht'
      cases ht'
      exact ⟨hr, ⟨t2, by rw [up_n (by omega)]; exact ht⟩, fun r hr2 => by rw [up_n (by omega)]; exact hlow r hr2⟩
theorem insert_RS {σ : Sx} {f : Nat → Int32} {n h c : Nat} {TT : Nat → Option Tr} {Z : List Nat} (hh : h < 8) (hP : PI f TT [(0, c, .nil)] Z) (hT : TW TT h) :
    ∃ (g : Nat → Int32) (n' : Nat) (TT' : Nat → Option Tr), x_insertCell (RS σ f n) (nI h) (nI c) = RS σ g n' ∧ n' ≤ n + 22 ∧ PI g TT' [] Z ∧ agr Z f g ∧ (hc TT' h).length = 1 + (hc TT h).length ∧ ((hc TT' h).map g).Perm (f c :: (hc TT h).map f) ∧ TW TT' h ∧ (∀ j, j ≠ 64 + h → (j < 8 * h ∨ 8 * h + 8 ≤ j) → TT' j = TT j) ∧ (∀ h', h' < 8 → h' ≠ h → ∀ x ∈ hc TT h', g x = f x) ∧ ∀ k, 1072 ≤ k → g k = f k := by
  unfold x_insertCell
  rw [x_cutTwin_RS hh]
  simp only
  cases htw : TT (64 + h) with
  | none =>
    have e := PI_none hP (show 64 + h < 72 by omega) htw
    rw [if_pos e, upd_same e]
    obtain ⟨g, TT', b1, b2, b3, b4, b5, b6, b7, b8⟩ := insTail_RS (σ := σ) (n := n + 2) hh hP htw (fun r hr => by simp at hr)
    have b1 : x_insTail (RS σ f (n + 2)) (nI h) (nI c) = _ := b1
    have hlt := PI_lt hP
    have hm : ∀ x ∈ tc (0, c, .nil) ++ hc TT h, g x = f x := fun x hx => b7 x (hlt x (by
      rcases List.mem_append.mp hx with hx | hx
      · exact List.mem_append_left _ (by simpa [List.flatMap_cons] using hx)
      · exact List.mem_append_right _ (hc_tcs hh hx)))
    refine ⟨g, n + 2 + 3, TT', b1, by omega, b2, b3, by rw [b4.length_eq]; simp [tc, fcells]; omega, ?_, b5, b6, fun h' hh' _ x hx => b7 x (hlt x (List.mem_append_right _ (hc_tcs hh' hx))), b8⟩
    have h1 := b4.map g
    rw [List.map_congr_left hm] at h1
    simpa [tc, fcells] using h1
  | some tw =>
    obtain ⟨hr, ⟨tp, htp⟩, hlow⟩ := hT tw htw
    obtain ⟨e, htokw, -⟩ := PI_some hP (show 64 + h < 72 by omega) htw
    have hltw := htokw.1
    rw [e, if_neg (nI_ne_m1 (by omega)), ad_200, RS_read (by omega)]
    simp only
    rw [pk_un (by omega), htokw.2.1, x_cutTop_RS hh hr]
    simp only
    have h1 := PI_cut hP (show 64 + h < 72 by omega) htw
    have htp1 : up TT (64 + h) none (8 * h + tw.1) = some tp := by rw [up_n (by omega)]; exact htp
    obtain ⟨e2, -, hrp⟩ := PI_some h1 (show 8 * h + tw.1 < 72 by omega) htp1
    have hrp : tp.1 = tw.1 := by have := hrp (by omega); omega
    rw [e2]
    have h2 := PI_cut h1 (show 8 * h + tw.1 < 72 by omega) htp1
    have h3 := PI_perm (hand' := [tw, tp, (0, c, .nil)]) (List.Perm.swap _ _ _) h2
    obtain ⟨g, t, a1, a2, a3, a4, a5, a6, a7, a8⟩ := PI_link (σ := σ) (n := n + 2 + 1 + 2) h3 hrp.symm
    rw [a1]
    simp only
    obtain ⟨g2, n2, t2, c1, c2, c3, c4, c5, c6, c7, c8, c9, c10⟩ := PI_hang (σ := σ) (n := n + 2 + 1 + 2 + 7) a2 (by omega)
    rw [c1, ← c6]
    have hno : ∀ r, r < t2.1 → up (up TT (64 + h) none) (8 * h + tw.1) none (8 * h + r) = none := fun r hr2 => by
      by_cases hrr : r = tw.1
      · subst hrr; exact up_s
      · rw [up_n (by omega), up_n (by omega)]
        exact hlow r (by omega)
    obtain ⟨g3, TT3, d1, d2, d3, d4, d5, d6, d7, d8⟩ := insTail_RS (σ := σ) (n := n2) hh c3 (by rw [up_n (by omega), up_s]) hno
    have p1 := hc_twin (TT := TT) (o := none) hh
    have p2 := hc_top (TT := up TT (64 + h) none) (o := none) hh hr
    rw [htw] at p1
    rw [htp1] at p2
    have hlt3 := PI_lt c3
    refine ⟨g3, n2 + 3, TT3, d1, by omega, d2, agr_tr (agr_tr (agr_tr (agr_tr (agr_hi hP.2.2.2.2 (by omega)) (agr_hi hP.2.2.2.2 (by omega))) a3) c4) d3, ?_, ?_, d5, fun j hj hj2 => by rw [d6 j hj hj2, up_n (by omega), up_n hj], ?_, fun k hk => by rw [d8 k hk, c10 k (by omega), a8 k (by omega), pk_un (by omega), pk_un (by omega)]⟩
    · have l1 := d4.length_eq
      have l2 := c7.length_eq
      have l3 := a5.length_eq
      have l4 := p1.length_eq
      have l5 := p2.length_eq
      simp only [List.length_append, oc, List.length_nil, List.length_cons] at l1 l2 l3 l4 l5 ⊢
      omega
    · -- the keys
      have hsub : ∀ x ∈ hc (up (up TT (64 + h) none) (8 * h + tw.1) none) h, x ∈ tcs (up (up TT (64 + h) none) (8 * h + tw.1) none) := fun x hx => hc_tcs hh hx
      have k1 : (tc t2 ++ hc (up (up TT (64 + h) none) (8 * h + tw.1) none) h).map g3 = (tc t2).map g2 ++ (hc (up (up TT (64 + h) none) (8 * h + tw.1) none) h).map g := by
        rw [List.map_append]
        congr 1
        · exact List.map_congr_left fun x hx => d7 x (hlt3 x (List.mem_append_left _ (by simpa [List.flatMap_cons] using hx)))
        · exact List.map_congr_left fun x hx => (d7 x (hlt3 x (List.mem_append_right _ (hsub x hx)))).trans (c9 x (hsub x hx))
      have hlt0 := PI_lt h2
      have hg : ∀ x, x < 200 → g x = f x := fun x hx => by rw [a7 x hx, pk_un (by omega), pk_un (by omega)]
      have k2 : (tc t ++ [c]).map g = (tc t ++ [c]).map f := List.map_congr_left fun x hx => hg x (by
        rcases List.mem_append.mp hx with hx | hx
        · have h9 := a5.mem_iff.mp hx
          refine hlt0 x (List.mem_append_left _ ?_)
          simp only [List.flatMap_cons, List.mem_append] at h9 ⊢
          rcases h9 with h9 | h9
          · exact Or.inr (Or.inl h9)
          · exact Or.inl h9
        · rw [List.mem_singleton.mp hx]
          exact (hP.2.1 _ List.mem_cons_self).1)
      have k3 : (hc (up (up TT (64 + h) none) (8 * h + tw.1) none) h).map g = (hc (up (up TT (64 + h) none) (8 * h + tw.1) none) h).map f := List.map_congr_left fun x hx => hg x (hlt0 x (List.mem_append_right _ (hsub x hx)))
      have m1 := d4.map g3
      rw [k1, k3] at m1
      have m2 := c8
      rw [k2] at m2
      have m3 := a5.map f
      have m4 := p1.map f
      have m5 := p2.map f
      refine List.perm_iff_count.mpr fun x => ?_
      have q1 := m1.count_eq x
      have q2 := m2.count_eq x
      have q3 := m3.count_eq x
      have q4 := m4.count_eq x
      have q5 := m5.count_eq x
      simp only [List.map_append, List.count_append, oc, List.map_nil, List.count_nil, List.map_cons, List.count_cons] at q1 q2 q3 q4 q5 ⊢
      omega
    · intro h' hh' hne x hx
      have e9 : hc (up (up TT (64 + h) none) (8 * h + tw.1) none) h' = hc TT h' := hc_eq hh' (by rw [up_n (by omega), up_n (by omega)]) (fun r hr2 => by rw [up_n (by omega), up_n (by omega)])
      rw [← e9] at hx
      have hx2 := hc_tcs hh' hx
      rw [d7 x (hlt3 x (List.mem_append_right _ hx2)), c9 x hx2, a7 x (hlt3 x (List.mem_append_right _ hx2)), pk_un (by have := hlt3 x (List.mem_append_right _ hx2); omega), pk_un (by have := hlt3 x (List.mem_append_right _ hx2); omega)]
end
section
/-! the loops of the listing, without their counters -/
def x_lcL : Nat → Sx → Int32 → Int32 → Int32 × Sx
  | 0, σ, e, _ => (e, σ)
  | n + 1, σ, e, ce =>
    if ce = -1 then (e, σ) else if 200 ≤ e then (e, σ) else
      let q := x_read (x_write σ (800 + e) ce) (600 + ce)
      x_lcL n q.2 (e + 1) q.1
def x_lsT (h : Int32) : Nat → Sx → Int32 → Int32 → Int32 × Sx
  | 0, σ, count, _ => (count, σ)
  | n + 1, σ, count, rank =>
    let q := x_read σ (x_topAt h rank)
    let q2 := x_listChain q.2 count q.1 1
    x_lsT h n q2.2 q2.1 (rank + 1)
def x_lsC : Nat → Sx → Int32 → Int32 → Int32 × Sx
  | 0, σ, count, _ => (count, σ)
  | n + 1, σ, count, i =>
    if count ≤ i then (count, σ) else
      let q := x_read σ (800 + i)
      let q2 := x_read q.2 (400 + q.1)
      let q3 := x_listChain q2.2 count q2.1 200
      x_lsC n q3.2 q3.1 (i + 1)
def x_cuL (bound : Int64) : Nat → Sx → Int32 → Int32 → Int32 × Sx
  | 0, σ, found, _ => (found, σ)
  | n + 1, σ, found, i =>
    let q := x_listedKey σ i
    if bound < q.1.toInt64 then x_cuL bound n q.2 found (i + 1) else x_cuL bound n q.2 (found + 1) (i + 1)
def x_kthL (count k : Int32) : Nat → Sx → Int64 → Int64 → Int64 × Sx
  | 0, σ, low, _ => (low, σ)
  | n + 1, σ, low, high =>
    let q := x_countUpTo σ count ((low + high) >>> ((1 : Int32).toInt64 &&& 63))
    if q.1 ≤ k then x_kthL count k n q.2 ((low + high) >>> ((1 : Int32).toInt64 &&& 63) + 1) high else x_kthL count k n q.2 low ((low + high) >>> ((1 : Int32).toInt64 &&& 63))
def x_sumL : Nat → Sx → Int64 → Int32 → Int64 × Sx
  | 0, σ, total, _ => (total, σ)
  | n + 1, σ, total, i =>
    let q := x_listedKey σ i
    x_sumL n q.2 (total + q.1.toInt64) (i + 1)
theorem lcL_eq (M : Nat) (hM : M < 2 ^ 31) : ∀ (m i : Nat) (σ : Sx) (e ce : Int32), i + m = M → y_lcL (nI M) (m + 1) σ e ce (nI i) = x_lcL m σ e ce := by
  intro m
  induction m with
  | zero =>
    intro i σ e ce hi
    unfold y_lcL x_lcL
    rw [if_pos (nI_le (by omega) (by omega))]
  | succ m ih =>
    intro i σ e ce hi
    unfold y_lcL x_lcL
    rw [if_neg (nI_ge (by omega) (by omega))]
    split
    · rfl
    · split
      · rfl
      · simp only
        rw [nI_1]
        exact ih (i + 1) _ _ _ (by omega)
theorem lch_1 (σ : Sx) (c f : Int32) : x_listChain σ c f 1 = x_lcL 1 σ c f := by
  have h := lcL_eq 1 (by omega) 1 0 σ c f (by omega)
  exact h
theorem lch_200 (σ : Sx) (c f : Int32) : x_listChain σ c f 200 = x_lcL 200 σ c f := by
  have h := lcL_eq 200 (by omega) 200 0 σ c f (by omega)
  exact h
theorem lsT_eq (h : Int32) : ∀ (m i : Nat) (σ : Sx) (b : Int32), i + m = 8 → y_lsT h (m + 1) σ b (nI i) = x_lsT h m σ b (nI i) := by
  intro m
  induction m with
  | zero =>
    intro i σ b hi
    unfold y_lsT x_lsT
    rw [if_pos (show (8 : Int32) ≤ nI i from nI_le (a := 8) (by omega) (by omega))]
  | succ m ih =>
    intro i σ b hi
    unfold y_lsT x_lsT
    rw [if_neg (show ¬ (8 : Int32) ≤ nI i from nI_ge (b := 8) (by omega) (by omega))]
    simp only
    rw [nI_1]
    exact ih (i + 1) _ _ (by omega)
theorem lsC_eq : ∀ (m i : Nat) (σ : Sx) (b : Int32), i + m = 200 → y_lsC (m + 1) σ b (nI i) = x_lsC m σ b (nI i) := by
  intro m
  induction m with
  | zero =>
    intro i σ b hi
    unfold y_lsC x_lsC
    split
    · rfl
    · rw [if_pos (show (200 : Int32) ≤ nI i from nI_le (a := 200) (by omega) (by omega))]
  | succ m ih =>
    intro i σ b hi
    unfold y_lsC x_lsC
    split
    · rfl
    · rw [if_neg (show ¬ (200 : Int32) ≤ nI i from nI_ge (b := 200) (by omega) (by omega))]
      simp only
      rw [nI_1]
      exact ih (i + 1) _ _ (by omega)
theorem cuL_eq (bd : Int64) (M : Nat) (hM : M < 2 ^ 31) : ∀ (m i : Nat) (σ : Sx) (b : Int32), i + m = M → y_cuL bd (nI M) (m + 1) σ b (nI i) = x_cuL bd m σ b (nI i) := by
  intro m
  induction m with
  | zero =>
    intro i σ b hi
    unfold y_cuL x_cuL
    rw [if_pos (nI_le (by omega) (by omega))]
  | succ m ih =>
    intro i σ b hi
    unfold y_cuL x_cuL
    rw [if_neg (nI_ge (by omega) (by omega))]
    simp only
    split
    · rw [nI_1]
      exact ih (i + 1) _ _ (by omega)
    · rw [nI_1]
      exact ih (i + 1) _ _ (by omega)
theorem sumL_eq (M : Nat) (hM : M < 2 ^ 31) : ∀ (m i : Nat) (σ : Sx) (b : Int64), i + m = M → y_sumL (nI M) (m + 1) σ b (nI i) = x_sumL m σ b (nI i) := by
  intro m
  induction m with
  | zero =>
    intro i σ b hi
    unfold y_sumL x_sumL
    rw [if_pos (nI_le (by omega) (by omega))]
  | succ m ih =>
    intro i σ b hi
    unfold y_sumL x_sumL
    rw [if_neg (nI_ge (by omega) (by omega))]
    simp only
    rw [nI_1]
    exact ih (i + 1) _ _ (by omega)
theorem kthL_eq (ct k : Int32) : ∀ (m i : Nat) (σ : Sx) (lo hi : Int64), i + m = 32 → y_kthL ct k (m + 1) σ lo hi (nI i) = x_kthL ct k m σ lo hi := by
  intro m
  induction m with
  | zero =>
    intro i σ lo hi h
    unfold y_kthL x_kthL
    rw [if_pos (show (32 : Int32) ≤ nI i from nI_le (a := 32) (by omega) (by omega))]
  | succ m ih =>
    intro i σ lo hi h
    unfold y_kthL x_kthL
    rw [if_neg (show ¬ (32 : Int32) ≤ nI i from nI_ge (b := 32) (by omega) (by omega))]
    simp only
    split
    · rw [nI_1]
      exact ih (i + 1) _ _ _ (by omega)
    · rw [nI_1]
      exact ih (i + 1) _ _ _ (by omega)
/-! the listing of a heap's cells, the count, the sum, the k-th -/
def kids : Std.Format → List (Nat × Std.Format)
  | .append (.tag c a) b => (c, a) :: kids b
  | _ => []
def pcs (P : List (Nat × Std.Format)) : List Nat := P.flatMap (fun q => fcells q.2)
def Lst (g : Nat → Int32) (L : List Nat) : Prop := ∀ j c, L[j]? = some c → g (800 + j) = nI c
theorem kids_len : ∀ b : Std.Format, (kids b).length = flen b := by
  intro b
  induction b using flen.induct with
  | case1 c a b ih => simp [kids, flen, ih]
  | case2 b hb =>
    rw [kids, flen]
    · rfl
    · exact hb
    · exact hb
theorem kids_perm : ∀ b : Std.Format, (fcells b).Perm ((kids b).map Prod.fst ++ pcs (kids b)) := by
  intro b
  induction b using flen.induct with
  | case1 c a b ih =>
    refine List.perm_iff_count.mpr fun x => ?_
    have := ih.count_eq x
    simp only [fcells, kids, pcs, List.flatMap_cons, List.map_cons, List.count_cons, List.count_append, List.cons_append] at this ⊢
    omega
  | case2 b hb =>
    rw [kids, fcells]
    · simp [pcs]
    · exact hb
    · exact hb
theorem kids_ok {f : Nat → Int32} : ∀ (b : Std.Format) (q k : Int32), fok f b q k → ∀ x ∈ kids b, x.1 < 200 ∧ ∃ k', fok f x.2 (f (400 + x.1)) k' := by
  intro b
  induction b using flen.induct with
  | case1 c a b ih =>
    intro q k h x hx
    simp only [fok] at h
    simp only [kids, List.mem_cons] at hx
    rcases hx with rfl | hx
    · exact ⟨h.2.1, _, h.2.2.2.2.1⟩
    · exact ih _ _ h.2.2.2.2.2 x hx
  | case2 b hb =>
    intro q k h x hx
    rw [kids] at hx
    · simp at hx
    · exact hb
theorem Lst_add {f : Nat → Int32} {L : List Nat} {c : Nat} (h : Lst f L) : Lst (upd f (800 + L.length) (nI c)) (L ++ [c]) := by
  intro j x hx
  by_cases hj : j < L.length
  · rw [List.getElem?_append_left hj] at hx
    rw [pk_un (by omega)]
    exact h j x hx
  · rw [List.getElem?_append_right (by omega)] at hx
    have hj2 : j = L.length := by
      have := (List.getElem?_eq_some_iff.mp hx).1
      simp at this
      omega
    subst hj2
    simp at hx
    subst hx
    exact pk_us
theorem lc_L {σ : Sx} : ∀ (b : Std.Format) (m : Nat) (f : Nat → Int32) (n : Nat) (L : List Nat) (q k : Int32), fok f b q k → flen b ≤ m → L.length + flen b ≤ 200 → Lst f L →
    ∃ g n', x_lcL m (RS σ f n) (nI L.length) q = (nI (L.length + flen b), RS σ g n') ∧ Lst g (L ++ (kids b).map Prod.fst) ∧ ∀ j, (j < 800 ∨ 1000 ≤ j) → g j = f j := by
  intro b
  induction b using flen.induct with
  | case1 c a b ih =>
    intro m f n L q k h hm hL hl
    simp only [fok] at h
    simp only [flen] at hm hL
    obtain ⟨rfl, hc0, -, -, -, hfb⟩ := h
    cases m with
    | zero => omega
    | succ m =>
      unfold x_lcL
      rw [if_neg (nI_ne_m1 (by omega)), if_neg (show ¬ (200 : Int32) ≤ nI L.length from nI_ge (b := 200) (by omega) (by omega)), ad_800, RS_write (by omega), ad_600, RS_read (by omega)]
      simp only
      rw [nI_1, pk_un (by omega)]
      have h1 := Lst_add (c := c) hl
      have e : nI (L.length + 1) = nI (L ++ [c]).length := by simp
      rw [e]
      obtain ⟨g, n', e1, e2, e3⟩ := ih m (upd f (800 + L.length) (nI c)) (n + 1 + 1) (L ++ [c]) (f (600 + c)) k (fok_agr _ _ _ (agr_hi (fok_lt _ _ _ hfb) (by omega)) hfb) (by omega) (by simp; omega) h1
      refine ⟨g, n', ?_, ?_, fun j hj => ?_⟩
      · rw [e1]
        simp only [flen, List.length_append, List.length_cons, List.length_nil]
        rw [show L.length + (0 + 1) + flen b = L.length + (flen b + 1) by omega]
      · simpa [kids, List.append_assoc] using e2
      · rw [e3 j hj, pk_un (by omega)]
  | case2 b hb =>
    intro m f n L q k h hm hL hl
    have e2 : q = -1 := by rw [fok] at h; exact h; exact hb
    have e3 : flen b = 0 := by rw [flen]; exact hb
    have e4 : kids b = [] := by rw [kids]; exact hb
    subst e2
    refine ⟨f, n, ?_, by rw [e4]; simpa using hl, fun _ _ => rfl⟩
    rw [e3]
    cases m with
    | zero => rfl
    | succ m => unfold x_lcL; rw [if_pos rfl]; rfl
def rt : Option Tr → List (Nat × Std.Format)
  | none => []
  | some t => [(t.2.1, t.2.2)]
theorem lc_1 {σ : Sx} {f : Nat → Int32} {n i : Nat} {L : List Nat} {TT : Nat → Option Tr} {hand : List Tr} {Z : List Nat} {v : Int32} (hP : PI f TT hand Z) (hi : i < 72) (hv : v = f (1000 + i)) (hL : L.length < 200) (hl : Lst f L) :
    ∃ g n', x_listChain (RS σ f n) (nI L.length) v 1 = (nI (L ++ (rt (TT i)).map Prod.fst).length, RS σ g n') ∧ Lst g (L ++ (rt (TT i)).map Prod.fst) ∧ ∀ j, (j < 800 ∨ 1000 ≤ j) → g j = f j := by
  subst hv
  rw [lch_1]
  cases ht : TT i with
  | none =>
    rw [PI_none hP hi ht]
    refine ⟨f, n, ?_, by simpa [rt] using hl, fun _ _ => rfl⟩
    unfold x_lcL
    rw [if_pos rfl]
    simp [rt]
  | some t =>
    obtain ⟨e, htok, -⟩ := PI_some hP hi ht
    have := htok.1
    rw [e]
    unfold x_lcL
    rw [if_neg (nI_ne_m1 (by omega)), if_neg (show ¬ (200 : Int32) ≤ nI L.length from nI_ge (b := 200) (by omega) (by omega)), ad_800, RS_write (by omega), ad_600, RS_read (by omega)]
    simp only
    unfold x_lcL
    refine ⟨upd f (800 + L.length) (nI t.2.1), n + 1 + 1, ?_, Lst_add hl, fun j hj => pk_un (by omega)⟩
    rw [nI_1]
    simp [rt]
theorem PI_list {f g : Nat → Int32} {TT : Nat → Option Tr} {hand : List Tr} {Z : List Nat} (hP : PI f TT hand Z) (hg : ∀ j, (j < 800 ∨ 1000 ≤ j) → g j = f j) : PI g TT hand Z ∧ agr Z f g := by
  have ag : ∀ Z' : List Nat, (∀ c ∈ Z', c < 200) → agr Z' f g := fun Z' hZ c hc => by
    have := hZ c hc
    exact ⟨hg _ (by omega), hg _ (by omega), hg _ (by omega), hg _ (by omega)⟩
  exact ⟨PI_chg (ts := []) (ts' := []) (hand := hand) hP (ag _ (PI_lt hP)) (fun i _ => hg _ (by omega)) (fun t ht => by simp at ht) (List.Perm.refl _), ag _ hP.2.2.2.2⟩
theorem rt_cells (o : Option Tr) : (rt o).flatMap (fun q => q.1 :: fcells q.2) = oc o := by
  cases o <;> simp [rt, oc, tc]
def rtP (TT : Nat → Option Tr) (h r : Nat) : List (Nat × Std.Format) := rt (TT (64 + h)) ++ (List.range r).flatMap (fun j => rt (TT (8 * h + j)))
theorem rtP_hc (TT : Nat → Option Tr) (h : Nat) : (rtP TT h 8).flatMap (fun q => q.1 :: fcells q.2) = hc TT h := by
  unfold rtP hc
  rw [List.flatMap_append, rt_cells, List.flatMap_assoc]
  simp only [rt_cells]
theorem rtP_len (TT : Nat → Option Tr) (h : Nat) : ∀ r, (rtP TT h r).length ≤ 1 + r := by
  have e : ∀ o, (rt o).length ≤ 1 := fun o => by cases o <;> simp [rt]
  intro r
  induction r with
  | zero => have := e (TT (64 + h)); simp [rtP]; omega
  | succ r ih =>
    have := e (TT (8 * h + r))
    simp only [rtP, List.length_append, List.range_succ, List.flatMap_append, List.flatMap_cons, List.flatMap_nil, List.append_nil] at ih ⊢
    omega
theorem ls_T {σ : Sx} {h : Nat} {TT : Nat → Option Tr} {hand : List Tr} {Z : List Nat} (hh : h < 8) : ∀ (m r : Nat) (f : Nat → Int32) (n : Nat), r + m = 8 → PI f TT hand Z → Lst f ((rtP TT h r).map Prod.fst) →
    ∃ g n', x_lsT (nI h) m (RS σ f n) (nI ((rtP TT h r).map Prod.fst).length) (nI r) = (nI ((rtP TT h 8).map Prod.fst).length, RS σ g n') ∧ Lst g ((rtP TT h 8).map Prod.fst) ∧ ∀ j, (j < 800 ∨ 1000 ≤ j) → g j = f j := by
  intro m
  induction m with
  | zero =>
    intro r f n hr hP hl
    obtain rfl : r = 8 := by omega
    exact ⟨f, n, rfl, hl, fun _ _ => rfl⟩
  | succ m ih =>
    intro r f n hr hP hl
    unfold x_lsT
    rw [ad_top, RS_read (by omega)]
    simp only
    have hlen := rtP_len TT h r
    obtain ⟨g, n', e1, e2, e3⟩ := lc_1 (σ := σ) (n := n + 1) hP (show 8 * h + r < 72 by omega) rfl (by rw [List.length_map]; omega) hl
    have er : (rtP TT h r).map Prod.fst ++ (rt (TT (8 * h + r))).map Prod.fst = (rtP TT h (r + 1)).map Prod.fst := by
      simp [rtP, List.range_succ, List.flatMap_append]
    rw [er] at e1 e2
    rw [e1]
    simp only
    rw [nI_1]
    obtain ⟨g2, n2, d1, d2, d3⟩ := ih (r + 1) g n' (by omega) (PI_list hP e3).1 e2
    exact ⟨g2, n2, d1, d2, fun j hj => (d3 j hj).trans (e3 j hj)⟩
theorem ls_C {σ : Sx} {C : List Nat} (hC : C.length ≤ 200) : ∀ (m : Nat) (f : Nat → Int32) (n : Nat) (Dn : List Nat) (P : List (Nat × Std.Format)), Dn.length + m = 200 → Lst f (Dn ++ P.map Prod.fst) → (∀ x ∈ P, x.1 < 200 ∧ ∃ k, fok f x.2 (f (400 + x.1)) k) → ((Dn ++ P.map Prod.fst) ++ pcs P).Perm C →
    ∃ g n' L, x_lsC m (RS σ f n) (nI (Dn ++ P.map Prod.fst).length) (nI Dn.length) = (nI C.length, RS σ g n') ∧ L.Perm C ∧ Lst g L ∧ ∀ j, (j < 800 ∨ 1000 ≤ j) → g j = f j := by
  intro m
  induction m with
  | zero =>
    intro f n Dn P hm hl hok hp
    have h1 := hp.length_eq
    simp only [List.length_append, List.length_map] at h1
    have h2 : P = [] := by
      cases P with
      | nil => rfl
      | cons x P => simp at h1; omega
    subst h2
    refine ⟨f, n, Dn, ?_, by simpa [pcs] using hp, by simpa using hl, fun _ _ => rfl⟩
    unfold x_lsC
    rw [← h1]
    simp [pcs]
  | succ m ih =>
    intro f n Dn P hm hl hok hp
    have h1 := hp.length_eq
    simp only [List.length_append, List.length_map] at h1
    unfold x_lsC
    cases P with
    | nil =>
      rw [if_pos (by simp)]
      refine ⟨f, n, Dn, ?_, by simpa [pcs] using hp, by simpa using hl, fun _ _ => rfl⟩
      rw [← h1]
      simp [pcs]
    | cons x P =>
      obtain ⟨c, a⟩ := x
      simp only [List.length_cons] at h1
      have hlt : Dn.length < (Dn ++ ((c, a) :: P).map Prod.fst).length := by simp
      have hcnt : (Dn ++ ((c, a) :: P).map Prod.fst).length ≤ 200 := by simp; omega
      rw [if_neg (nI_ge hlt (by omega)), ad_800, RS_read (by omega)]
      simp only
      obtain ⟨hc0, k, hfk⟩ := hok (c, a) List.mem_cons_self
      have e0 : f (800 + Dn.length) = nI c := hl Dn.length c (by rw [List.getElem?_append_right (Nat.le_refl _)]; simp)
      rw [e0, ad_400, RS_read (by simp only at hc0; omega)]
      simp only
      have hk1 := kids_len a
      have hk2 := (kids_perm a).length_eq
      have hk3 : flen a ≤ (fcells a).length := by
        rw [hk2, List.length_append, List.length_map]
        omega
      have hk4 : (pcs ((c, a) :: P)).length = (fcells a).length + (pcs P).length := by simp [pcs]
      obtain ⟨g, n', e1, e2, e3⟩ := lc_L (σ := σ) a 200 f (n + 1 + 1) (Dn ++ ((c, a) :: P).map Prod.fst) (f (400 + c)) k hfk (by omega) (by simp only [List.length_append, List.length_map, List.length_cons]; omega) hl
      rw [lch_200, e1]
      simp only
      rw [nI_1]
      have eL : (Dn ++ ((c, a) :: P).map Prod.fst) ++ (kids a).map Prod.fst = (Dn ++ [c]) ++ (P ++ kids a).map Prod.fst := by simp
      have eN : (Dn ++ ((c, a) :: P).map Prod.fst).length + flen a = ((Dn ++ [c]) ++ (P ++ kids a).map Prod.fst).length := by
        rw [← eL, List.length_append (bs := (kids a).map Prod.fst), List.length_map (as := kids a), hk1]
      have eD : Dn.length + 1 = (Dn ++ [c]).length := by simp
      rw [eN, eD]
      rw [eL] at e2
      have ag : ∀ t p k', fok f t p k' → fok g t p k' := fun t p k' h => fok_agr _ _ _ (fun x hx => by
        have := fok_lt _ _ _ h x hx
        exact ⟨e3 _ (by omega), e3 _ (by omega), e3 _ (by omega), e3 _ (by omega)⟩) h
      obtain ⟨g2, n2, L, d1, d2, d3, d4⟩ := ih g n' (Dn ++ [c]) (P ++ kids a) (by simp; omega) e2 (fun x hx => by
        have h9 : x.1 < 200 ∧ ∃ k, fok f x.2 (f (400 + x.1)) k := by
          rcases List.mem_append.mp hx with hx | hx
          · exact hok x (List.mem_cons_of_mem _ hx)
          · exact kids_ok _ _ _ hfk x hx
        obtain ⟨h91, k9, h92⟩ := h9
        exact ⟨h91, k9, by rw [e3 (400 + x.1) (by omega)]; exact ag _ _ _ h92⟩) (by
        refine List.Perm.trans (List.perm_iff_count.mpr fun x => ?_) hp
        have := (kids_perm a).count_eq x
        simp only [pcs, List.flatMap_append, List.flatMap_cons, List.map_append, List.map_cons, List.count_append, List.count_cons, List.count_nil] at this ⊢
        omega)
      exact ⟨g2, n2, L, d1, d2, d3, fun j hj => (d4 j hj).trans (e3 j hj)⟩
theorem fm_le {α : Type} (l : List Nat) (hl : l.Nodup) : ∀ (I : List Nat) (g : Nat → List α), I.Nodup → (∀ i ∈ I, i ∈ l) → (I.flatMap g).length ≤ (l.flatMap g).length := by
  intro I
  induction I with
  | nil => intro g _ _; simp
  | cons i I ih =>
    intro g hn hs
    have hi := (List.nodup_cons.mp hn).1
    have h1 := fm_up g (fun j => if j = i then [] else g j) i l hl (hs i List.mem_cons_self) (fun j _ hj => by simp [hj])
    have h2 := ih (fun j => if j = i then [] else g j) (List.nodup_cons.mp hn).2 (fun j hj => hs j (List.mem_cons_of_mem _ hj))
    have h3 : I.flatMap (fun j => if j = i then [] else g j) = I.flatMap g := by
      apply fm_congr
      intro j hj
      exact if_neg (fun e : j = i => hi (e ▸ hj))
    have h4 := h1.length_eq
    rw [h3] at h2
    simp only [List.length_append, List.flatMap_cons, if_true, List.length_nil] at h4 ⊢
    omega
theorem hc_len {f : Nat → Int32} {TT : Nat → Option Tr} {hand : List Tr} {Z : List Nat} {h : Nat} (hh : h < 8) (hP : PI f TT hand Z) : Z.length + (hand.flatMap tc).length + (hc TT h).length ≤ 200 := by
  have h1 := fm_le (List.range 72) List.nodup_range ((64 + h) :: (List.range 8).map (fun r => 8 * h + r)) (fun i => oc (TT i)) (by
    refine List.nodup_cons.mpr ⟨fun hm => ?_, ?_⟩
    · obtain ⟨r, hr, he⟩ := List.mem_map.mp hm
      have := List.mem_range.mp hr
      omega
    · have e : (List.range 8).map (fun r => 8 * h + r) = [8 * h + 0, 8 * h + 1, 8 * h + 2, 8 * h + 3, 8 * h + 4, 8 * h + 5, 8 * h + 6, 8 * h + 7] := rfl
      rw [e]
      simp) (fun i hi => by
    rw [List.mem_range]
    rcases List.mem_cons.mp hi with rfl | hi
    · omega
    · obtain ⟨r, hr, he⟩ := List.mem_map.mp hi
      have := List.mem_range.mp hr
      omega)
  have h2 := hP.2.2.2.1
  simp only [List.length_append] at h2
  have e : (hc TT h) = ((64 + h) :: (List.range 8).map (fun r => 8 * h + r)).flatMap (fun i => oc (TT i)) := by
    unfold hc
    rw [List.flatMap_cons, List.flatMap_map]
  rw [e]
  unfold tcs at h2
  omega
/-- the listing: all the heap's cells, each once -/
theorem listCells_RS {σ : Sx} {f : Nat → Int32} {n h : Nat} {TT : Nat → Option Tr} {hand : List Tr} {Z : List Nat} (hh : h < 8) (hP : PI f TT hand Z) :
    ∃ g n' L, x_listCells (RS σ f n) (nI h) = (nI (hc TT h).length, RS σ g n') ∧ L.Perm (hc TT h) ∧ Lst g L ∧ ∀ j, (j < 800 ∨ 1000 ≤ j) → g j = f j := by
  have hlen := hc_len hh hP
  unfold x_listCells
  rw [ad_tw, RS_read (by omega)]
  simp only
  obtain ⟨g1, n1, a1, a2, a3⟩ := lc_1 (σ := σ) (n := n + 1) (L := []) hP (show 64 + h < 72 by omega) (v := f (1064 + h)) (by rw [show 1000 + (64 + h) = 1064 + h by omega]) (by simp) (fun j c hj => by simp at hj)
  have a1 : x_listChain (RS σ f (n + 1)) 0 (f (1064 + h)) 1 = (nI ([] ++ (rt (TT (64 + h))).map Prod.fst).length, RS σ g1 n1) := by rw [← nI_0]; exact a1
  rw [a1]
  simp only
  have e0 : [] ++ (rt (TT (64 + h))).map Prod.fst = (rtP TT h 0).map Prod.fst := by simp [rtP]
  rw [e0] at a2 ⊢
  obtain ⟨g2, n2, b1, b2, b3⟩ := ls_T (σ := σ) hh 8 0 g1 n1 (by omega) (PI_list hP a3).1 a2
  have b1 : y_lsT (nI h) 9 (RS σ g1 n1) (nI ((rtP TT h 0).map Prod.fst).length) 0 = (nI ((rtP TT h 8).map Prod.fst).length, RS σ g2 n2) := by rw [← nI_0]; exact (lsT_eq (nI h) 8 0 _ _ (by omega)).trans b1
  rw [b1]
  simp only
  have hok : ∀ x ∈ rtP TT h 8, x.1 < 200 ∧ ∃ k, fok g2 x.2 (g2 (400 + x.1)) k := fun x hx => by
    have hP2 := (PI_list (PI_list hP a3).1 b3).1
    have hx2 : ∃ i t, i < 72 ∧ TT i = some t ∧ x = (t.2.1, t.2.2) := by
      rcases List.mem_append.mp hx with hx | hx
      · cases ht : TT (64 + h) with
        | none => rw [ht] at hx; simp [rt] at hx
        | some t => rw [ht] at hx; exact ⟨64 + h, t, by omega, ht, by simpa [rt] using hx⟩
      · obtain ⟨r, hr, hx⟩ := List.mem_flatMap.mp hx
        have := List.mem_range.mp hr
        cases ht : TT (8 * h + r) with
        | none => rw [ht] at hx; simp [rt] at hx
        | some t => rw [ht] at hx; exact ⟨8 * h + r, t, by omega, ht, by simpa [rt] using hx⟩
    obtain ⟨i, t, hi, ht, rfl⟩ := hx2
    obtain ⟨-, htok, -⟩ := PI_some hP2 hi ht
    exact ⟨htok.1, _, htok.2.2.2.2⟩
  have hpm : (([] ++ (rtP TT h 8).map Prod.fst) ++ pcs (rtP TT h 8)).Perm (hc TT h) := by
    rw [← rtP_hc]
    generalize rtP TT h 8 = P
    induction P with
    | nil => simp [pcs]
    | cons x P ih =>
      refine List.perm_iff_count.mpr fun a => ?_
      have := ih.count_eq a
      simp only [pcs, List.flatMap_cons, List.map_cons, List.count_append, List.count_cons, List.nil_append, List.cons_append] at this ⊢
      omega
  obtain ⟨g3, n3, L, c1, c2, c3, c4⟩ := ls_C (σ := σ) (by omega) 200 g2 n2 [] (rtP TT h 8) (by simp) (by simpa using b2) hok hpm
  have c1 : y_lsC 201 (RS σ g2 n2) (nI ((rtP TT h 8).map Prod.fst).length) 0 = (nI (hc TT h).length, RS σ g3 n3) := by rw [← nI_0]; exact (lsC_eq 200 0 _ _ (by omega)).trans c1
  exact ⟨g3, n3, L, c1, c2, c3, fun j hj => ((c4 j hj).trans (b3 j hj)).trans (a3 j hj)⟩
theorem listedKey_RS {σ : Sx} {g : Nat → Int32} {n i c : Nat} {L : List Nat} (hl : Lst g L) (hi : L[i]? = some c) (hL : L.length ≤ 200) (hc0 : c < 200) : x_listedKey (RS σ g n) (nI i) = (g c, RS σ g (n + 2)) := by
  have h1 := (List.getElem?_eq_some_iff.mp hi).1
  unfold x_listedKey
  rw [ad_800, RS_read (by omega)]
  simp only
  rw [hl i c hi, ad_0, RS_read (by omega)]
theorem cu_L {σ : Sx} {g : Nat → Int32} {L : List Nat} {bound : Int64} (hl : Lst g L) (hL : L.length ≤ 200) (hc0 : ∀ c ∈ L, c < 200) : ∀ (rest Dn : List Nat) (n fd : Nat), L = Dn ++ rest →
    ∃ n', x_cuL bound rest.length (RS σ g n) (nI fd) (nI Dn.length) = (nI (fd + (rest.map g).countP (fun v => decide (v.toInt64 ≤ bound))), RS σ g n') := by
  intro rest
  induction rest with
  | nil => intro Dn n fd _; exact ⟨n, rfl⟩
  | cons c rest ih =>
    intro Dn n fd he
    have hi : L[Dn.length]? = some c := by rw [he, List.getElem?_append_right (Nat.le_refl _)]; simp
    simp only [List.length_cons]
    unfold x_cuL
    rw [listedKey_RS hl hi hL (hc0 c (List.mem_of_getElem? hi))]
    simp only
    have he2 : L = (Dn ++ [c]) ++ rest := by simp [he]
    have hd : Dn.length + 1 = (Dn ++ [c]).length := by simp
    rw [nI_1, nI_1, hd]
    split
    · rename_i hlt
      obtain ⟨n', e⟩ := ih (Dn ++ [c]) (n + 2) fd he2
      refine ⟨n', ?_⟩
      rw [e]
      have : ¬ (g c).toInt64 ≤ bound := Int64.not_le.mpr hlt
      simp [List.countP_cons, this]
    · rename_i hlt
      obtain ⟨n', e⟩ := ih (Dn ++ [c]) (n + 2) (fd + 1) he2
      refine ⟨n', ?_⟩
      rw [e]
      have : (g c).toInt64 ≤ bound := Int64.not_lt.mp hlt
      simp only [List.map_cons, List.countP_cons, this, decide_true, if_true]
      congr 2
      omega
theorem countUpTo_RS {σ : Sx} {g : Nat → Int32} {n : Nat} {L : List Nat} {bound : Int64} (hl : Lst g L) (hL : L.length ≤ 200) (hc0 : ∀ c ∈ L, c < 200) :
    ∃ n', x_countUpTo (RS σ g n) (nI L.length) bound = (nI ((L.map g).countP (fun v => decide (v.toInt64 ≤ bound))), RS σ g n') := by
  obtain ⟨n', e⟩ := cu_L (σ := σ) (bound := bound) hl hL hc0 L [] n 0 rfl
  refine ⟨n', ?_⟩
  unfold x_countUpTo
  rw [nI_toInt (by omega), ← nI_0, Int.toNat_natCast, cuL_eq bound L.length (by omega) L.length 0 _ _ (by omega)]
  simpa using e
def lsum : List Int32 → Int64
  | [] => 0
  | a :: l => a.toInt64 + lsum l
theorem lsum_perm {l l' : List Int32} (h : l.Perm l') : lsum l = lsum l' := by
  induction h with
  | nil => rfl
  | cons x _ ih => simp [lsum, ih]
  | swap x y l =>
    simp only [lsum]
    rw [← Int64.add_assoc, ← Int64.add_assoc, Int64.add_comm y.toInt64]
  | trans _ _ ih1 ih2 => exact ih1.trans ih2
theorem sum_L {σ : Sx} {g : Nat → Int32} {L : List Nat} (hl : Lst g L) (hL : L.length ≤ 200) (hc0 : ∀ c ∈ L, c < 200) : ∀ (rest Dn : List Nat) (n : Nat) (tot : Int64), L = Dn ++ rest →
    ∃ n', x_sumL rest.length (RS σ g n) tot (nI Dn.length) = (tot + lsum (rest.map g), RS σ g n') := by
  intro rest
  induction rest with
  | nil => intro Dn n tot _; exact ⟨n, by simp [x_sumL, lsum]⟩
  | cons c rest ih =>
    intro Dn n tot he
    have hi : L[Dn.length]? = some c := by rw [he, List.getElem?_append_right (Nat.le_refl _)]; simp
    simp only [List.length_cons]
    unfold x_sumL
    rw [listedKey_RS hl hi hL (hc0 c (List.mem_of_getElem? hi))]
    simp only
    have hd : Dn.length + 1 = (Dn ++ [c]).length := by simp
    rw [nI_1, hd]
    obtain ⟨n', e⟩ := ih (Dn ++ [c]) (n + 2) (tot + (g c).toInt64) (by simp [he])
    refine ⟨n', ?_⟩
    rw [e]
    simp [lsum, Int64.add_assoc]
/-- how many of the keys are not above v -/
def cle (S : List Int32) (v : Int) : Nat := S.countP (fun x => decide (x.toInt ≤ v))
theorem cle_bound (S : List Int32) (b : Int64) : S.countP (fun v => decide (v.toInt64 ≤ b)) = cle S b.toInt := by
  unfold cle
  congr 1
  funext v
  simp only [Int64.le_iff_toInt_le, Int32.toInt_toInt64]
theorem half {a b : Int64} (ha : -2147483648 ≤ a.toInt ∧ a.toInt ≤ 2147483647) (hb : -2147483648 ≤ b.toInt ∧ b.toInt ≤ 2147483647) : ((a + b) >>> ((1 : Int32).toInt64 &&& 63)).toInt = (a.toInt + b.toInt) / 2 := by
  have e1 : (a + b).toInt = a.toInt + b.toInt := by
    rw [Int64.toInt_add, Int.bmod_eq_of_le (by omega) (by omega)]
  have e2 : ((1 : Int32).toInt64 &&& 63) = 1 := by decide
  rw [e2]
  have e3 : ((a + b) >>> (1 : Int64)).toInt = (a + b).toInt >>> 1 := by
    rw [← Int64.toInt_toBitVec, Int64.toBitVec_shiftRight]
    simp [BitVec.sshiftRight', BitVec.toInt_sshiftRight]
  rw [e3, e1, Int.shiftRight_eq_div_pow]
  rfl
theorem kth_L {σ : Sx} {g : Nat → Int32} {L : List Nat} {k : Nat} (hl : Lst g L) (hL : L.length ≤ 200) (hc0 : ∀ c ∈ L, c < 200) (hk : k < 2 ^ 31) : ∀ (m n : Nat) (lo hi : Int64), m ≤ 32 → -2147483648 ≤ lo.toInt → lo.toInt ≤ hi.toInt → hi.toInt ≤ 2147483647 → hi.toInt - lo.toInt < 2 ^ m → cle (L.map g) (lo.toInt - 1) ≤ k → k < cle (L.map g) hi.toInt →
    ∃ v n', x_kthL (nI L.length) (nI k) m (RS σ g n) lo hi = (v, RS σ g n') ∧ cle (L.map g) (v.toInt - 1) ≤ k ∧ k < cle (L.map g) v.toInt ∧ -2147483648 ≤ v.toInt ∧ v.toInt ≤ 2147483647 := by
  intro m
  induction m with
  | zero =>
    intro n lo hi _ h1 h2 h3 h4 h5 h6
    have : hi.toInt = lo.toInt := by omega
    exact ⟨lo, n, rfl, h5, by rw [← this]; exact h6, h1, by omega⟩
  | succ m ih =>
    intro n lo hi hm h1 h2 h3 h4 h5 h6
    unfold x_kthL
    have hmid := half (a := lo) (b := hi) ⟨h1, by omega⟩ ⟨by omega, h3⟩
    generalize (lo + hi) >>> ((1 : Int32).toInt64 &&& 63) = mid at hmid ⊢
    simp only
    obtain ⟨n1, e1⟩ := countUpTo_RS (σ := σ) (n := n) (bound := mid) hl hL hc0
    rw [e1, cle_bound]
    simp only
    have hcl : cle (L.map g) mid.toInt ≤ 200 := by
      unfold cle
      have := List.countP_le_length (p := fun x : Int32 => decide (x.toInt ≤ mid.toInt)) (l := L.map g)
      rw [List.length_map] at this
      omega
    have hpow : (2 : Int) ^ (m + 1) = 2 * 2 ^ m := by rw [Int.pow_succ]; omega
    split
    · rename_i hle
      have hle2 : cle (L.map g) mid.toInt ≤ k := (nI_leI (by omega) hk).mp hle
      have hlt : mid.toInt < hi.toInt := by
        rcases Int.lt_or_le mid.toInt hi.toInt with h | h
        · exact h
        · exfalso
          have h7 : mid.toInt = hi.toInt := by omega
          rw [h7] at hle2
          omega
      have e2 : (mid + 1).toInt = mid.toInt + 1 := by
        rw [Int64.toInt_add, show (1 : Int64).toInt = 1 from rfl, Int.bmod_eq_of_le (by omega) (by omega)]
      refine ih n1 (mid + 1) hi (by omega) (by omega) (by omega) h3 (by omega) (by rw [e2, show mid.toInt + 1 - 1 = mid.toInt by omega]; exact hle2) h6
    · rename_i hle
      have hle2 : k < cle (L.map g) mid.toInt := by
        rcases Nat.lt_or_ge k (cle (L.map g) mid.toInt) with h | h
        · exact h
        · exact absurd ((nI_leI (by omega) hk).mpr h) hle
      exact ih n1 lo mid (by omega) h1 (by omega) (by omega) (by omega) h5 hle2
end
section
/-! what holds between calls, and what the calls of SkewMelds do, in terms of the keys of each heap -/
def flc (f : Nat → Int32) : List Nat → Int32 → Prop
  | [], p => p = -1
  | c :: l, p => p = nI c ∧ flc f l (f (600 + c))
theorem flc_agr {f g : Nat → Int32} : ∀ (l : List Nat) (p : Int32), agr l f g → flc f l p → flc g l p := by
  intro l
  induction l with
  | nil => intro p _ h; exact h
  | cons c l ih =>
    intro p hz h
    refine ⟨h.1, ?_⟩
    rw [(hz c List.mem_cons_self).2.2.2]
    exact ih _ (agr_sub hz (fun x hx => List.mem_cons_of_mem _ hx)) h.2
def XI (σ : Sx) (nh u : Nat) (K : Nat → List Int32) : Prop :=
  ∃ (TT : Nat → Option Tr) (fl : List Nat), PI σ.1 TT [] fl ∧ flc σ.1 fl σ.2.2.2.1 ∧ σ.2.2.1 = nI fl.length ∧ fl.length + u = 200 ∧ σ.2.1 = nI nh ∧ nh ≤ 8 ∧ (∀ h, h < 8 → TW TT h) ∧ (∀ h, h < 8 → σ.1 (1072 + h) = nI (hc TT h).length) ∧ (∀ h, h < 8 → nh ≤ h → K h = []) ∧ ∀ h, h < 8 → ((hc TT h).map σ.1).Perm (K h)
/-- the latest call took few steps -/
def XF (σ : Sx) : Prop := ¬ σ.2.2.2.2.2 < σ.2.2.2.2.1
theorem XI_eq {σ σ' : Sx} {nh u : Nat} {K : Nat → List Int32} (h : XI σ nh u K) (h1 : σ'.1 = σ.1) (h2 : σ'.2.1 = σ.2.1) (h3 : σ'.2.2.1 = σ.2.2.1) (h4 : σ'.2.2.2.1 = σ.2.2.2.1) : XI σ' nh u K := by
  unfold XI at h ⊢
  rw [h1, h2, h3, h4]
  exact h
theorem XI_nh {σ : Sx} {nh u : Nat} {K : Nat → List Int32} (h : XI σ nh u K) : nh ≤ 8 ∧ u ≤ 200 ∧ σ.2.1 = nI nh := by
  obtain ⟨TT, fl, -, -, -, a, b, c, -⟩ := h
  exact ⟨c, by omega, b⟩
theorem XI_len {σ : Sx} {nh u : Nat} {K : Nat → List Int32} {j : Nat} (h : XI σ nh u K) (hj : j < 8) : (K j).length ≤ 200 ∧ σ.1 (1072 + j) = nI (K j).length := by
  obtain ⟨TT, fl, hP, -, -, -, -, -, -, hs, -, hk⟩ := h
  have h1 := (hk j hj).length_eq
  rw [List.length_map] at h1
  have h2 := hc_len hj hP
  exact ⟨by omega, by rw [hs j hj, h1]⟩
theorem ex_yes {σ : Sx} {nh j : Nat} (h : σ.2.1 = nI nh) (hn : nh ≤ 8) (hj : j < nh) : x_ex σ (nI j) = 1 := by
  unfold x_ex
  rw [if_neg (nI_pos (by omega)), h, if_neg (nI_ge hj (by omega))]
theorem ex_no {σ : Sx} {nh : Nat} {a : Int32} (h : σ.2.1 = nI nh) (ha : a < 0 ∨ nI nh ≤ a) : x_ex σ a = 0 := by
  unfold x_ex
  rcases ha with ha | ha
  · rw [if_pos ha]
  · split
    · rfl
    · rw [h, if_pos ha]
theorem XF_max (σ : Sx) : XF (x_begin σ 2147483647) := by
  show ¬ (2147483647 : Int32) < 0
  decide
theorem XF_of {σ : Sx} {f : Nat → Int32} {n L : Nat} (h0 : σ.2.2.2.2.1 = 0) (hl : σ.2.2.2.2.2 = nI L) (hL : L < 2 ^ 31) (hn : n ≤ L) : XF (RS σ f n) := by
  unfold XF
  show ¬ σ.2.2.2.2.2 < σ.2.2.2.2.1 + nI n
  rw [h0, hl, Int32.zero_add]
  exact nI_nlt hn hL
theorem RS_max {σ : Sx} {f : Nat → Int32} {n : Nat} (hl : σ.2.2.2.2.2 = 2147483647) : XF (RS σ f n) := by
  unfold XF
  show ¬ σ.2.2.2.2.2 < σ.2.2.2.2.1 + nI n
  rw [hl]
  exact fun h => by
    have h1 := Int32.lt_iff_toInt_lt.mp h
    have h2 := Int32.toInt_lt (σ.2.2.2.2.1 + nI n)
    rw [show (2147483647 : Int32).toInt = 2147483647 from rfl] at h1
    omega
theorem XI_begin {σ : Sx} {nh u : Nat} {K : Nat → List Int32} (h : XI σ nh u K) (m : Int32) : XI (x_begin σ m) nh u K := XI_eq h rfl rfl rfl rfl
/-- the limit of a heap of k keys -/
theorem s_l31 : ∀ n, n < 32 → ((nI n &&& 31).toBitVec.smod 32).toNat = n := by decide
theorem pow_ge {k : Nat} (hk : k < 2 ^ 20) : ∀ (n p : Nat), p + n = 31 → p ≤ 30 → ∃ L, x_pow (nI k) n (nI p) = nI L ∧ L ≤ 30 ∧ ∀ r, r ≤ 30 → 2 ^ r ≤ k + 1 → r ≤ L := by
  intro n
  induction n with
  | zero => intro p h1 h2; omega
  | succ n ih =>
    intro p h1 h2
    unfold x_pow
    by_cases hp : p = 30
    · subst hp
      rw [if_pos (show (30 : Int32) ≤ nI 30 from Int32.le_refl _)]
      exact ⟨30, rfl, Nat.le_refl _, fun r hr _ => hr⟩
    · rw [if_neg (show ¬ (30 : Int32) ≤ nI p from nI_ge (b := 30) (by omega) (by omega))]
      have hpw : 2 ^ p ≤ 2 ^ 29 := Nat.pow_le_pow_right (by omega) (by omega)
      have e : (2 : Int32) <<< (nI p &&& 31) = nI (2 * 2 ^ p) := pk_shlN (n := 2) _ p (s_l31 p (by omega)) (by omega)
      rw [e, nI_1]
      split
      · rename_i hlt
        have hlt2 : k + 1 < 2 * 2 ^ p := (nI_ltI (by omega) (by omega)).mp hlt
        refine ⟨p, rfl, by omega, fun r _ hr => ?_⟩
        rcases Nat.lt_or_ge p r with h3 | h3
        · have := Nat.pow_le_pow_right (n := 2) (by omega) (show p + 1 ≤ r from h3)
          rw [Nat.pow_succ] at this
          omega
        · exact h3
      · rw [nI_1]
        exact ih (p + 1) (by omega) (by omega)
theorem lim_ge {k : Nat} (hk : k < 2 ^ 20) : ∃ L, x_limFor (nI k) = nI (200 * (2 + L)) ∧ L ≤ 30 ∧ ∀ r, r ≤ 30 → 2 ^ r ≤ k + 1 → r ≤ L := by
  obtain ⟨L, e, h1, h2⟩ := pow_ge hk 31 0 (by omega) (by omega)
  refine ⟨L, ?_, h1, h2⟩
  unfold x_limFor
  rw [← nI_0, e]
  show nI 200 * (nI 2 + nI L) = _
  rw [nI_add, pk_mul]
/-- a heap more -/
theorem op_heap {σ : Sx} {nh u : Nat} {K : Nat → List Int32} (h : XI σ nh u K) : (nh = 8 → (x_heap σ).1 = -1 ∧ XI (x_heap σ).2 nh u K) ∧ (nh < 8 → (x_heap σ).1 = nI nh ∧ XI (x_heap σ).2 (nh + 1) u K) ∧ XF (x_heap σ).2 := by
  obtain ⟨h8, -, hH⟩ := XI_nh h
  unfold x_heap
  have e : (x_begin σ 2147483647).2.1 = nI nh := hH
  simp only [e]
  refine ⟨fun h1 => ?_, fun h1 => ?_, ?_⟩
  · rw [if_neg (by subst h1; decide)]
    exact ⟨rfl, XI_begin h _⟩
  · rw [if_pos (show nI nh < (8 : Int32) from nI_lt (b := 8) h1 (by omega))]
    refine ⟨?_, ?_⟩
    · show (nI nh + 1) - 1 = nI nh
      rw [nI_1, nI_pred]
    · obtain ⟨TT, fl, a1, a2, a3, a4, a5, a6, a7, a8, a9, a10⟩ := h
      exact ⟨TT, fl, a1, a2, a3, a4, by show nI nh + 1 = _; rw [nI_1], by omega, a7, a8, fun j hj hj2 => a9 j hj (by omega), a10⟩
  · split
    · exact XF_max σ
    · exact XF_max σ
theorem R0_read {σ : Sx} {k : Nat} (h : k < 1080) : x_read σ (nI k) = (σ.1 k, RS σ σ.1 1) := by
  have := RS_read (σ := σ) (f := σ.1) (n := 0) h
  rw [RS_0] at this
  exact this
theorem newCell_RS {σ : Sx} {c : Nat} {key : Int32} (hc0 : c < 200) (hf : σ.2.2.2.1 = nI c) : x_newCell σ key = (nI c, RS (x_sU (x_sF σ (σ.1 (600 + c))) (σ.2.2.1 - 1)) (upd (upd (upd σ.1 c key) (200 + c) 0) (400 + c) (-1)) 4) := by
  unfold x_newCell
  rw [hf]
  simp only [ad_600, R0_read (show 600 + c < 1080 by omega)]
  have e : x_sU (x_sF (RS σ σ.1 1) (σ.1 (600 + c))) ((x_sF (RS σ σ.1 1) (σ.1 (600 + c))).2.2.1 - 1) = RS (x_sU (x_sF σ (σ.1 (600 + c))) (σ.2.2.1 - 1)) σ.1 1 := rfl
  rw [e, ad_0, RS_write (by omega), ad_200, RS_write (by omega), ad_400, RS_write (by omega)]
theorem giveBack_RS {σ : Sx} {f : Nat → Int32} {n c : Nat} (hc0 : c < 200) : x_giveBack (RS σ f n) (nI c) = RS (x_sU (x_sF σ (nI c)) (σ.2.2.1 + 1)) (upd f (600 + c) σ.2.2.2.1) (n + 1) := by
  unfold x_giveBack
  simp only [ad_600, RS_write (show 600 + c < 1080 by omega)]
  rfl
/-- a change of the sizes alone -/
theorem PI_size {f : Nat → Int32} {TT : Nat → Option Tr} {hand : List Tr} {Z : List Nat} {k : Nat} {v : Int32} (h : PI f TT hand Z) (hk : 1072 ≤ k) : PI (upd f k v) TT hand Z ∧ agr Z f (upd f k v) :=
  ⟨PI_chg (ts := []) (ts' := []) (hand := hand) h (agr_hi (PI_lt h) (by omega)) (fun i hi => pk_un (by omega)) (fun t ht => by simp at ht) (List.Perm.refl _), agr_hi h.2.2.2.2 (by omega)⟩
theorem resize_RS {σ : Sx} {f : Nat → Int32} {n j : Nat} {k : Int32} (hj : j < 8) : x_resize (RS σ f n) (nI j) k = (k, RS σ (upd f (1072 + j) k) (n + 1)) := by
  unfold x_resize
  rw [ad_sz, RS_write (by omega)]
end
section
/-! add, least, take -/
def kup (K : Nat → List Int32) (j : Nat) (l : List Int32) : Nat → List Int32 := fun h => if h = j then l else K h
theorem kup_s {K : Nat → List Int32} {j : Nat} {l : List Int32} : kup K j l j = l := by simp [kup]
theorem kup_n {K : Nat → List Int32} {j h : Nat} {l : List Int32} (hn : h ≠ j) : kup K j l h = K h := by simp [kup, hn]
theorem op_add_no {σ : Sx} {nh u : Nat} {K : Nat → List Int32} {a key : Int32} (h : XI σ nh u K) (ha : a < 0 ∨ nI nh ≤ a) : (x_add σ a key).1 = -1 ∧ XI (x_add σ a key).2 nh u K ∧ XF (x_add σ a key).2 := by
  obtain ⟨h8, -, hH⟩ := XI_nh h
  unfold x_add
  have e : x_ex (x_begin σ 100) a = 0 := ex_no (nh := nh) hH ha
  simp only [e, if_true]
  refine ⟨trivial, XI_begin h _, ?_⟩
  show ¬ (100 : Int32) < 0
  decide
theorem op_add_full {σ : Sx} {nh u j : Nat} {K : Nat → List Int32} {key : Int32} (h : XI σ nh u K) (hj : j < nh) (hu : u = 200) : (x_add σ (nI j) key).1 = -2 ∧ XI (x_add σ (nI j) key).2 nh u K ∧ XF (x_add σ (nI j) key).2 := by
  obtain ⟨h8, -, hH⟩ := XI_nh h
  unfold x_add
  have e : x_ex (x_begin σ 100) (nI j) = 1 := ex_yes (nh := nh) hH h8 hj
  have e2 : (x_begin σ 100).2.2.2.1 = -1 := by
    obtain ⟨TT, fl, a1, a2, a3, a4, -⟩ := h
    have : fl = [] := List.length_eq_zero_iff.mp (by omega)
    subst this
    exact a2
  simp only [e, e2]
  rw [if_neg (by decide), if_pos trivial]
  refine ⟨rfl, XI_begin h _, ?_⟩
  show ¬ (100 : Int32) < 0
  decide
theorem op_add {σ : Sx} {nh u j : Nat} {K : Nat → List Int32} {key : Int32} (h : XI σ nh u K) (hj : j < nh) (hu : u < 200) : (x_add σ (nI j) key).1 = nI ((K j).length + 1) ∧ XI (x_add σ (nI j) key).2 nh (u + 1) (kup K j (key :: K j)) ∧ XF (x_add σ (nI j) key).2 := by
  obtain ⟨h8, -, hH⟩ := XI_nh h
  obtain ⟨hl200, hsz⟩ := XI_len h (show j < 8 by omega)
  obtain ⟨TT, fl, a1, a2, a3, a4, a5, a6, a7, a8, a9, a10⟩ := h
  unfold x_add
  have e : x_ex (x_begin σ 100) (nI j) = 1 := ex_yes (nh := nh) hH h8 hj
  cases fl with
  | nil => simp at a4; omega
  | cons c fl =>
    have hc0 : c < 200 := a1.2.2.2.2 c List.mem_cons_self
    have e2 : (x_begin σ 100).2.2.2.1 = nI c := a2.1
    simp only [e, e2]
    rw [if_neg (by decide), if_neg (nI_ne_m1 (by omega)), newCell_RS hc0 e2]
    simp only
    have hf : (x_begin σ 100).1 = σ.1 := rfl
    rw [hf]
    -- the new cell is a tree of one
    have hnd := a1.2.2.1
    have hcz : c ∉ fl ∧ c ∉ tcs TT := by
      simp only [List.flatMap_nil, List.nil_append, List.cons_append, List.nodup_cons, List.mem_append, not_or] at hnd
      exact hnd.1
    have ag : ∀ Z : List Nat, c ∉ Z → (∀ x ∈ Z, x < 200) → agr Z σ.1 (upd (upd (upd σ.1 c key) (200 + c) 0) (400 + c) (-1)) := fun Z hZ hZ2 x hx => by
      have h1 := hZ2 x hx
      have h2 : x ≠ c := fun q => hZ (q ▸ hx)
      refine ⟨?_, ?_, ?_, ?_⟩ <;> rw [pk_un (by omega), pk_un (by omega), pk_un (by omega)]
    have htk : tok (upd (upd (upd σ.1 c key) (200 + c) 0) (400 + c) (-1)) (0, c, .nil) := by
      refine ⟨hc0, ?_, by simp [flen], by simp [fcells], ?_⟩
      · show upd _ _ _ (200 + c) = _
        rw [pk_un (by omega), pk_us, nI_0]
      · show fok _ .nil (upd (upd (upd σ.1 c key) (200 + c) 0) (400 + c) (-1) (400 + c)) _
        rw [pk_us]
        simp [fok]
    have hlt := PI_lt a1
    simp only [List.flatMap_nil, List.nil_append] at hlt
    have hflt : ∀ x ∈ fl, x < 200 := fun x hx => a1.2.2.2.2 x (List.mem_cons_of_mem _ hx)
    have hP1 : PI (upd (upd (upd σ.1 c key) (200 + c) 0) (400 + c) (-1)) TT [(0, c, .nil)] fl := by
      have hN : NL (fl ++ (([(0, c, .nil)] : List Tr).flatMap tc ++ tcs TT)) := by
        refine NL_perm ?_ (PI_NL a1)
        refine List.perm_iff_count.mpr fun x => ?_
        simp only [List.flatMap_cons, List.flatMap_nil, tc, fcells, List.count_append, List.count_cons, List.count_nil]
        omega
      refine ⟨fun i hi => ?_, fun t ht => by rw [List.mem_singleton.mp ht]; exact htk, hN.1, hN.2, hflt⟩
      have h1 := a1.1 i hi
      cases h2 : TT i with
      | none => rw [h2] at h1; show upd _ _ _ (1000 + i) = _; rw [pk_un (by omega), pk_un (by omega), pk_un (by omega)]; exact h1
      | some t =>
        rw [h2] at h1
        have hm := tcs_mem hi h2
        refine ⟨by rw [pk_un (by omega), pk_un (by omega), pk_un (by omega)]; exact h1.1, tok_agr (ag _ (fun q => hcz.2 (hm c q)) (tok_lt h1.2.1)) h1.2.1, h1.2.2⟩
    obtain ⟨g, n', TT', b1, b2, b3, b4, b5, b6, b7, b8, b9, b10⟩ := insert_RS (σ := x_sU (x_sF (x_begin σ 100) (σ.1 (600 + c))) ((x_begin σ 100).2.2.1 - 1)) (n := 4) (show j < 8 by omega) hP1 (a7 j (by omega))
    rw [b1, ad_sz, RS_read (by omega)]
    simp only
    have esz : g (1072 + j) = nI (K j).length := by rw [b10 _ (by omega), pk_un (by omega), pk_un (by omega), pk_un (by omega)]; exact hsz
    rw [esz, nI_1, resize_RS (by omega)]
    obtain ⟨hP2, hag2⟩ := PI_size (k := 1072 + j) (v := nI ((K j).length + 1)) b3 (by omega)
    have hkeys : ∀ Z : List Nat, (∀ x ∈ Z, x < 200) → Z.map (upd g (1072 + j) (nI ((K j).length + 1))) = Z.map g := fun Z hZ => List.map_congr_left fun x hx => pk_un (by have := hZ x hx; omega)
    have hlt3 := PI_lt b3
    simp only [List.flatMap_nil, List.nil_append] at hlt3
    have h0c : ∀ x ∈ tcs TT, upd (upd (upd σ.1 c key) (200 + c) 0) (400 + c) (-1) x = σ.1 x := fun x hx => (ag (tcs TT) hcz.2 hlt x hx).1
    refine ⟨rfl, ⟨TT', fl, hP2, ?_, ?_, by simp at a4; omega, a5, a6, ?_, ?_, ?_, ?_⟩, ?_⟩
    · show flc (upd g (1072 + j) (nI ((K j).length + 1))) fl (σ.1 (600 + c))
      refine flc_agr _ _ (agr_tr (agr_tr (ag fl hcz.1 hflt) b4) hag2) a2.2
    · show σ.2.2.1 - 1 = _
      rw [a3, List.length_cons, nI_pred]
    · intro h hh
      by_cases hne : h = j
      · subst hne; exact b7
      · intro t ht
        rw [b8 _ (by omega) (by omega)] at ht
        obtain ⟨t1, ⟨t', t2⟩, t3⟩ := a7 h hh t ht
        exact ⟨t1, ⟨t', by rw [b8 _ (by omega) (by omega)]; exact t2⟩, fun r hr => by rw [b8 _ (by omega) (by omega)]; exact t3 r hr⟩
    · intro h hh
      show upd g (1072 + j) _ (1072 + h) = _
      by_cases hne : h = j
      · subst hne
        rw [pk_us, b5]
        have h1 := (a10 h hh).length_eq
        rw [List.length_map] at h1
        rw [← h1, Nat.add_comm]
      · rw [pk_un (by omega), b10 _ (by omega), pk_un (by omega), pk_un (by omega), pk_un (by omega), a8 h hh, hc_eq (TT' := TT') (TT := TT) hh (b8 _ (by omega) (by omega)) (fun r hr => b8 _ (by omega) (by omega))]
    · intro h hh hh2
      rw [kup_n (by omega)]
      exact a9 h hh hh2
    · intro h hh
      show ((hc TT' h).map (upd g (1072 + j) _)).Perm _
      rw [hkeys _ (fun x hx => hlt3 x (hc_tcs hh hx))]
      by_cases hne : h = j
      · subst hne
        rw [kup_s]
        refine b6.trans ?_
        have e9 : upd (upd (upd σ.1 c key) (200 + c) 0) (400 + c) (-1) c = key := by rw [pk_un (by omega), pk_un (by omega), pk_us]
        rw [e9, List.map_congr_left (fun x hx => h0c x (hc_tcs hh hx))]
        exact (a10 h hh).cons _
      · have e9 : hc TT' h = hc TT h := hc_eq hh (b8 _ (by omega) (by omega)) (fun r hr => b8 _ (by omega) (by omega))
        rw [kup_n hne, e9, List.map_congr_left (fun x hx => (b9 h hh hne x hx).trans (h0c x (hc_tcs hh hx)))]
        exact a10 h hh
    · exact XF_of (L := 100) rfl rfl (by omega) (by omega)
/-- a call's begin, of a heap that is there -/
theorem beginOn_RS {σ : Sx} {nh u j : Nat} {K : Nat → List Int32} (h : XI σ nh u K) (hj : j < nh) : ∃ L, x_beginOn σ (nI j) = RS (x_sL (x_sS σ 0) (nI (200 * (2 + L)))) σ.1 1 ∧ L ≤ 30 ∧ ∀ r, r ≤ 30 → 2 ^ r ≤ (K j).length + 1 → r ≤ L := by
  obtain ⟨h8, -, hH⟩ := XI_nh h
  obtain ⟨hl200, hsz⟩ := XI_len h (show j < 8 by omega)
  obtain ⟨L, e, h1, h2⟩ := lim_ge (k := (K j).length) (by omega)
  refine ⟨L, ?_, h1, h2⟩
  have e1 : x_keysIn (x_sS σ 0) (nI j) = (nI (K j).length, RS (x_sS σ 0) σ.1 1) := by
    unfold x_keysIn
    rw [ex_yes (σ := x_sS σ 0) (nh := nh) hH h8 hj, if_neg (by decide), ad_sz, R0_read (by omega)]
    show (σ.1 (1072 + j), RS (x_sS σ 0) σ.1 1) = _
    rw [hsz]
  unfold x_beginOn
  rw [e1, e]
  rfl
theorem beginOn_no {σ : Sx} {nh u : Nat} {K : Nat → List Int32} {a : Int32} (h : XI σ nh u K) (ha : a < 0 ∨ nI nh ≤ a) : XI (x_beginOn σ a) nh u K ∧ XF (x_beginOn σ a) ∧ (x_beginOn σ a).2.1 = nI nh := by
  obtain ⟨h8, -, hH⟩ := XI_nh h
  obtain ⟨L, e, h1, h2⟩ := lim_ge (k := 0) (by omega)
  have e1 : x_keysIn (x_sS σ 0) a = (0, x_sS σ 0) := by
    unfold x_keysIn
    rw [ex_no (σ := x_sS σ 0) (nh := nh) hH ha, if_pos rfl]
  unfold x_beginOn
  rw [e1]
  refine ⟨XI_eq h rfl rfl rfl rfl, ?_, hH⟩
  show ¬ x_limFor 0 < 0
  rw [← nI_0, e]
  exact nI_pos (by omega)
theorem op_least_no {σ : Sx} {nh u : Nat} {K : Nat → List Int32} {a : Int32} (h : XI σ nh u K) (ha : a < 0 ∨ nI nh ≤ a) : ((x_least σ a).1 = -9223372036854775808 ∧ XI (x_least σ a).2 nh u K ∧ XF (x_least σ a).2) ∧ ((x_take σ a).1 = -9223372036854775808 ∧ XI (x_take σ a).2 nh u K ∧ XF (x_take σ a).2) := by
  obtain ⟨h1, h2, h3⟩ := beginOn_no h ha
  have e : x_leastRoot (x_beginOn σ a) a = (-1, x_beginOn σ a) := by
    unfold x_leastRoot
    rw [ex_no h3 ha, if_pos rfl]
  unfold x_least x_take
  simp only [e, if_true]
  exact ⟨⟨trivial, h1, h2⟩, trivial, h1, h2⟩
theorem op_least_nil {σ : Sx} {nh u j : Nat} {K : Nat → List Int32} (h : XI σ nh u K) (hj : j < nh) (hk : K j = []) : ((x_least σ (nI j)).1 = -9223372036854775808 ∧ XI (x_least σ (nI j)).2 nh u K ∧ XF (x_least σ (nI j)).2) ∧ ((x_take σ (nI j)).1 = -9223372036854775808 ∧ XI (x_take σ (nI j)).2 nh u K ∧ XF (x_take σ (nI j)).2) := by
  obtain ⟨h8, -, hH⟩ := XI_nh h
  obtain ⟨L, eb, hL, -⟩ := beginOn_RS h hj
  obtain ⟨TT, fl, a1, a2, a3, a4, a5, a6, a7, a8, a9, a10⟩ := id h
  obtain ⟨b, n', e, hn, hb⟩ := leastRoot_RS (σ := x_sL (x_sS σ 0) (nI (200 * (2 + L)))) (n := 1) hj h8 hH a1
  have hb1 : b = -1 := by
    rcases hb with hb | ⟨i, t, hi, ht, -, -⟩
    · exact hb.1
    · exfalso
      have hm : t.2.1 ∈ hc TT j := hc_in (by omega) hi ht List.mem_cons_self
      have := (a10 j (by omega)).length_eq
      rw [hk, List.length_map, List.length_nil] at this
      rw [List.length_eq_zero_iff.mp this] at hm
      simp at hm
  subst hb1
  have h1 : XI (RS (x_sL (x_sS σ 0) (nI (200 * (2 + L)))) σ.1 n') nh u K := XI_eq h rfl rfl rfl rfl
  have h2 : XF (RS (x_sL (x_sS σ 0) (nI (200 * (2 + L)))) σ.1 n') := XF_of (L := 200 * (2 + L)) rfl rfl (by omega) (by omega)
  unfold x_least x_take
  simp only [eb, e, if_true]
  exact ⟨⟨trivial, h1, h2⟩, trivial, h1, h2⟩
theorem op_least {σ : Sx} {nh u j : Nat} {K : Nat → List Int32} (h : XI σ nh u K) (hj : j < nh) (hk : K j ≠ []) : ∃ v, v ∈ K j ∧ (∀ x ∈ K j, v ≤ x) ∧ (x_least σ (nI j)).1 = v.toInt64 ∧ XI (x_least σ (nI j)).2 nh u K ∧ XF (x_least σ (nI j)).2 := by
  obtain ⟨h8, -, hH⟩ := XI_nh h
  obtain ⟨L, eb, hL, -⟩ := beginOn_RS h hj
  obtain ⟨TT, fl, a1, a2, a3, a4, a5, a6, a7, a8, a9, a10⟩ := id h
  obtain ⟨b, n', e, hn, hb⟩ := leastRoot_RS (σ := x_sL (x_sS σ 0) (nI (200 * (2 + L)))) (n := 1) hj h8 hH a1
  have hp := a10 j (by omega)
  rcases hb with ⟨-, hb⟩ | ⟨i, t, hi, ht, rfl, hb⟩
  · exfalso
    rw [lr_none (f := σ.1) (show j < 8 by omega) hb] at hp
    exact hk (List.nil_perm.mp hp)
  · have hi72 : i < 72 := by omega
    have htk := (PI_some a1 hi72 ht).2.1
    have hlt := htk.1
    have hmin := lr_min (show j < 8 by omega) a1 hb
    have hm : t.2.1 ∈ hc TT j := hc_in (by omega) hi ht List.mem_cons_self
    refine ⟨σ.1 t.2.1, hp.mem_iff.mp (List.mem_map.mpr ⟨_, hm, rfl⟩), fun x hx => ?_, ?_⟩
    · obtain ⟨c, hc1, rfl⟩ := List.mem_map.mp (hp.mem_iff.mpr hx)
      exact hmin c hc1
    · unfold x_least
      simp only [eb, e]
      rw [if_neg (nI_ne_m1 (by omega)), ad_0, RS_read (by omega)]
      exact ⟨rfl, XI_eq h rfl rfl rfl rfl, XF_of (L := 200 * (2 + L)) rfl rfl (by omega) (by omega)⟩
end
section
/-! take and meld -/
theorem op_take {σ : Sx} {nh u j : Nat} {K : Nat → List Int32} (h : XI σ nh u K) (hj : j < nh) (hk : K j ≠ []) : ∃ v, v ∈ K j ∧ (∀ x ∈ K j, v ≤ x) ∧ (x_take σ (nI j)).1 = v.toInt64 ∧ XF (x_take σ (nI j)).2 ∧ ∀ l, (K j).Perm (v :: l) → XI (x_take σ (nI j)).2 nh (u - 1) (kup K j l) := by
  obtain ⟨h8, -, hH⟩ := XI_nh h
  obtain ⟨hl200, hsz⟩ := XI_len h (show j < 8 by omega)
  obtain ⟨L, eb, hL, hLr⟩ := beginOn_RS h hj
  obtain ⟨TT, fl, a1, a2, a3, a4, a5, a6, a7, a8, a9, a10⟩ := id h
  have hj8 : j < 8 := by omega
  have hs0 : ∃ s0, s0 = x_sL (x_sS σ 0) (nI (200 * (2 + L))) := ⟨_, rfl⟩
  obtain ⟨s0, es0⟩ := hs0
  rw [← es0] at eb
  obtain ⟨b, n1, e, hn1, hb⟩ := leastRoot_RS (σ := s0) (n := 1) hj h8 (by rw [es0]; exact hH) a1
  have hp := a10 j hj8
  rcases hb with ⟨-, hb⟩ | ⟨i, t, hi, ht, rfl, hb⟩
  · exfalso
    rw [lr_none (f := σ.1) hj8 hb] at hp
    exact hk (List.nil_perm.mp hp)
  · have hi72 : i < 72 := by omega
    have htk := (PI_some a1 hi72 ht).2.1
    have hlt := htk.1
    have hmin := lr_min hj8 a1 hb
    have hm : t.2.1 ∈ hc TT j := hc_in hj8 hi ht List.mem_cons_self
    refine ⟨σ.1 t.2.1, hp.mem_iff.mp (List.mem_map.mpr ⟨_, hm, rfl⟩), fun x hx => ?_, ?_⟩
    · obtain ⟨c, hc1, rfl⟩ := List.mem_map.mp (hp.mem_iff.mpr hx)
      exact hmin c hc1
    · unfold x_take
      simp only [eb, e]
      rw [if_neg (nI_ne_m1 (by omega)), ad_0, RS_read (by omega)]
      simp only
      obtain ⟨g, n2, TT', b1, b2, b3, b4, b5, b6, b7, b8, b9⟩ := cutRoot_RS (σ := s0) (n := n1 + 1) hj8 a1 hi ht
      rw [b1]
      -- the children
      have htg := b3.2.1 t List.mem_cons_self
      have hPc : PI g TT' [] (fcells t.2.2 ++ (t.2.1 :: fl)) := by
        have hN : NL ((fcells t.2.2 ++ (t.2.1 :: fl)) ++ (([] : List Tr).flatMap tc ++ tcs TT')) := by
          refine NL_perm ?_ (PI_NL b3)
          refine List.perm_iff_count.mpr fun x => ?_
          simp only [List.flatMap_cons, List.flatMap_nil, tc, List.count_append, List.count_cons, List.count_nil]
          omega
        refine ⟨b3.1, fun t' ht' => by simp at ht', hN.1, hN.2, fun x hx => ?_⟩
        rcases List.mem_append.mp hx with hx | hx
        · exact tok_lt htg x (List.mem_cons_of_mem _ hx)
        · rcases List.mem_cons.mp hx with rfl | hx
          · exact hlt
          · exact a1.2.2.2.2 x hx
      have hlen : flen t.2.2 ≤ 200 := by
        have h1 := hPc.2.2.2.1
        have h2 := (kids_perm t.2.2).length_eq
        have h3 := kids_len t.2.2
        simp only [List.length_append, List.length_map] at h1 h2
        omega
      obtain ⟨g2, n3, TT2, c1, c2, c3, c4, c5, c6, c7, c8⟩ := pc_L (σ := s0) hj8 t.2.2 200 g (n2 + 1) TT' (g (400 + t.2.1)) (g t.2.1) hPc htg.2.2.2.2 hlen
      have epc : x_placeChildren (RS s0 g n2) (nI j) (nI t.2.1) = RS s0 g2 n3 := by
        unfold x_placeChildren
        rw [ad_400, RS_read (by omega)]
        simp only
        rw [← nI_0, pcL_eq (nI j) 200 0 _ _ (by omega)]
        exact c1
      rw [epc, giveBack_RS hlt, ad_sz, RS_read (by omega)]
      simp only
      have esz : upd g2 (600 + t.2.1) s0.2.2.2.1 (1072 + j) = nI (K j).length := by
        rw [pk_un (by omega), c8 _ (by omega), b9 _ (by omega)]
        exact hsz
      rw [esz, resize_RS hj8]
      have hrank : t.1 < 8 := PI_rank b3
      have hcl := htk.2.2.2.1
      have hKlen : (hc TT j).length = (K j).length := by have := hp.length_eq; rw [List.length_map] at this; exact this
      have hb5 := b5.length_eq
      rw [List.length_append] at hb5
      have htcl : (tc t).length = (fcells t.2.2).length + 1 := rfl
      refine ⟨trivial, ?_, fun l hl => ?_⟩
      · refine XF_of (L := 200 * (2 + L)) (by rw [es0]; rfl) (by rw [es0]; rfl) (by omega) ?_
        have h1 := hLr t.1 (by omega) (by omega)
        have h2 := htk.2.2.1
        omega
      · have hKpos : 0 < (K j).length := List.length_pos_iff.mpr hk
        have hK1 : nI (K j).length - 1 = nI ((K j).length - 1) := by
          obtain ⟨m, hm2⟩ : ∃ m, (K j).length = m + 1 := ⟨(K j).length - 1, by omega⟩
          rw [hm2, nI_pred]
          rfl
        rw [hK1]
        have ef : s0.2.2.2.1 = σ.2.2.2.1 := by rw [es0]; rfl
        have eu : s0.2.2.1 = σ.2.2.1 := by rw [es0]; rfl
        have eh : s0.2.1 = σ.2.1 := by rw [es0]; rfl
        have hnd := c3.2.2.1
        have hroot : t.2.1 ∉ fl ∧ t.2.1 ∉ tcs TT2 := by
          simp only [List.flatMap_nil, List.nil_append, List.cons_append, List.nodup_cons, List.mem_append, not_or] at hnd
          exact hnd.1
        have hlt2 := PI_lt c3
        simp only [List.flatMap_nil, List.nil_append] at hlt2
        have hflt : ∀ x ∈ fl, x < 200 := a1.2.2.2.2
        have ag : ∀ Z : List Nat, t.2.1 ∉ Z → (∀ x ∈ Z, x < 200) → agr Z g2 (upd g2 (600 + t.2.1) s0.2.2.2.1) := fun Z hZ hZ2 x hx => by
          have h1 := hZ2 x hx
          have h2 : x ≠ t.2.1 := fun q => hZ (q ▸ hx)
          refine ⟨?_, ?_, ?_, ?_⟩ <;> rw [pk_un (by omega)]
        have hP3 : PI (upd g2 (600 + t.2.1) s0.2.2.2.1) TT2 [] (t.2.1 :: fl) :=
          PI_chg (ts := []) (ts' := []) (hand := []) c3 (by simpa using ag _ hroot.2 hlt2) (fun i hi => pk_un (by omega)) (fun t ht => by simp at ht) (List.Perm.refl _)
        obtain ⟨hP4, hag4⟩ := PI_size (k := 1072 + j) (v := nI ((K j).length - 1)) hP3 (by omega)
        have htt : ∀ k, k ≠ 64 + j → (k < 8 * j ∨ 8 * j + 8 ≤ k) → TT2 k = TT k := fun k hk1 hk2 => (c6 k hk2).trans (b7 k hk1 hk2)
        have htw : TT2 (64 + j) = none := (c6 _ (by omega)).trans b6
        have hkeys : ∀ x, x < 200 → upd (upd g2 (600 + t.2.1) s0.2.2.2.1) (1072 + j) (nI ((K j).length - 1)) x = σ.1 x := fun x hx => by
          rw [pk_un (by omega), pk_un (by omega), c7 x hx, b8 x hx]
        have hc5 := c5.length_eq
        rw [List.length_append] at hc5
        refine ⟨TT2, t.2.1 :: fl, hP4, ?_, ?_, ?_, ?_, a6, ?_, ?_, ?_, ?_⟩
        · show flc _ (t.2.1 :: fl) (nI t.2.1)
          refine ⟨rfl, ?_⟩
          show flc (upd (upd g2 (600 + t.2.1) s0.2.2.2.1) (1072 + j) (nI ((K j).length - 1))) fl (upd (upd g2 (600 + t.2.1) s0.2.2.2.1) (1072 + j) (nI ((K j).length - 1)) (600 + t.2.1))
          have e7 : upd (upd g2 (600 + t.2.1) s0.2.2.2.1) (1072 + j) (nI ((K j).length - 1)) (600 + t.2.1) = σ.2.2.2.1 := by rw [pk_un (by omega), pk_us, ef]
          rw [e7]
          refine flc_agr _ _ (agr_tr (agr_tr (agr_tr b4 (agr_sub c4 (fun x hx => List.mem_cons_of_mem _ hx))) ?_) (agr_sub hag4 (fun x hx => List.mem_cons_of_mem _ hx))) a2
          exact ag fl hroot.1 hflt
        · show s0.2.2.1 + 1 = _
          rw [eu, a3, nI_1]
          rfl
        · have : 0 < u := by
            have h1 := a1.2.2.2.1
            have h2 := fm_le (List.range 72) List.nodup_range [i] (fun k => oc (TT k)) (by simp) (fun k hk => by simp at hk; subst hk; exact List.mem_range.mpr hi72)
            have h3 : (oc (TT i)).length = (fcells t.2.2).length + 1 := by rw [ht]; rfl
            simp only [List.flatMap_cons, List.flatMap_nil, List.append_nil, List.nil_append, List.length_append] at h1 h2
            unfold tcs at h1
            omega
          simp only [List.length_cons]
          omega
        · show s0.2.1 = _
          rw [eh]
          exact a5
        · intro h' hh'
          by_cases hne : h' = j
          · subst hne
            intro t' ht'
            rw [htw] at ht'
            cases ht'
          · intro t' ht'
            rw [htt _ (by omega) (by omega)] at ht'
            obtain ⟨t1, ⟨t'', t2⟩, t3⟩ := a7 h' hh' t' ht'
            exact ⟨t1, ⟨t'', by rw [htt _ (by omega) (by omega)]; exact t2⟩, fun r hr => by rw [htt _ (by omega) (by omega)]; exact t3 r hr⟩
        · intro h' hh'
          show upd _ (1072 + j) _ (1072 + h') = _
          by_cases hne : h' = j
          · subst hne
            rw [pk_us]
            congr 1
            omega
          · rw [pk_un (by omega), pk_un (by omega), c8 _ (by omega), b9 _ (by omega), a8 h' hh', hc_eq (TT' := TT2) (TT := TT) hh' (htt _ (by omega) (by omega)) (fun r hr => htt _ (by omega) (by omega))]
        · intro h' hh' hh2
          rw [kup_n (by omega)]
          exact a9 h' hh' hh2
        · intro h' hh'
          show ((hc TT2 h').map (upd (upd g2 (600 + t.2.1) s0.2.2.2.1) (1072 + j) _)).Perm _
          rw [List.map_congr_left (fun x hx => hkeys x (hlt2 x (hc_tcs hh' hx)))]
          by_cases hne : h' = j
          · subst hne
            rw [kup_s]
            have p1 := b5.map σ.1
            have p2 := c5.map σ.1
            refine List.perm_iff_count.mpr fun x => ?_
            have q1 := p1.count_eq x
            have q2 := p2.count_eq x
            have q3 := hp.count_eq x
            have q4 := hl.count_eq x
            simp only [tc, List.map_append, List.map_cons, List.count_append, List.count_cons] at q1 q2 q3 q4 ⊢
            omega
          · rw [kup_n hne, hc_eq (TT' := TT2) (TT := TT) hh' (htt _ (by omega) (by omega)) (fun r hr => htt _ (by omega) (by omega))]
            exact a10 h' hh'
/-- a tree is cut out of its place and placed in the heap 'to' -/
theorem mv_RS {σ : Sx} {f : Nat → Int32} {n i to : Nat} {TT : Nat → Option Tr} {Z : List Nat} (ht8 : to < 8) (hi : i < 72) (hP : PI f TT [] Z) :
    ∃ (g : Nat → Int32) (n' : Nat) (TT' : Nat → Option Tr), x_place (RS σ (upd f (1000 + i) (-1)) (n + 2)) (nI to) (f (1000 + i)) = RS σ g n' ∧ n' ≤ n + 75 ∧ n' ≤ n + 2 + 73 * (oc (TT i)).length ∧ PI g TT' [] Z ∧ agr Z f g ∧ (hc TT' to).Perm (oc (TT i) ++ hc (up TT i none) to) ∧ (∀ k, k < 8 * to ∨ 8 * to + 8 ≤ k → TT' k = up TT i none k) ∧ (∀ k, k < 200 → g k = f k) ∧ ∀ k, 1072 ≤ k → g k = f k := by
  cases ht : TT i with
  | none =>
    have e := PI_none hP hi ht
    have eu : up TT i none = TT := by
      funext k
      by_cases hk : k = i
      · subst hk; rw [up_s, ht]
      · rw [up_n hk]
    rw [e, place_nil, upd_same e, eu]
    exact ⟨f, n + 2, TT, rfl, by omega, by simp [oc], hP, agr_rf, by simp [oc], fun _ _ => rfl, fun _ _ => rfl, fun _ _ => rfl⟩
  | some t =>
    obtain ⟨e, htk, -⟩ := PI_some hP hi ht
    rw [e]
    obtain ⟨g, n', TT', b1, b2, b3, b4, b5, b6, b7, b8⟩ := place_RS (σ := σ) (n := n + 2) ht8 (PI_cut hP hi ht)
    refine ⟨g, n', TT', b1, by omega, ?_, b3, agr_tr (agr_hi hP.2.2.2.2 (by omega)) b4, b5, b6, fun k hk => by rw [b7 k hk, pk_un (by omega)], fun k hk => by rw [b8 k (by omega), pk_un (by omega)]⟩
    have : 1 ≤ (oc (some t)).length := by simp [oc, tc]
    omega
/-- meld's loop, without its counter -/
def x_meL (to fr : Int32) : Nat → Sx → Int32 → Sx
  | 0, σ, _ => σ
  | n + 1, σ, rank =>
    let q := x_cutTop σ fr rank
    x_meL to fr n (x_place q.2 to q.1) (rank + 1)
theorem meL_eq (to fr : Int32) : ∀ (m i : Nat) (σ : Sx), i + m = 8 → y_meL to fr (m + 1) σ (nI i) = x_meL to fr m σ (nI i) := by
  intro m
  induction m with
  | zero =>
    intro i σ hi
    unfold y_meL x_meL
    rw [if_pos (show (8 : Int32) ≤ nI i from nI_le (a := 8) (by omega) (by omega))]
  | succ m ih =>
    intro i σ hi
    unfold y_meL x_meL
    rw [if_neg (show ¬ (8 : Int32) ≤ nI i from nI_ge (b := 8) (by omega) (by omega))]
    simp only
    rw [nI_1]
    exact ih (i + 1) _ (by omega)
theorem me_L {σ : Sx} {to fr : Nat} {Z : List Nat} (h1 : to < 8) (h2 : fr < 8) (hne : to ≠ fr) : ∀ (m r : Nat) (f : Nat → Int32) (n : Nat) (TT : Nat → Option Tr), r + m = 8 → PI f TT [] Z → TT (64 + fr) = none → (∀ r', r' < r → TT (8 * fr + r') = none) →
    ∃ (g : Nat → Int32) (n' : Nat) (TT' : Nat → Option Tr), x_meL (nI to) (nI fr) m (RS σ f n) (nI r) = RS σ g n' ∧ n' ≤ n + 75 * m ∧ n' ≤ n + 2 * m + 73 * (hc TT fr).length ∧ PI g TT' [] Z ∧ agr Z f g ∧ (hc TT' to).Perm (hc TT fr ++ hc TT to) ∧ hc TT' fr = [] ∧ TT' (64 + fr) = none ∧ (∀ k, (k < 8 * to ∨ 8 * to + 8 ≤ k) → (k < 8 * fr ∨ 8 * fr + 8 ≤ k) → TT' k = TT k) ∧ (∀ k, k < 200 → g k = f k) ∧ ∀ k, 1072 ≤ k → g k = f k := by
  intro m
  induction m with
  | zero =>
    intro r f n TT hr hP htw hlow
    have hnil : hc TT fr = [] := by
      refine lr_none (f := f) h2 (fun k hk => ?_)
      rcases hk with rfl | hk
      · exact htw
      · have := hlow (k - 8 * fr) (by omega)
        rwa [show 8 * fr + (k - 8 * fr) = k by omega] at this
    exact ⟨f, n, TT, rfl, by omega, by omega, hP, agr_rf, by rw [hnil]; exact List.Perm.refl _, hnil, htw, fun _ _ _ => rfl, fun _ _ => rfl, fun _ _ => rfl⟩
  | succ m ih =>
    intro r f n TT hr hP htw hlow
    unfold x_meL
    rw [x_cutTop_RS h2 (by omega)]
    simp only
    obtain ⟨g, n', TT', b1, b2, b3, b4, b5, b6, b7, b8, b9⟩ := mv_RS (σ := σ) (n := n) h1 (show 8 * fr + r < 72 by omega) hP
    rw [b1, nI_1]
    have hup : hc (up TT (8 * fr + r) none) to = hc TT to := hc_eq h1 (up_n (by omega)) (fun k hk => up_n (by omega))
    have hfr : hc TT' fr = hc (up TT (8 * fr + r) none) fr := hc_eq h2 (b7 _ (by omega)) (fun k hk => b7 _ (by omega))
    have hcut := hc_top (TT := TT) (o := none) h2 (show r < 8 by omega)
    have hcl := hcut.length_eq
    have e0 : oc (none : Option Tr) = [] := rfl
    rw [e0] at hcl
    simp only [List.length_append, List.nil_append] at hcl
    rw [hup] at b6
    obtain ⟨g2, n2, TT2, c1, c2, c3, c4, c5, c6, c7, c8, c9, c10, c11⟩ := ih (r + 1) g n' TT' (by omega) b4 (by rw [b7 _ (by omega), up_n (by omega)]; exact htw) (fun r' hr' => by
      rw [b7 _ (by omega)]
      by_cases hrr : r' = r
      · subst hrr; exact up_s
      · rw [up_n (by omega)]; exact hlow r' (by omega))
    refine ⟨g2, n2, TT2, c1, by omega, ?_, c4, agr_tr b5 c5, ?_, c7, c8, fun k hk1 hk2 => by rw [c9 k hk1 hk2, b7 k hk1, up_n (by omega)], fun k hk => (c10 k hk).trans (b8 k hk), fun k hk => (c11 k hk).trans (b9 k hk)⟩
    · have : (hc TT' fr).length + (oc (TT (8 * fr + r))).length = (hc TT fr).length := by rw [hfr]; omega
      omega
    · rw [hfr] at c6
      refine List.perm_iff_count.mpr fun x => ?_
      have q1 := c6.count_eq x
      have q2 := b6.count_eq x
      have q3 := hcut.count_eq x
      simp only [List.count_append, oc, List.count_nil] at q1 q2 q3 ⊢
      omega
end
section
/-! meld, size, key, sum, free, few -/
theorem keysIn_any {σ s : Sx} {nh u n : Nat} {K : Nat → List Int32} (h : XI σ nh u K) (hs : s.2.1 = σ.2.1) (a : Int32) : ∃ k d, k ≤ 200 ∧ d ≤ 1 ∧ x_keysIn (RS s σ.1 n) a = (nI k, RS s σ.1 (n + d)) ∧ (∀ j, j < nh → a = nI j → k = (K j).length) ∧ ((a < 0 ∨ nI nh ≤ a) → k = 0) := by
  obtain ⟨h8, -, hH⟩ := XI_nh h
  rcases pk_ix a (n := nh) (by omega) with ha | ha | ⟨j, hj, rfl⟩
  · refine ⟨0, 0, by omega, by omega, ?_, fun j hj e => ?_, fun _ => rfl⟩
    · unfold x_keysIn
      rw [ex_no (σ := RS s σ.1 n) (nh := nh) (hs.trans hH) (Or.inl ha), if_pos rfl, nI_0]
      rfl
    · rw [e] at ha
      exact absurd ha (nI_pos (by omega))
  · refine ⟨0, 0, by omega, by omega, ?_, fun j hj e => ?_, fun _ => rfl⟩
    · unfold x_keysIn
      rw [ex_no (σ := RS s σ.1 n) (nh := nh) (hs.trans hH) (Or.inr ha), if_pos rfl, nI_0]
      rfl
    · rw [e] at ha
      exact absurd ha (nI_ge hj (by omega))
  · obtain ⟨hl200, hsz⟩ := XI_len h (show j < 8 by omega)
    refine ⟨(K j).length, 1, hl200, by omega, ?_, fun i hi e => ?_, fun hb => ?_⟩
    · unfold x_keysIn
      rw [ex_yes (σ := RS s σ.1 n) (nh := nh) (hs.trans hH) h8 hj, if_neg (by decide), ad_sz, RS_read (by omega), hsz]
    · rw [nI_inj (by omega) (by omega) e]
    · exfalso
      rcases hb with hb | hb
      · exact nI_pos (by omega) hb
      · exact nI_ge hj (by omega) hb
theorem beginBoth_RS {σ : Sx} {nh u : Nat} {K : Nat → List Int32} (h : XI σ nh u K) (a b : Int32) : ∃ L d, x_beginOnBoth σ a b = RS (x_sL (x_sS σ 0) (nI (200 * (2 + L)))) σ.1 d ∧ d ≤ 2 ∧ L ≤ 30 ∧ ∀ i j, i < nh → j < nh → a = nI i → b = nI j → ∀ r, r ≤ 30 → 2 ^ r ≤ (K i).length + (K j).length + 1 → r ≤ L := by
  obtain ⟨k1, d1, x1, x2, x3, x4, -⟩ := keysIn_any (s := x_sS σ 0) (n := 0) h rfl a
  obtain ⟨k2, d2, y1, y2, y3, y4, -⟩ := keysIn_any (s := x_sS σ 0) (n := 0 + d1) h rfl b
  obtain ⟨L, e, h1, h2⟩ := lim_ge (k := k1 + k2) (by omega)
  have e0 : RS (x_sS σ 0) σ.1 0 = x_sS σ 0 := RS_0 (x_sS σ 0)
  rw [e0] at x3
  refine ⟨L, 0 + d1 + d2, ?_, by omega, h1, fun i j hi hj ei ej r hr hp => h2 r hr (by rw [x4 i hi ei, y4 j hj ej]; exact hp)⟩
  unfold x_beginOnBoth
  rw [x3]
  simp only
  rw [y3]
  simp only
  rw [nI_add, e]
  rfl
theorem op_meld_no {σ : Sx} {nh u : Nat} {K : Nat → List Int32} {a b : Int32} (h : XI σ nh u K) (hab : (a < 0 ∨ nI nh ≤ a) ∨ (b < 0 ∨ nI nh ≤ b) ∨ a = b) : (x_meld σ a b).1 = -1 ∧ XI (x_meld σ a b).2 nh u K ∧ XF (x_meld σ a b).2 := by
  obtain ⟨h8, -, hH⟩ := XI_nh h
  obtain ⟨L, d, e, hd, hL, -⟩ := beginBoth_RS h a b
  have hX : XI (x_beginOnBoth σ a b) nh u K := by rw [e]; exact XI_eq h rfl rfl rfl rfl
  have hF : XF (x_beginOnBoth σ a b) := by rw [e]; exact XF_of (L := 200 * (2 + L)) rfl rfl (by omega) (by omega)
  have hH2 : (x_beginOnBoth σ a b).2.1 = nI nh := by rw [e]; exact hH
  have key : x_meld σ a b = (-1, x_beginOnBoth σ a b) := by
    unfold x_meld
    simp only
    split
    · rfl
    · split
      · rfl
      · rename_i h1 h2
        rcases hab with ha | hb | hab
        · exact absurd (ex_no hH2 ha) h1
        · exact absurd (ex_no hH2 hb) h2
        · rw [if_pos hab]
  rw [key]
  exact ⟨rfl, hX, hF⟩
theorem op_meld {σ : Sx} {nh u i j : Nat} {K : Nat → List Int32} (h : XI σ nh u K) (hi : i < nh) (hj : j < nh) (hij : i ≠ j) : (x_meld σ (nI i) (nI j)).1 = nI ((K i).length + (K j).length) ∧ XI (x_meld σ (nI i) (nI j)).2 nh u (kup (kup K i (K i ++ K j)) j []) ∧ XF (x_meld σ (nI i) (nI j)).2 := by
  obtain ⟨h8, -, hH⟩ := XI_nh h
  obtain ⟨hl1, hsz1⟩ := XI_len h (show i < 8 by omega)
  obtain ⟨hl2, hsz2⟩ := XI_len h (show j < 8 by omega)
  obtain ⟨L, d, e, hd, hL, hLr⟩ := beginBoth_RS h (nI i) (nI j)
  have hLr := hLr i j hi hj rfl rfl
  obtain ⟨TT, fl, a1, a2, a3, a4, a5, a6, a7, a8, a9, a10⟩ := id h
  have hi8 : i < 8 := by omega
  have hj8 : j < 8 := by omega
  obtain ⟨s0, es0⟩ : ∃ s0, s0 = x_sL (x_sS σ 0) (nI (200 * (2 + L))) := ⟨_, rfl⟩
  rw [← es0] at e
  have eh : s0.2.1 = nI nh := by rw [es0]; exact hH
  have hne : ¬ nI i = nI j := fun q => hij (nI_inj (by omega) (by omega) q)
  unfold x_meld
  simp only
  rw [e, ex_yes (σ := RS s0 σ.1 d) (nh := nh) eh h8 hi, ex_yes (σ := RS s0 σ.1 d) (nh := nh) eh h8 hj, if_neg (by decide), if_neg (by decide), if_neg hne, x_cutTwin_RS hi8]
  simp only
  obtain ⟨g1, n1, T1, b1, b2, b3, b4, b5, b6, b7, b8, b9⟩ := mv_RS (σ := s0) (n := d) hi8 (show 64 + i < 72 by omega) a1
  rw [b1, x_cutTwin_RS hj8]
  simp only
  obtain ⟨g2, n2, T2, c1, c2, c3, c4, c5, c6, c7, c8, c9⟩ := mv_RS (σ := s0) (n := n1) hi8 (show 64 + j < 72 by omega) b4
  rw [c1]
  have hT2j : T2 (64 + j) = none := by rw [c7 _ (by omega)]; exact up_s
  obtain ⟨g3, n3, T3, d1, d2, d3, d4, d5, d6, d7, d8, d9, d10, d11⟩ := me_L (σ := s0) hi8 hj8 hij 8 0 g2 n2 T2 (by omega) c4 hT2j (fun r hr => by omega)
  rw [show y_meL (nI i) (nI j) 9 (RS s0 g2 n2) 0 = RS s0 g3 n3 by rw [← nI_0, meL_eq (nI i) (nI j) 8 0 _ (by omega)]; exact d1]
  unfold x_meldT
  rw [ad_sz, RS_read (by omega)]
  simp only
  have z2 : g3 (1072 + j) = nI (K j).length := by rw [d11 _ (by omega), c9 _ (by omega), b9 _ (by omega)]; exact hsz2
  have z1 : g3 (1072 + i) = nI (K i).length := by rw [d11 _ (by omega), c9 _ (by omega), b9 _ (by omega)]; exact hsz1
  rw [z2, resize_RS hj8]
  simp only
  rw [ad_sz, RS_read (by omega), pk_un (by omega), z1]
  simp only
  rw [nI_add, resize_RS hi8]
  -- the cells
  have p1 := hc_twin (TT := TT) (o := none) hi8
  have u1 : hc (up TT (64 + i) none) j = hc TT j := hc_eq hj8 (up_n (by omega)) (fun r hr => up_n (by omega))
  have v1 : hc T1 j = hc TT j := (hc_eq hj8 (b7 _ (by omega)) (fun r hr => b7 _ (by omega))).trans u1
  have p2 := hc_twin (TT := T1) (o := none) hj8
  have u2 : hc (up T1 (64 + j) none) i = hc T1 i := hc_eq hi8 (up_n (by omega)) (fun r hr => up_n (by omega))
  have v2 : hc T2 j = hc (up T1 (64 + j) none) j := hc_eq hj8 (c7 _ (by omega)) (fun r hr => c7 _ (by omega))
  have e0 : oc (none : Option Tr) = [] := rfl
  rw [e0] at p1 p2
  rw [u2] at c6
  rw [← v2, v1] at p2
  have hperm : (hc T3 i).Perm (hc TT i ++ hc TT j) := by
    refine List.perm_iff_count.mpr fun x => ?_
    have q1 := p1.count_eq x
    have q2 := p2.count_eq x
    have q3 := b6.count_eq x
    have q4 := c6.count_eq x
    have q5 := d6.count_eq x
    simp only [List.count_append, List.nil_append] at q1 q2 q3 q4 q5 ⊢
    omega
  have k1 : (hc TT i).length = (K i).length := by have := (a10 i hi8).length_eq; rw [List.length_map] at this; exact this
  have k2 : (hc TT j).length = (K j).length := by have := (a10 j hj8).length_eq; rw [List.length_map] at this; exact this
  have l1 := p1.length_eq
  have l2 := p2.length_eq
  simp only [List.length_append, List.nil_append] at l1 l2
  have htt : ∀ k, k ≠ 64 + i → k ≠ 64 + j → (k < 8 * i ∨ 8 * i + 8 ≤ k) → (k < 8 * j ∨ 8 * j + 8 ≤ k) → T3 k = TT k := fun k q1 q2 q3 q4 => by
    rw [d9 k q3 q4, c7 k q3, up_n q2, b7 k q3, up_n q1]
  have htwi : T3 (64 + i) = none := by rw [d9 _ (by omega) (by omega), c7 _ (by omega), up_n (by omega), b7 _ (by omega)]; exact up_s
  obtain ⟨hP4, hag4⟩ := PI_size (k := 1072 + j) (v := 0) d4 (by omega)
  obtain ⟨hP5, hag5⟩ := PI_size (k := 1072 + i) (v := nI ((K i).length + (K j).length)) hP4 (by omega)
  have hlt3 := PI_lt d4
  simp only [List.flatMap_nil, List.nil_append] at hlt3
  have hkeys : ∀ x, x < 200 → upd (upd g3 (1072 + j) 0) (1072 + i) (nI ((K i).length + (K j).length)) x = σ.1 x := fun x hx => by
    rw [pk_un (by omega), pk_un (by omega), d10 x hx, c8 x hx, b8 x hx]
  refine ⟨rfl, ⟨T3, fl, hP5, ?_, ?_, a4, ?_, a6, ?_, ?_, ?_, ?_⟩, ?_⟩
  · show flc (upd (upd g3 (1072 + j) 0) (1072 + i) (nI ((K i).length + (K j).length))) fl s0.2.2.2.1
    have : s0.2.2.2.1 = σ.2.2.2.1 := by rw [es0]; rfl
    rw [this]
    exact flc_agr _ _ (agr_tr (agr_tr (agr_tr (agr_tr b5 c5) d5) hag4) hag5) a2
  · show s0.2.2.1 = _
    rw [es0]
    exact a3
  · show s0.2.1 = _
    rw [eh]
  · intro h' hh'
    by_cases q1 : h' = i
    · subst q1
      intro t ht
      rw [htwi] at ht
      cases ht
    · by_cases q2 : h' = j
      · subst q2
        intro t ht
        rw [d8] at ht
        cases ht
      · intro t ht
        rw [htt _ (by omega) (by omega) (by omega) (by omega)] at ht
        obtain ⟨t1, ⟨t', t2⟩, t3⟩ := a7 h' hh' t ht
        exact ⟨t1, ⟨t', by rw [htt _ (by omega) (by omega) (by omega) (by omega)]; exact t2⟩, fun r hr => by rw [htt _ (by omega) (by omega) (by omega) (by omega)]; exact t3 r hr⟩
  · intro h' hh'
    show upd (upd g3 (1072 + j) 0) (1072 + i) _ (1072 + h') = _
    by_cases q1 : h' = i
    · subst q1
      rw [pk_us, hperm.length_eq, List.length_append, k1, k2]
    · rw [pk_un (by omega)]
      by_cases q2 : h' = j
      · subst q2
        rw [pk_us, d7, List.length_nil, nI_0]
      · rw [pk_un (by omega), d11 _ (by omega), c9 _ (by omega), b9 _ (by omega), a8 h' hh', hc_eq (TT' := T3) (TT := TT) hh' (htt _ (by omega) (by omega) (by omega) (by omega)) (fun r hr => htt _ (by omega) (by omega) (by omega) (by omega))]
  · intro h' hh' hh2
    rw [kup_n (by omega), kup_n (by omega)]
    exact a9 h' hh' hh2
  · intro h' hh'
    show ((hc T3 h').map (upd (upd g3 (1072 + j) 0) (1072 + i) _)).Perm _
    rw [List.map_congr_left (fun x hx => hkeys x (hlt3 x (hc_tcs hh' hx)))]
    by_cases q2 : h' = j
    · subst q2
      rw [kup_s, d7]
      exact List.Perm.refl _
    · rw [kup_n q2]
      by_cases q1 : h' = i
      · subst q1
        rw [kup_s]
        refine (hperm.map σ.1).trans ?_
        rw [List.map_append]
        exact (a10 h' hh').append (a10 j hj8)
      · rw [kup_n q1, hc_eq (TT' := T3) (TT := TT) hh' (htt _ (by omega) (by omega) (by omega) (by omega)) (fun r hr => htt _ (by omega) (by omega) (by omega) (by omega))]
        exact a10 h' hh'
  · refine XF_of (L := 200 * (2 + L)) (by rw [es0]; rfl) (by rw [es0]; rfl) (by omega) ?_
    have r1 := hLr 1 (by omega)
    have r2 := hLr 2 (by omega)
    by_cases q0 : (K i).length + (K j).length = 0
    · omega
    · by_cases q1 : (K i).length + (K j).length ≤ 2
      · have := r1 (by omega)
        omega
      · have := r2 (by omega)
        omega
theorem op_size {σ : Sx} {nh u : Nat} {K : Nat → List Int32} (h : XI σ nh u K) (a : Int32) : ((a < 0 ∨ nI nh ≤ a) → (x_size σ a).1 = -1) ∧ (∀ j, j < nh → a = nI j → (x_size σ a).1 = nI (K j).length) ∧ XI (x_size σ a).2 nh u K ∧ XF (x_size σ a).2 := by
  obtain ⟨h8, -, hH⟩ := XI_nh h
  have hH2 : (x_begin σ 2147483647).2.1 = nI nh := hH
  unfold x_size
  simp only
  rcases pk_ix a (n := nh) (by omega) with ha | ha | ⟨j, hj, rfl⟩
  · rw [ex_no hH2 (Or.inl ha), if_pos rfl]
    exact ⟨fun _ => rfl, fun j hj e => by rw [e] at ha; exact absurd ha (nI_pos (by omega)), XI_begin h _, XF_max σ⟩
  · rw [ex_no hH2 (Or.inr ha), if_pos rfl]
    exact ⟨fun _ => rfl, fun j hj e => by rw [e] at ha; exact absurd ha (nI_ge hj (by omega)), XI_begin h _, XF_max σ⟩
  · obtain ⟨hl200, hsz⟩ := XI_len h (show j < 8 by omega)
    rw [ex_yes hH2 h8 hj, if_neg (by decide), ad_sz, R0_read (by omega)]
    refine ⟨fun hb => ?_, fun i hi e => ?_, XI_eq h rfl rfl rfl rfl, RS_max rfl⟩
    · exfalso
      rcases hb with hb | hb
      · exact nI_pos (by omega) hb
      · exact nI_ge hj (by omega) hb
    · rw [← nI_inj (by omega) (by omega) e]
      exact hsz
theorem XI_list {σ s : Sx} {g : Nat → Int32} {n nh u : Nat} {K : Nat → List Int32} (h : XI σ nh u K) (hg : ∀ k, (k < 800 ∨ 1000 ≤ k) → g k = σ.1 k) (h2 : s.2.1 = σ.2.1) (h3 : s.2.2.1 = σ.2.2.1) (h4 : s.2.2.2.1 = σ.2.2.2.1) : XI (RS s g n) nh u K := by
  obtain ⟨TT, fl, a1, a2, a3, a4, a5, a6, a7, a8, a9, a10⟩ := h
  obtain ⟨b1, b2⟩ := PI_list a1 hg
  have hlt := PI_lt a1
  refine ⟨TT, fl, b1, by show flc g fl s.2.2.2.1; rw [h4]; exact flc_agr _ _ b2 a2, by show s.2.2.1 = _; rw [h3]; exact a3, a4, by show s.2.1 = _; rw [h2]; exact a5, a6, a7, fun j hj => by show g _ = _; rw [hg _ (by omega)]; exact a8 j hj, a9, fun j hj => ?_⟩
  show ((hc TT j).map g).Perm _
  rw [List.map_congr_left (fun x hx => hg x (by have := hlt x (List.mem_append_right _ (hc_tcs hj hx)); omega))]
  exact a10 j hj
/-- a heap's keys, listed -/
theorem listed {σ s : Sx} {nh u n j : Nat} {K : Nat → List Int32} (h : XI σ nh u K) (hj : j < 8) (h2 : s.2.1 = σ.2.1) (h3 : s.2.2.1 = σ.2.2.1) (h4 : s.2.2.2.1 = σ.2.2.2.1) : ∃ g n' L, x_listCells (RS s σ.1 n) (nI j) = (nI L.length, RS s g n') ∧ Lst g L ∧ L.length ≤ 200 ∧ (∀ c ∈ L, c < 200) ∧ (L.map g).Perm (K j) ∧ ∀ n'', XI (RS s g n'') nh u K := by
  obtain ⟨TT, fl, a1, a2, a3, a4, a5, a6, a7, a8, a9, a10⟩ := id h
  obtain ⟨g, n', L, e, hp, hl, hg⟩ := listCells_RS (σ := s) (n := n) hj a1
  have hlt := PI_lt a1
  have hlen := hc_len hj a1
  have hL : ∀ c ∈ L, c < 200 := fun c hc1 => hlt c (List.mem_append_right _ (hc_tcs hj (hp.mem_iff.mp hc1)))
  refine ⟨g, n', L, by rw [e, hp.length_eq], hl, by rw [hp.length_eq]; omega, hL, ?_, fun n'' => XI_list h hg h2 h3 h4⟩
  rw [List.map_congr_left (fun x hx => hg x (by have := hL x hx; omega))]
  exact (hp.map σ.1).trans (a10 j hj)
theorem op_sum {σ : Sx} {nh u : Nat} {K : Nat → List Int32} (h : XI σ nh u K) (a : Int32) : ((a < 0 ∨ nI nh ≤ a) → (x_sum σ a).1 = 0) ∧ (∀ j, j < nh → a = nI j → (x_sum σ a).1 = lsum (K j)) ∧ XI (x_sum σ a).2 nh u K ∧ XF (x_sum σ a).2 := by
  obtain ⟨h8, -, hH⟩ := XI_nh h
  have hH2 : (x_begin σ 2147483647).2.1 = nI nh := hH
  unfold x_sum
  simp only
  rcases pk_ix a (n := nh) (by omega) with ha | ha | ⟨j, hj, rfl⟩
  · rw [ex_no hH2 (Or.inl ha), if_pos rfl]
    exact ⟨fun _ => rfl, fun j hj e => by rw [e] at ha; exact absurd ha (nI_pos (by omega)), XI_begin h _, XF_max σ⟩
  · rw [ex_no hH2 (Or.inr ha), if_pos rfl]
    exact ⟨fun _ => rfl, fun j hj e => by rw [e] at ha; exact absurd ha (nI_ge hj (by omega)), XI_begin h _, XF_max σ⟩
  · rw [ex_yes hH2 h8 hj, if_neg (by decide)]
    obtain ⟨g, n', L, e, hl, hL, hc0, hp, hX⟩ := listed (s := x_begin σ 2147483647) (n := 0) h (show j < 8 by omega) rfl rfl rfl
    have e0 : RS (x_begin σ 2147483647) σ.1 0 = x_begin σ 2147483647 := RS_0 (x_begin σ 2147483647)
    rw [e0] at e
    rw [e]
    simp only
    obtain ⟨n2, e2⟩ := sum_L (σ := x_begin σ 2147483647) hl hL hc0 L [] n' 0 rfl
    have e3 : y_sumL (nI L.length) ((nI L.length).toInt.toNat + 1) (RS (x_begin σ 2147483647) g n') 0 0 = (0 + lsum (L.map g), RS (x_begin σ 2147483647) g n2) := by
      rw [nI_toInt (by omega), Int.toNat_natCast]
      have := sumL_eq L.length (by omega) L.length 0 (RS (x_begin σ 2147483647) g n') 0 (by omega)
      rw [← nI_0]
      exact this.trans e2
    rw [e3]
    refine ⟨fun hb => ?_, fun i hi e => ?_, hX n2, RS_max rfl⟩
    · exfalso
      rcases hb with hb | hb
      · exact nI_pos (by omega) hb
      · exact nI_ge hj (by omega) hb
    · rw [← nI_inj (by omega) (by omega) e, Int64.zero_add, lsum_perm hp]
theorem cle_perm {S S' : List Int32} (h : S.Perm S') (v : Int) : cle S v = cle S' v := h.countP_eq _
theorem op_key {σ : Sx} {nh u : Nat} {K : Nat → List Int32} (h : XI σ nh u K) (a k : Int32) : XI (x_key σ a k).2 nh u K ∧ XF (x_key σ a k).2 ∧ ((k < 0 ∨ a < 0 ∨ nI nh ≤ a ∨ ∃ j, j < nh ∧ a = nI j ∧ nI (K j).length ≤ k) → (x_key σ a k).1 = -9223372036854775808) ∧ ∀ j i, j < nh → a = nI j → i < (K j).length → k = nI i → cle (K j) ((x_key σ a k).1.toInt - 1) ≤ i ∧ i < cle (K j) (x_key σ a k).1.toInt := by
  obtain ⟨h8, -, hH⟩ := XI_nh h
  unfold x_key
  simp only
  by_cases hk : k < 0
  · rw [if_pos hk]
    refine ⟨XI_begin h _, XF_max σ, fun _ => rfl, fun j i hj _ hi e => ?_⟩
    have := (XI_len h (show j < 8 by omega)).1
    rw [e] at hk
    exact absurd hk (nI_pos (by omega))
  · rw [if_neg hk]
    obtain ⟨z, d, z1, z2, z3, z4, z5⟩ := keysIn_any (s := x_begin σ 2147483647) (n := 0) h rfl a
    have e0 : RS (x_begin σ 2147483647) σ.1 0 = x_begin σ 2147483647 := RS_0 (x_begin σ 2147483647)
    rw [e0] at z3
    rw [z3]
    simp only
    obtain ⟨i, hi, rfl⟩ := nI_of hk
    by_cases hlt : i < z
    · rw [if_pos (nI_lt hlt (by omega))]
      -- the heap is there
      have hj : ∃ j, j < nh ∧ a = nI j := by
        rcases pk_ix a (n := nh) (by omega) with ha | ha | hj
        · have := z5 (Or.inl ha); omega
        · have := z5 (Or.inr ha); omega
        · exact hj
      obtain ⟨j, hj, rfl⟩ := hj
      have hz := z4 j hj rfl
      obtain ⟨g, n', L, e, hl, hL, hc0, hp, hX⟩ := listed (s := x_begin σ 2147483647) (n := 0 + d) h (show j < 8 by omega) rfl rfl rfl
      rw [e]
      simp only
      have hlen := hp.length_eq
      rw [List.length_map] at hlen
      have hlo : cle (L.map g) ((-2147483648 : Int64).toInt - 1) ≤ i := by
        have : cle (L.map g) ((-2147483648 : Int64).toInt - 1) = 0 := by
          unfold cle
          rw [List.countP_eq_zero]
          intro x _
          have h1 := Int32.le_toInt x
          rw [show (-2147483648 : Int64).toInt = -2147483648 from rfl]
          simp
          omega
        omega
      have hhi : i < cle (L.map g) (2147483647 : Int64).toInt := by
        have : cle (L.map g) (2147483647 : Int64).toInt = (L.map g).length := by
          unfold cle
          rw [List.countP_eq_length]
          intro x _
          have h1 := Int32.toInt_lt x
          rw [show (2147483647 : Int64).toInt = 2147483647 from rfl]
          simp
          omega
        rw [this, List.length_map]
        omega
      obtain ⟨v, n2, e2, v1, v2, v3, v4⟩ := kth_L (σ := x_begin σ 2147483647) (k := i) hl hL hc0 hi 32 n' (-2147483648) 2147483647 (by omega) (by decide) (by decide) (by decide) (by decide) hlo hhi
      have e3 : x_kthListed (RS (x_begin σ 2147483647) g n') (nI L.length) (nI i) = (v, RS (x_begin σ 2147483647) g n2) := by
        unfold x_kthListed
        rw [← nI_0, kthL_eq (nI L.length) (nI i) 32 0 _ _ _ (by omega)]
        exact e2
      rw [e3]
      refine ⟨hX n2, RS_max rfl, fun hb => ?_, fun j' i' hj' e' hi' ei => ?_⟩
      · exfalso
        rcases hb with hb | hb | hb | ⟨j', hj', e', hb⟩
        · exact hk hb
        · exact nI_pos (by omega) hb
        · exact nI_ge hj (by omega) hb
        · have := nI_inj (by omega) (by omega) e'
          subst this
          exact nI_ge (show i < (K j).length by omega) (by omega) hb
      · have := nI_inj (by omega) (by omega) e'
        subst this
        have hKl := (XI_len h (show j < 8 by omega)).1
        have := nI_inj (by omega) (by omega) ei
        subst this
        rw [cle_perm hp] at v1 v2
        exact ⟨v1, v2⟩
    · rw [if_neg (nI_nlt (by omega) (by omega))]
      refine ⟨XI_eq h rfl rfl rfl rfl, RS_max rfl, fun _ => rfl, fun j i' hj e hi' ei => ?_⟩
      exfalso
      have hz := z4 j hj e
      have hKl := (XI_len h (show j < 8 by omega)).1
      have := nI_inj (by omega) (by omega) ei
      omega
theorem op_free {σ : Sx} {nh u : Nat} {K : Nat → List Int32} (h : XI σ nh u K) : (x_free σ).1 = nI (200 - u) ∧ XI (x_free σ).2 nh u K ∧ XF (x_free σ).2 := by
  refine ⟨?_, XI_begin h _, XF_max σ⟩
  obtain ⟨TT, fl, a1, a2, a3, a4, -⟩ := h
  show σ.2.2.1 = _
  rw [a3]
  congr 1
  omega
theorem op_few {σ : Sx} {nh u : Nat} {K : Nat → List Int32} (h : XI σ nh u K) (hf : XF σ) : (x_few σ).1 = 1 ∧ XI (x_few σ).2 nh u K ∧ XF (x_few σ).2 := by
  refine ⟨?_, XI_begin h _, XF_max σ⟩
  show (if σ.2.2.2.2.2 < σ.2.2.2.2.1 then (0 : Int32) else 1) = 1
  rw [if_neg hf]
end
section
/-! a new object -/
theorem in_L {σ : Sx} : ∀ (m i : Nat) (f : Nat → Int32) (n : Nat), i + m = 1072 → ∃ g n', y_inL (m + 1) (RS σ f n) (nI i) = RS σ g n' ∧ (∀ k, i ≤ k → k < 1072 → g k = -1) ∧ ∀ k, (k < i ∨ 1072 ≤ k) → g k = f k := by
  intro m
  induction m with
  | zero =>
    intro i f n hi
    unfold y_inL
    rw [if_pos (show (1072 : Int32) ≤ nI i from nI_le (a := 1072) (by omega) (by omega))]
    exact ⟨f, n, rfl, fun k h1 h2 => by omega, fun _ _ => rfl⟩
  | succ m ih =>
    intro i f n hi
    unfold y_inL
    rw [if_neg (show ¬ (1072 : Int32) ≤ nI i from nI_ge (b := 1072) (by omega) (by omega)), RS_write (by omega), nI_1]
    obtain ⟨g, n', e, h1, h2⟩ := ih (i + 1) (upd f i (-1)) (n + 1) (by omega)
    refine ⟨g, n', e, fun k h3 h4 => ?_, fun k h3 => ?_⟩
    · by_cases hk : k = i
      · subst hk
        rw [h2 k (by omega), pk_us]
      · exact h1 k (by omega) h4
    · rw [h2 k (by omega), pk_un (by omega)]
theorem gi_L : ∀ (m : Nat) (σ : Sx) (f : Nat → Int32) (n : Nat), m ≤ 200 → flc f (List.range' m (200 - m)) σ.2.2.2.1 → σ.2.2.1 = nI (200 - m) →
    ∃ σ' g n', y_giL (m + 1) (RS σ f n) (nI m + (-1)) = RS σ' g n' ∧ flc g (List.range' 0 200) σ'.2.2.2.1 ∧ σ'.2.2.1 = nI 200 ∧ σ'.2.1 = σ.2.1 ∧ ∀ k, 1000 ≤ k → g k = f k := by
  intro m
  induction m with
  | zero =>
    intro σ f n hm hf hu
    unfold y_giL
    rw [if_pos (by decide)]
    exact ⟨σ, f, n, rfl, hf, hu, rfl, fun _ _ => rfl⟩
  | succ m ih =>
    intro σ f n hm hf hu
    unfold y_giL
    rw [pk_m1, if_neg (nI_pos (by omega)), giveBack_RS (by omega)]
    obtain ⟨σ', g, n', e, h1, h2, h3, h4⟩ := ih (x_sU (x_sF σ (nI m)) (σ.2.2.1 + 1)) (upd f (600 + m) σ.2.2.2.1) (n + 1) (by omega) (by
      rw [show 200 - m = (200 - (m + 1)) + 1 by omega, List.range'_succ]
      refine ⟨rfl, ?_⟩
      rw [pk_us]
      refine flc_agr _ _ (fun x hx => ?_) hf
      have hx := List.mem_range'_1.mp hx
      refine ⟨?_, ?_, ?_, ?_⟩ <;> rw [pk_un (by omega)]) (by
      show σ.2.2.1 + 1 = _
      rw [hu, nI_1]
      congr 1
      omega)
    exact ⟨σ', g, n', e, h1, h2, h3, fun k hk => by rw [h4 k hk, pk_un (by omega)]⟩
theorem new_XI : XI x_new 0 0 (fun _ => []) ∧ XF x_new := by
  have ez : RS (fun _ => 0, 0, 0, 0, 0, 0) (fun _ => 0) 0 = (fun _ => 0, 0, 0, 0, 0, 0) := RS_0 (fun _ => 0, 0, 0, 0, 0, 0)
  obtain ⟨g1, n1, e1, a1, a2⟩ := in_L (σ := (fun _ => 0, 0, 0, 0, 0, 0)) 72 1000 (fun _ => 0) 0 (by omega)
  rw [ez] at e1
  obtain ⟨σ', g, n', e2, b1, b2, b3, b4⟩ := gi_L 200 (x_sF (fun _ => 0, 0, 0, 0, 0, 0) (-1)) g1 n1 (by omega) rfl rfl
  have ex : x_new = x_begin (RS σ' g n') 2147483647 := by
    unfold x_new
    show x_begin (y_giL 201 (x_sF (y_inL 73 (fun _ => 0, 0, 0, 0, 0, 0) 1000) (-1)) 199) 2147483647 = _
    have e1' : y_inL 73 (fun _ => 0, 0, 0, 0, 0, 0) 1000 = RS (fun _ => 0, 0, 0, 0, 0, 0) g1 n1 := e1
    rw [e1']
    exact congrArg (fun z => x_begin z 2147483647) e2
  rw [ex]
  refine ⟨XI_begin ?_ _, XF_max _⟩
  have hnil : ∀ h, hc (fun _ => none) h = [] := fun h => by simp [hc, oc]
  refine ⟨fun _ => none, List.range' 0 200, ⟨fun i hi => ?_, fun t ht => by simp at ht, ?_, ?_, fun c hc0 => ?_⟩, b1, by rw [List.length_range']; exact b2, by rw [List.length_range'], b3, by omega, fun h hh t ht => (by cases ht), fun h hh => ?_, fun _ _ _ => rfl, fun h hh => by rw [hnil]; exact List.Perm.refl _⟩
  · show g (1000 + i) = -1
    rw [b4 _ (by omega)]
    exact a1 _ (by omega) (by omega)
  · have : tcs (fun _ => none) = [] := by simp [tcs, oc]
    rw [this]
    simp [List.nodup_range']
  · have : tcs (fun _ => none) = [] := by simp [tcs, oc]
    rw [this]
    simp
  · have := List.mem_range'_1.mp hc0
    omega
  · show g (1072 + h) = _
    rw [b4 _ (by omega), a2 _ (by omega), hnil]
    rfl
end
section
/-! SkewMelds(): one row of 1080 ints; the state is x_new -/
set_option maxHeartbeats 4000000 in
set_option maxRecDepth 100000 in
theorem kX0_init (l : Launch) (D : va_G) (h0 sz : Nat) : Met l yX0_init wsX0_init ({ frames := 2, cells := 1, slots := 1080, locals := 43 })
    (va_Pc [.ref h0] (gP D vwCl [] sz [(h0, .inr (0, [.null, .int 0, .int 0, .int 0, .int 0, .int 0]))]))
    (va_Qv (fun _ : Nat × ClassId => True) (fun u t => va_P D vwCl (xw h0 u.1 u.2 x_new) t.heap ∧ va_K D vwCl [(u.2, .int)] t ∧ va_D (va_A [(h0, .inr (0, [.null, .int 0, .int 0, .int 0, .int 0, .int 0]))] sz) (xw h0 u.1 u.2 x_new)) (va_A [(h0, .inr (0, [.null, .int 0, .int 0, .int 0, .int 0, .int 0]))] sz)) 1 1080 (va_A [(h0, .inr (0, [.null, .int 0, .int 0, .int 0, .int 0, .int 0]))] sz) := by
  refine Met.ofW (cc := cX0_init) (maxL := 2) (ret := none) (by decide) rfl ?_
  intro p e s m args below meth c s₁ B hml hv
  obtain ⟨rfl, hsz, hP, hK, hD0⟩ := hv
  have hx := B.exec
  have hb := B.bytes
  have hr := B.returns
  have hts := atoms_spec (ws := wsX0_init) B.pre
  have hown : s.vm.findClass RX0 = some m.cls := findClass_of_methodNamed B.named
  have hlocks := B.notSynchronized
  have hnm : meth.name = "<init>" := (name_of_methodNamed B.named B.method).1
  have hin : ∀ w ∈ wsX00, w ∈ wsX0_init := fun w h => List.mem_cons_of_mem _ (List.mem_append_right _ h)
  subst hsz
  have hD := hD0.self (sz := s.heap.size)
  generalize hAe : va_A [(h0, .inr (0, [.null, .int 0, .int 0, .int 0, .int 0, .int 0]))] s.heap.size = A at hD ⊢
  have hA : ∀ q : Nat, s.heap.size ≤ q → A q := fun q h => by rw [← hAe]; exact Or.inr h
  have hS : va_S A s.heap s.heap [] := va_S.rf
  have hl := lv_entry ([.ref h0]) (n := 2) (Nat.le_of_ble_eq_true rfl)
  rw [lg_entry_eq]
  generalize (lg_sl ([.ref h0]) ++ List.replicate (2 - (lg_sl ([.ref h0])).length) Slot.unset).toArray = ls at hl ⊢
  have hl : lv_has ls 2 [(0, .ref h0)] := hl
  refine lv_aload_n hx hb dX0_init_0 rfl (lv_at hl 0 rfl) ?_
  refine W.objInit hx hb hown (hts (.methodLink RX0 7 objectInit) (by decide +kernel)) (hts (.instanceMethod objectInit) (by decide +kernel)) (hts _ (List.mem_cons_of_mem _ (List.mem_append_left _ (List.mem_of_getElem? (i := 2) rfl)))) rfl (by rw [hml]; exact hl.1) rfl dX0_init_1 (Nat.le_of_ble_eq_true rfl) (Nat.le_of_ble_eq_true rfl) ?_
  refine W.eq (g2 := F0 m 4 ls []) rfl ?_
  refine lv_aload_n hx hb dX0_init_4 rfl (lv_at hl 0 rfl) ?_
  refine lv_sipush (v := 1080) hx hb dX0_init_5 (by decide) ?_
  refine va_newa (atype := .int) (ty := .int) (N' := 1080) (a0 := (1080, .inl (fun _ => 0))) hx hb (hts (.arrayClass .int) (by decide +kernel)) rfl hK hP hD hS hA (fun _ => rfl) (by decide) (by decide) (by decide) (Nat.le_of_ble_eq_true rfl) (Nat.le_of_ble_eq_true rfl) dX0_init_8 (fun r0 cA H hK hP hD hS => ?_)
  have hP : va_P D vwCl [(h0, .inr (0, [.null, .int 0, .int 0, .int 0, .int 0, .int 0])), (r0, .inl (cA, 1080, .inl (fun _ => 0)))] H := hP
  have hD : va_D A [(h0, .inr (0, [.null, .int 0, .int 0, .int 0, .int 0, .int 0])), (r0, .inl (cA, 1080, .inl (fun _ => 0)))] := hD
  have hK : va_K D vwCl [(cA, .int)] s := hK
  refine W.widen (k := 1) (n := 1080) (by omega) (by omega) ?_
  refine va_putF (D := D) (ci := 0) (v := .ref r0) (ty := .array .int) (C := RX0) (T := TX0) (N := 6) hx hb hts hin tyX0 tyX0_ok nmX0 hown hK hP hD hS 0 rfl rfl 0 (by decide) (hts (.fieldLink RX0 13 "SkewMelds" "row" "[I") (by decide +kernel)) (fun _ h9 => h9) rfl hnm rfl (by decide +kernel) rfl rfl (Nat.le_of_ble_eq_true rfl) dX0_init_10 (fun H locs hP hD hS => ?_)
  have G : gG D vwCl [(cA, .int)] A s (xw h0 r0 cA (fun _ => 0, 0, 0, 0, 0, 0)) H locs := ⟨hP, hD, hS, hK, hA⟩
  clear hP hD hS
  have loop2 : ∀ (n : Nat) (σ1 : Sx) (k : Int32) (H : Heap) (locs : List Loc) (ls : Array Slot), (k.toInt + 1).toNat < n → x_begin (y_giL n σ1 k) 2147483647 = x_new → gG D vwCl [(cA, .int)] A s (xw h0 r0 cA σ1) H locs → lv_has ls 2 [(0, .ref h0), (1, .int k)] →
      W p l e ({ frames := 2, cells := 1, slots := 1080, locals := 43 }) s m [.ref h0].toArray below meth c H locs 1 1080 (MQ below (va_Qv (fun _ : Nat × ClassId => True) (fun u t => va_P D vwCl (xw h0 u.1 u.2 x_new) t.heap ∧ va_K D vwCl [(u.2, .int)] t ∧ va_D A (xw h0 u.1 u.2 x_new)) A) [.ref h0].toArray s 1 1080 A) (F0 m 45 ls []) := by
    intro n
    induction n with
    | zero => intro σ1 k H locs ls hm; exact absurd hm (Nat.not_lt_zero _)
    | succ n ih =>
      intro σ1 k H locs ls hm hinv G hl
      refine lv_iload_n hx hb dX0_init_45 rfl (lv_at hl 1 rfl) ?_
      refine lv_if_lt (tgt := 60) hx hb dX0_init_46 (by decide) (fun c_1 => ?_) (fun c_1 => ?_)
      · refine lv_aload_n hx hb dX0_init_60 rfl (lv_at hl 0 rfl) ?_
        refine lv_ldc hx hb hown (hts (.constant RX0 29 (2147483647)) (by decide +kernel)) dX0_init_61 ?_
        refine x_callv (As := [.int (2147483647)]) (rest := []) ⟨hx, hb, hml, hown, hts⟩ (kX0_begin l D h0 r0 cA σ1 (2147483647)) (cwV 1 hts gX0_init_X0_begin rfl rfl rfl (by decide +kernel) ⟨Nat.le_of_ble_eq_true rfl, Nat.le_of_ble_eq_true rfl⟩) G rfl hl.1 rfl (Nat.le_of_ble_eq_true rfl) dX0_init_63 ⟨Nat.le_of_ble_eq_true rfl, Nat.le_of_ble_eq_true rfl⟩ (fun σ2 H locs e_2 G => ?_)
        have e3 : x_new = σ2 := by
          rw [← hinv, ← e_2]
          simp only [y_giL, c_1, ↓reduceIte]
        rw [← e3] at G
        exact W.vret hx hb hr (fun t ht hW => ⟨⟨(r0, cA), rfl, trivial, by rw [ht]; exact G.1, va_K.moved hW.alike G.2.2.2.1, G.2.1⟩, G.2.2.1.F ht⟩) G.2.2.1.2.2 dX0_init_66
      · refine lv_aload_n hx hb dX0_init_49 rfl (lv_at hl 0 rfl) ?_
        refine lv_iload_n hx hb dX0_init_50 rfl (lv_at hl 1 rfl) ?_
        refine x_callv (As := [.int k]) (rest := []) ⟨hx, hb, hml, hown, hts⟩ (kX0_giveBack l D h0 r0 cA σ1 k) (cwV 1 hts gX0_init_X0_giveBack rfl rfl rfl (by decide +kernel) ⟨Nat.le_of_ble_eq_true rfl, Nat.le_of_ble_eq_true rfl⟩) G rfl hl.1 rfl (Nat.le_of_ble_eq_true rfl) dX0_init_51 ⟨Nat.le_of_ble_eq_true rfl, Nat.le_of_ble_eq_true rfl⟩ (fun σ2 H locs e_2 G => ?_)
        obtain ⟨v, ev⟩ : ∃ y : Int32, y = k + (-1) := ⟨_, rfl⟩
        refine lv_iinc (v := v) (lv' := [(1, .int v), (0, .ref h0)]) hx hb dX0_init_54 hl (k := 1) rfl (by rw [ev]; rfl) (by decide) rfl (fun ls hl => ?_)
        refine lv_goto (tgt := 45) hx hb dX0_init_57 (by decide) ?_
        refine ih σ2 v _ _ _ ?_ ?_ G (lv_sub hl [1, 0] rfl)
        · have h1 : ¬ k.toInt < 0 := fun h => c_1 (Int32.lt_iff_toInt_lt.mpr h)
          have h2 := Int32.toInt_lt k
          have h3 : v.toInt = k.toInt - 1 := by
            rw [ev, Int32.toInt_add, show (-1 : Int32).toInt = -1 from rfl, Int.bmod_eq_of_le (by omega) (by omega)]
            omega
          omega
        · rw [← hinv, ← e_2, ev]
          simp only [y_giL, c_1, ↓reduceIte]
  have loop1 : ∀ (n : Nat) (σ1 : Sx) (k : Int32) (H : Heap) (locs : List Loc) (ls : Array Slot), ((1072 : Int32).toInt - k.toInt).toNat < n → x_begin (y_giL 201 (x_sF (y_inL n σ1 k) (-1)) 199) 2147483647 = x_new → gG D vwCl [(cA, .int)] A s (xw h0 r0 cA σ1) H locs → lv_has ls 2 [(0, .ref h0), (1, .int k)] →
      W p l e ({ frames := 2, cells := 1, slots := 1080, locals := 43 }) s m [.ref h0].toArray below meth c H locs 1 1080 (MQ below (va_Qv (fun _ : Nat × ClassId => True) (fun u t => va_P D vwCl (xw h0 u.1 u.2 x_new) t.heap ∧ va_K D vwCl [(u.2, .int)] t ∧ va_D A (xw h0 u.1 u.2 x_new)) A) [.ref h0].toArray s 1 1080 A) (F0 m 17 ls []) := by
    intro n
    induction n with
    | zero => intro σ1 k H locs ls hm; exact absurd hm (Nat.not_lt_zero _)
    | succ n ih =>
      intro σ1 k H locs ls hm hinv G hl
      refine lv_iload_n hx hb dX0_init_17 rfl (lv_at hl 1 rfl) ?_
      refine lv_sipush (v := 1072) hx hb dX0_init_18 (by decide) ?_
      refine lv_icmp_ge (tgt := 36) hx hb dX0_init_21 (by decide) (fun c_1 => ?_) (fun c_1 => ?_)
      · refine lv_aload_n hx hb dX0_init_36 rfl (lv_at hl 0 rfl) ?_
        refine lv_iconst (v := (-1)) hx hb dX0_init_37 (by decide) ?_
        refine g_put (C := RX0) (T := TX0) (N := 6) (ci := 0) (v := .int (-1)) (ty := .int) hx hb hts hin tyX0 tyX0_ok nmX0 hown G 0 rfl rfl 3 (by decide) (hts (.fieldLink RX0 21 "SkewMelds" "firstUnused" "I") (by decide +kernel)) rfl rfl (by decide +kernel) rfl rfl (Nat.le_of_ble_eq_true rfl) (xw h0 r0 cA (x_sF σ1 (-1))) rfl dX0_init_38 (fun H locs G => ?_)
        refine lv_sipush (v := 199) hx hb dX0_init_41 (by decide) ?_
        refine lv_istore_n (lv' := [(1, .int 199), (0, .ref h0)]) hx hb dX0_init_44 rfl hl (by decide) rfl (fun ls hl => ?_)
        refine loop2 201 (x_sF σ1 (-1)) 199 _ _ _ (by decide) ?_ G (lv_sub hl [1, 0] rfl)
        rw [← hinv]
        simp only [y_inL, c_1, ↓reduceIte]
      · refine lv_aload_n hx hb dX0_init_24 rfl (lv_at hl 0 rfl) ?_
        refine lv_iload_n hx hb dX0_init_25 rfl (lv_at hl 1 rfl) ?_
        refine lv_iconst (v := (-1)) hx hb dX0_init_26 (by decide) ?_
        refine x_callv (As := [.int k, .int (-1)]) (rest := []) ⟨hx, hb, hml, hown, hts⟩ (kX0_write l D h0 r0 cA σ1 k (-1)) (cwV 2 hts gX0_init_X0_write rfl rfl rfl (by decide +kernel) ⟨Nat.le_of_ble_eq_true rfl, Nat.le_of_ble_eq_true rfl⟩) G rfl hl.1 rfl (Nat.le_of_ble_eq_true rfl) dX0_init_27 ⟨Nat.le_of_ble_eq_true rfl, Nat.le_of_ble_eq_true rfl⟩ (fun σ2 H locs e_2 G => ?_)
        obtain ⟨v, ev⟩ : ∃ y : Int32, y = k + 1 := ⟨_, rfl⟩
        refine lv_iinc (v := v) (lv' := [(1, .int v), (0, .ref h0)]) hx hb dX0_init_30 hl (k := 1) rfl (by rw [ev]; rfl) (by decide) rfl (fun ls hl => ?_)
        refine lv_goto (tgt := 17) hx hb dX0_init_33 (by decide) ?_
        refine ih σ2 v _ _ _ ?_ ?_ G (lv_sub hl [1, 0] rfl)
        · rw [ev]
          exact Nat.lt_of_lt_of_le (x_meas c_1) (Nat.le_of_lt_succ hm)
        · rw [← hinv, ← e_2, ev]
          simp only [y_inL, c_1, ↓reduceIte]
  refine lv_sipush (v := 1000) hx hb dX0_init_13 (by decide) ?_
  refine lv_istore_n (lv' := [(1, .int 1000), (0, .ref h0)]) hx hb dX0_init_16 rfl hl (by decide) rfl (fun ls hl => ?_)
  exact loop1 73 _ 1000 _ _ _ (by decide) rfl G (lv_sub hl [1, 0] rfl)
end
section
/-! SkewMeldsModel as pure functions: the state is (heaps, used, owners, keys, told) -/
abbrev Sm : Type := Int32 × Int32 × (Nat → Int32) × (Nat → Int32) × (Nat → Int32)
def z_sH (μ : Sm) (v : Int32) : Sm := (v, μ.2.1, μ.2.2.1, μ.2.2.2.1, μ.2.2.2.2)
def z_sU (μ : Sm) (v : Int32) : Sm := (μ.1, v, μ.2.2.1, μ.2.2.2.1, μ.2.2.2.2)
def z_sO (μ : Sm) (i v : Int32) : Sm := (μ.1, μ.2.1, upd μ.2.2.1 i.toNatClampNeg v, μ.2.2.2.1, μ.2.2.2.2)
def z_sK (μ : Sm) (i v : Int32) : Sm := (μ.1, μ.2.1, μ.2.2.1, upd μ.2.2.2.1 i.toNatClampNeg v, μ.2.2.2.2)
def z_sT (μ : Sm) (i v : Int32) : Sm := (μ.1, μ.2.1, μ.2.2.1, μ.2.2.2.1, upd μ.2.2.2.2 i.toNatClampNeg (vp_nar .boolean v))
def z_is (μ : Sm) (h : Int32) : Int32 := if h < 0 then 0 else if μ.1 ≤ h then 0 else 1
def z_heap (μ : Sm) : Int32 × Sm := if μ.1 = 8 then (-1, μ) else ((z_sH μ (μ.1 + 1)).1 - 1, z_sH μ (μ.1 + 1))
def z_szL (μ : Sm) (h : Int32) : Nat → Int32 → Int32 → Int32
  | 0, n, _ => n
  | m + 1, n, k => if μ.2.1 ≤ k then n else if μ.2.2.1 k.toNatClampNeg = h then z_szL μ h m (n + 1) (k + 1) else z_szL μ h m (n + 0) (k + 1)
def z_size (μ : Sm) (h : Int32) : Int32 := z_szL μ h (μ.2.1.toInt.toNat + 1) 0 0
def z_add (μ : Sm) (h key : Int32) : Int32 × Sm :=
  if z_is μ h = 0 then (-1, μ) else if μ.2.1 = 200 then (-2, μ) else
    let m1 := z_sO μ μ.2.1 h
    let m2 := z_sK m1 m1.2.1 key
    let m3 := z_sU m2 (m2.2.1 + 1)
    (z_size m3 h, m3)
def z_plL (μ : Sm) (h : Int32) : Nat → Int32 → Int32 → Int32
  | 0, b, _ => b
  | m + 1, b, k =>
    if μ.2.1 ≤ k then b else
    if μ.2.2.1 k.toNatClampNeg = h then
      if μ.2.2.2.2 k.toNatClampNeg = 0 then
        if b < 0 then z_plL μ h m k (k + 1)
        else if μ.2.2.2.1 b.toNatClampNeg ≤ μ.2.2.2.1 k.toNatClampNeg then z_plL μ h m b (k + 1) else z_plL μ h m k (k + 1)
      else z_plL μ h m b (k + 1)
    else z_plL μ h m b (k + 1)
def z_place (μ : Sm) (h : Int32) : Int32 := z_plL μ h (μ.2.1.toInt.toNat + 1) (-1) 0
def z_unL : Nat → Sm → Int32 → Sm
  | 0, μ, _ => μ
  | m + 1, μ, k => if 200 ≤ k then μ else z_unL m (z_sT μ k 0) (k + 1)
def z_untell (μ : Sm) : Sm := z_unL 201 μ 0
def z_least (μ : Sm) (h : Int32) : Int64 × Sm :=
  let m1 := z_untell μ
  if z_is m1 h = 0 then (-9223372036854775808, m1) else
    if 0 ≤ z_place m1 h then ((m1.2.2.2.1 (z_place m1 h).toNatClampNeg).toInt64, m1) else (-9223372036854775808, m1)
def z_take (μ : Sm) (h : Int32) : Int64 × Sm :=
  let m1 := z_untell μ
  if z_is m1 h = 0 then (-9223372036854775808, m1) else
    if 0 ≤ z_place m1 h then
      let at_ := z_place m1 h
      let m2 := z_sU m1 (m1.2.1 - 1)
      let m3 := z_sO m2 at_ (m2.2.2.1 m2.2.1.toNatClampNeg)
      let m4 := z_sK m3 at_ (m3.2.2.2.1 m3.2.1.toNatClampNeg)
      ((m1.2.2.2.1 at_.toNatClampNeg).toInt64, m4)
    else (-9223372036854775808, m1)
def z_meL (to fr : Int32) : Nat → Sm → Int32 → Sm
  | 0, μ, _ => μ
  | m + 1, μ, k => if μ.2.1 ≤ k then μ else if μ.2.2.1 k.toNatClampNeg = fr then z_meL to fr m (z_sO μ k to) (k + 1) else z_meL to fr m (z_sO μ k (μ.2.2.1 k.toNatClampNeg)) (k + 1)
def z_meld (μ : Sm) (to fr : Int32) : Int32 × Sm :=
  if z_is μ to = 0 then (-1, μ) else if z_is μ fr = 0 then (-1, μ) else if to = fr then (-1, μ) else
    let m1 := z_meL to fr (μ.2.1.toInt.toNat + 1) μ 0
    (z_size m1 to, m1)
def z_sizeM (μ : Sm) (h : Int32) : Int32 × Sm := if z_is μ h = 0 then (-1, μ) else (z_size μ h, μ)
def z_keL (h k : Int32) : Nat → Sm → Int32 → Sm
  | 0, μ, _ => μ
  | m + 1, μ, i => if k ≤ i then μ else z_keL h k m (z_sT μ (z_place μ h) 1) (i + 1)
/-- all the places that key asks for are there -/
def z_keOk (h k : Int32) : Nat → Sm → Int32 → Prop
  | 0, _, _ => True
  | m + 1, μ, i => vp_in (z_place μ h) 200 ∧ (k ≤ i ∨ z_keOk h k m (z_sT μ (z_place μ h) 1) (i + 1))
def z_key (μ : Sm) (h k : Int32) : Int64 × Sm :=
  if z_is μ h = 0 then (-9223372036854775808, μ) else if k < 0 then (-9223372036854775808, μ) else
    if k < z_size μ h then
      let m1 := z_keL h k (k.toInt.toNat + 1) (z_untell μ) 0
      ((m1.2.2.2.1 (z_place m1 h).toNatClampNeg).toInt64, m1)
    else (-9223372036854775808, μ)
def z_suL (μ : Sm) (h : Int32) : Nat → Int64 → Int32 → Int64
  | 0, t, _ => t
  | m + 1, t, k => if μ.2.1 ≤ k then t else if z_is μ h = 0 then z_suL μ h m (t + 0) (k + 1) else if μ.2.2.1 k.toNatClampNeg = h then z_suL μ h m (t + (μ.2.2.2.1 k.toNatClampNeg).toInt64) (k + 1) else z_suL μ h m (t + 0) (k + 1)
def z_sum (μ : Sm) (h : Int32) : Int64 × Sm := (z_suL μ h (μ.2.1.toInt.toNat + 1) 0 0, μ)
def z_free (μ : Sm) : Int32 × Sm := (200 - μ.2.1, μ)
/-- used is in range -/
def Mok (μ : Sm) : Prop := 0 ≤ μ.2.1.toInt ∧ μ.2.1.toInt ≤ 200
theorem m_inb {μ : Sm} {k : Int32} (hm : Mok μ) (hk : 0 ≤ k.toInt) (h : ¬ μ.2.1 ≤ k) : vp_in k 200 := by
  rw [Int32.le_iff_toInt_le] at h
  have := hm.2
  exact vp_in_iff.mpr ⟨hk, by omega⟩
theorem m_in200 {k : Int32} (hk : 0 ≤ k.toInt) (h : ¬ 200 ≤ k) : vp_in k 200 := by
  rw [Int32.le_iff_toInt_le, show (200 : Int32).toInt = 200 from rfl] at h
  exact vp_in_iff.mpr ⟨hk, by omega⟩
theorem m_nn {B k : Int32} (hk : 0 ≤ k.toInt) (h : ¬ B ≤ k) : 0 ≤ (k + 1).toInt := by
  rw [Int32.le_iff_toInt_le] at h
  have h1 := Int32.toInt_lt B
  rw [Int32.toInt_add, show (1 : Int32).toInt = 1 from rfl, Int.bmod_eq_of_le (by omega) (by omega)]
  omega
theorem un_L : ∀ (m : Nat) (μ : Sm) (k : Int32), (z_unL m μ k).1 = μ.1 ∧ (z_unL m μ k).2.1 = μ.2.1 ∧ (z_unL m μ k).2.2.1 = μ.2.2.1 ∧ (z_unL m μ k).2.2.2.1 = μ.2.2.2.1 := by
  intro m
  induction m with
  | zero => intro μ k; exact ⟨rfl, rfl, rfl, rfl⟩
  | succ m ih =>
    intro μ k
    unfold z_unL
    split
    · exact ⟨rfl, rfl, rfl, rfl⟩
    · exact ih (z_sT μ k 0) (k + 1)
theorem un_ok {μ : Sm} (h : Mok μ) : Mok (z_untell μ) := by
  unfold Mok z_untell
  rw [(un_L 201 μ 0).2.1]
  exact h
/-- placeOf's place is -1 or below used -/
theorem pl_L {μ : Sm} {h : Int32} : ∀ (m : Nat) (b k : Int32), 0 ≤ k.toInt → -1 ≤ b.toInt → b.toInt < μ.2.1.toInt ∨ b.toInt < 0 → -1 ≤ (z_plL μ h m b k).toInt ∧ ((z_plL μ h m b k).toInt < μ.2.1.toInt ∨ (z_plL μ h m b k).toInt < 0) := by
  intro m
  induction m with
  | zero => intro b k _ h2 h3; exact ⟨h2, h3⟩
  | succ m ih =>
    intro b k h1 h2 h3
    unfold z_plL
    split
    · exact ⟨h2, h3⟩
    · rename_i hle
      have hn := m_nn h1 hle
      rw [Int32.le_iff_toInt_le] at hle
      split
      · split
        · split
          · exact ih k (k + 1) hn (by omega) (Or.inl (by omega))
          · split
            · exact ih b (k + 1) hn h2 h3
            · exact ih k (k + 1) hn (by omega) (Or.inl (by omega))
        · exact ih b (k + 1) hn h2 h3
      · exact ih b (k + 1) hn h2 h3
theorem pl_in {μ : Sm} {h : Int32} (hm : Mok μ) (hp : 0 ≤ z_place μ h) : vp_in (z_place μ h) 200 ∧ (z_place μ h).toInt < μ.2.1.toInt := by
  have h1 := pl_L (μ := μ) (h := h) (μ.2.1.toInt.toNat + 1) (-1) 0 (by decide) (by decide) (Or.inr (by decide))
  have h2 : 0 ≤ (z_place μ h).toInt := by
    have := Int32.le_iff_toInt_le.mp hp
    rw [show (0 : Int32).toInt = 0 from rfl] at this
    exact this
  have h3 : (z_place μ h).toInt < μ.2.1.toInt := by
    have := h1.2
    unfold z_place at h2 ⊢
    omega
  have := hm.2
  exact ⟨vp_in_iff.mpr ⟨h2, by omega⟩, h3⟩
theorem m_add {μ : Sm} (hm : Mok μ) (h : ¬ μ.2.1 = 200) : vp_in μ.2.1 200 ∧ μ.2.1.toInt < 200 := by
  have h1 : μ.2.1.toInt ≠ 200 := fun e => h (Int32.toInt_inj.mp (by rw [e]; rfl))
  have := hm.1
  have := hm.2
  exact ⟨vp_in_iff.mpr ⟨hm.1, by omega⟩, by omega⟩
theorem m_add1 {μ μ' : Sm} (hm : Mok μ) (h : ¬ μ.2.1 = 200) (e : μ'.2.1 = μ.2.1 + 1) : Mok μ' := by
  have h1 := (m_add hm h).2
  have h2 := hm.1
  have e2 : μ'.2.1.toInt = μ.2.1.toInt + 1 := by
    rw [e, Int32.toInt_add, show (1 : Int32).toInt = 1 from rfl, Int.bmod_eq_of_le (by omega) (by omega)]
  exact ⟨by omega, by omega⟩
theorem m_lt {μ : Sm} {k : Int32} (h : ¬ μ.2.1 ≤ k) : k.toInt < μ.2.1.toInt := by
  rw [Int32.le_iff_toInt_le] at h
  omega
theorem m_best {μ : Sm} {t : Int32} (hm : Mok μ) (h : t.toInt < μ.2.1.toInt ∨ t.toInt < 0) (c : ¬ t < 0) : vp_in t 200 := by
  rw [Int32.lt_iff_toInt_lt, show (0 : Int32).toInt = 0 from rfl] at c
  have := hm.2
  exact vp_in_iff.mpr ⟨by omega, by omega⟩
theorem m_pl {μ : Sm} {v h : Int32} (hm : Mok μ) (e : v = z_place μ h) (c : 0 ≤ v) : vp_in v 200 := by
  subst e
  exact (pl_in hm c).1
theorem m_pl1 {μ : Sm} {v h : Int32} (hm : Mok μ) (e : v = z_place μ h) (c : 0 ≤ v) : vp_in (μ.2.1 - 1) 200 := by
  subst e
  have h1 := (pl_in hm c).2
  have h2 := vp_in_iff.mp (pl_in hm c).1
  have h3 := hm.2
  have e2 : (μ.2.1 - 1).toInt = μ.2.1.toInt - 1 := by
    rw [Int32.toInt_sub, show (1 : Int32).toInt = 1 from rfl, Int.bmod_eq_of_le (by omega) (by omega)]
  exact vp_in_iff.mpr ⟨by omega, by omega⟩
/-- the reference's four cells -/
abbrev mw (m0 o0 k0 t0 : Nat) (cI cZ : ClassId) (μ : Sm) : va_W := [(m0, .inr (1, [.int μ.1, .int μ.2.1, .ref o0, .ref k0, .ref t0])), (o0, .inl (cI, 200, .inl μ.2.2.1)), (k0, .inl (cI, 200, .inl μ.2.2.2.1)), (t0, .inl (cZ, 200, .inl μ.2.2.2.2))]
theorem m_I {m0 o0 k0 t0 : Nat} {cI cZ : ClassId} {μ : Sm} : gI (mw m0 o0 k0 t0 cI cZ μ) (mw m0 o0 k0 t0 cI cZ μ) [] [0, 1, 2, 3] [] := ⟨rfl, rfl, rfl, rfl, fun i h => by simp at h⟩
section MC
variable {p : Program} {l : Launch} {e : Env} {R : Room} {s : State} {m : MethodId} {args : Array Value} {below : List Frame} {meth : Method} {c : Code} {H : Heap} {locs : List Loc} {cells slots : Nat} {Q : State → Prop}
variable {cc : ByteArray} {pc : Nat} {ls : Array Slot} {rest st0 : List Value} {D : va_G} {A : Nat → Prop} {m0 o0 k0 t0 : Nat} {cI cZ : ClassId} {μ : Sm}
variable {y : MethodName} {wz : List Cond} {rm : Room} {As : List Value} {bytes : ByteArray} {maxL nL n index : Nat} {ret : Option FieldType} {Ts : List Cond} {own : String}
theorem m_calli {post : Int32 → Sm → Prop} (S : CallFix p m c cc nL s args Ts own) (hM : gMi l y wz rm D vwCl [(cI, .int), (cZ, .boolean)] (.ref m0 :: As) (mw m0 o0 k0 t0 cI cZ) μ post) (cw : CallW R s args own RX1 index y bytes maxL ret wz rm 0 0 n)
    (G : gG D vwCl [(cI, .int), (cZ, .boolean)] A s (mw m0 o0 k0 t0 cI cZ μ) H locs) (hlen : As.length = n) (hls : ls.size = nL) (hst : st0 = As.reverse ++ .ref m0 :: rest) (hW : (rest.map fun v => v.category).sum ≤ 8) (hdg : decode cc pc = .ok (.invokevirtual index, 3)) (hf : cells ≤ R.cells ∧ slots ≤ R.slots)
    (kk : ∀ (r : Int32) (μ' : Sm) (H1 : Heap) (locs1 : List Loc), post r μ' → gG D vwCl [(cI, .int), (cZ, .boolean)] A s (mw m0 o0 k0 t0 cI cZ μ') H1 locs1 → W p l e R s m args below meth c H1 locs1 cells slots Q (F0 m (pc + 3) ls (.int r :: rest))) :
    W p l e R s m args below meth c H locs cells slots Q (F0 m pc ls st0) :=
  g_calli S hM cw G G.2.2.2.1 [0, 1, 2, 3] [] m_I (va_recv G.2.2.2.1 G.1 (ci := 1) (q0 := 0) rfl rfl) hlen hls hst hW hdg hf (fun r u' H1 locs1 hp hG => kk r u' H1 locs1 hp hG)
theorem m_callv {post : Sm → Prop} (S : CallFix p m c cc nL s args Ts own) (hM : gMv l y wz rm D vwCl [(cI, .int), (cZ, .boolean)] (.ref m0 :: As) (mw m0 o0 k0 t0 cI cZ) μ post) (cw : CallW R s args own RX1 index y bytes maxL ret wz rm 0 0 n)
    (G : gG D vwCl [(cI, .int), (cZ, .boolean)] A s (mw m0 o0 k0 t0 cI cZ μ) H locs) (hlen : As.length = n) (hls : ls.size = nL) (hst : st0 = As.reverse ++ .ref m0 :: rest) (hW : (rest.map fun v => v.category).sum ≤ 8) (hdg : decode cc pc = .ok (.invokevirtual index, 3)) (hf : cells ≤ R.cells ∧ slots ≤ R.slots)
    (kk : ∀ (μ' : Sm) (H1 : Heap) (locs1 : List Loc), post μ' → gG D vwCl [(cI, .int), (cZ, .boolean)] A s (mw m0 o0 k0 t0 cI cZ μ') H1 locs1 → W p l e R s m args below meth c H1 locs1 cells slots Q (F0 m (pc + 3) ls rest)) :
    W p l e R s m args below meth c H locs cells slots Q (F0 m pc ls st0) :=
  g_callv S hM cw G G.2.2.2.1 [0, 1, 2, 3] [] m_I (va_recv G.2.2.2.1 G.1 (ci := 1) (q0 := 0) rfl rfl) hlen hls hst hW hdg hf (fun u' H1 locs1 hp hG => kk u' H1 locs1 hp hG)
theorem g_zld {a : Nat} {ws : va_W} {tys : List (ClassId × FieldType)} {cl : List vw_C} (hexec : p.tables.exec = Jvm.exec) (hb : c.code = cc) (G : gG D cl tys A s ws H locs) (q0 t0 : Nat) {cA : ClassId} {n : Nat} {f : Nat → Int32} (ha : ws[q0]? = some (a, .inl (cA, n, .inl f))) (ht : tys[t0]? = some (cA, .boolean)) {i : Int32} (hin : vp_in i n) (hdg : decode cc pc = .ok (.baload, 1))
    (kk : W p l e R s m args below meth c H locs cells slots Q (F0 m (pc + 1) ls (.int (f i.toNatClampNeg) :: rest))) : W p l e R s m args below meth c H locs cells slots Q (F0 m pc ls (.int i :: .ref a :: rest)) :=
  va_zald hexec hb G.2.2.2.1 G.1 q0 t0 ha ht hin hdg kk
theorem g_zst {a : Nat} {ws : va_W} {tys : List (ClassId × FieldType)} {cl : List vw_C} (hexec : p.tables.exec = Jvm.exec) (hb : c.code = cc) (G : gG D cl tys A s ws H locs) (q0 t0 : Nat) {cA : ClassId} {n : Nat} {f : Nat → Int32} (ha : ws[q0]? = some (a, .inl (cA, n, .inl f))) (ht : tys[t0]? = some (cA, .boolean)) {i x : Int32} (hin : vp_in i n) (ws' : va_W) (hset : ws.set q0 (a, .inl (cA, n, .inl (upd f i.toNatClampNeg (vp_nar .boolean x)))) = ws') (hdg : decode cc pc = .ok (.bastore, 1))
    (kk : ∀ (H1 : Heap) (locs1 : List Loc), gG D cl tys A s ws' H1 locs1 → W p l e R s m args below meth c H1 locs1 cells slots Q (F0 m (pc + 1) ls rest)) : W p l e R s m args below meth c H locs cells slots Q (F0 m pc ls (.int x :: .int i :: .ref a :: rest)) := by
  subst hset
  exact va_zast hexec hb G.2.2.2.1 G.1 G.2.1 G.2.2.1 q0 t0 ha ht hin hdg (fun H1 locs1 h1 h2 h3 => kk H1 locs1 ⟨h1, h2, h3, G.2.2.2.1, G.2.2.2.2⟩)
end MC
end
section
set_option maxHeartbeats 4000000 in
set_option maxRecDepth 100000 in
theorem kX1_isHeap (l : Launch) (D : va_G) (m0 o0 k0 t0 : Nat) (cI cZ : ClassId) (μ : Sm) (a0 : Int32) : gMi l yX1_isHeap wsX1_isHeap ({ frames := 0, cells := 0, slots := 0, locals := 0 }) D vwCl [(cI, .int), (cZ, .boolean)] [.ref m0, .int a0] (mw m0 o0 k0 t0 cI cZ) μ (fun r μ' => z_is μ a0 = r ∧ μ = μ') := by
  refine gMi_of (cc := cX1_isHeap) (maxL := 2) (ret := (some .boolean)) (by decide) rfl (Nat.le_of_ble_eq_true rfl) ?_
  intro p e s m below meth c A ls E G hl
  obtain ⟨hx, hb, hml, hr, hlocks, hown, hts, -, -⟩ := id E
  have hin : ∀ w ∈ wsX10, w ∈ wsX1_isHeap := fun w h => List.mem_cons_of_mem _ (List.mem_append_right _ h)
  have hl : lv_has ls 2 [(0, .ref m0), (1, .int a0)] := hl
  refine lv_iload_n hx hb dX1_isHeap_0 rfl (lv_at hl 1 rfl) ?_
  refine lv_if_lt (tgt := 16) hx hb dX1_isHeap_1 (by decide) (fun c_1 => ?_) (fun c_1 => ?_)
  · refine lv_iconst (v := 0) hx hb dX1_isHeap_16 (by decide) ?_
    exact g_zret (u := μ) E G (by decide) (⟨by (simp only [z_is, c_1, ↓reduceIte]) <;> rfl, rfl⟩) dX1_isHeap_17
  · refine lv_iload_n hx hb dX1_isHeap_4 rfl (lv_at hl 1 rfl) ?_
    refine lv_aload_n hx hb dX1_isHeap_5 rfl (lv_at hl 0 rfl) ?_
    refine g_get (C := RX1) (T := TX1) (N := 5) (ci := 1) (v := .int μ.1) hx hb hts hin hown G 0 rfl rfl 0 (by decide) (hts (.fieldLink RX1 20 "SkewMeldsModel" "heaps" "I") (by decide +kernel)) rfl rfl dX1_isHeap_6 ?_
    refine lv_icmp_ge (tgt := 16) hx hb dX1_isHeap_9 (by decide) (fun c_2 => ?_) (fun c_2 => ?_)
    · refine lv_iconst (v := 0) hx hb dX1_isHeap_16 (by decide) ?_
      exact g_zret (u := μ) E G (by decide) (⟨by (simp only [z_is, c_1, c_2, ↓reduceIte]) <;> rfl, rfl⟩) dX1_isHeap_17
    · refine lv_iconst (v := 1) hx hb dX1_isHeap_12 (by decide) ?_
      refine lv_goto (tgt := 17) hx hb dX1_isHeap_13 (by decide) ?_
      exact g_zret (u := μ) E G (by decide) (⟨by (simp only [z_is, c_1, c_2, ↓reduceIte]) <;> rfl, rfl⟩) dX1_isHeap_17

set_option maxHeartbeats 4000000 in
set_option maxRecDepth 100000 in
theorem kX1_heap (l : Launch) (D : va_G) (m0 o0 k0 t0 : Nat) (cI cZ : ClassId) (μ : Sm) : gMi l yX1_heap wsX1_heap ({ frames := 0, cells := 0, slots := 0, locals := 0 }) D vwCl [(cI, .int), (cZ, .boolean)] [.ref m0] (mw m0 o0 k0 t0 cI cZ) μ (fun r μ' => z_heap μ = (r, μ')) := by
  refine gMi_of (cc := cX1_heap) (maxL := 1) (ret := (some .int)) (by decide) rfl (Nat.le_of_ble_eq_true rfl) ?_
  intro p e s m below meth c A ls E G hl
  obtain ⟨hx, hb, hml, hr, hlocks, hown, hts, -, -⟩ := id E
  have hin : ∀ w ∈ wsX10, w ∈ wsX1_heap := fun w h => List.mem_cons_of_mem _ (List.mem_append_right _ h)
  have hl : lv_has ls 1 [(0, .ref m0)] := hl
  refine lv_aload_n hx hb dX1_heap_0 rfl (lv_at hl 0 rfl) ?_
  refine g_get (C := RX1) (T := TX1) (N := 5) (ci := 1) (v := .int μ.1) hx hb hts hin hown G 0 rfl rfl 0 (by decide) (hts (.fieldLink RX1 20 "SkewMeldsModel" "heaps" "I") (by decide +kernel)) rfl rfl dX1_heap_1 ?_
  refine lv_bipush (v := 8) hx hb dX1_heap_4 (by decide) ?_
  refine lv_icmp_ne (tgt := 11) hx hb dX1_heap_6 (by decide) (fun c_1 => ?_) (fun c_1 => ?_)
  · refine lv_aload_n hx hb dX1_heap_11 rfl (lv_at hl 0 rfl) ?_
    refine lv_dup hx hb dX1_heap_12 rfl ?_
    refine g_get (C := RX1) (T := TX1) (N := 5) (ci := 1) (v := .int μ.1) hx hb hts hin hown G 0 rfl rfl 0 (by decide) (hts (.fieldLink RX1 20 "SkewMeldsModel" "heaps" "I") (by decide +kernel)) rfl rfl dX1_heap_13 ?_
    refine lv_iconst (v := 1) hx hb dX1_heap_16 (by decide) ?_
    refine lv_iadd hx hb dX1_heap_17 ?_
    refine g_put (C := RX1) (T := TX1) (N := 5) (ci := 1) (v := .int (μ.1 + 1)) (ty := .int) hx hb hts hin tyX1 tyX1_ok nmX1 hown G 0 rfl rfl 0 (by decide) (hts (.fieldLink RX1 20 "SkewMeldsModel" "heaps" "I") (by decide +kernel)) rfl rfl (by decide +kernel) rfl rfl (Nat.le_of_ble_eq_true rfl) (mw m0 o0 k0 t0 cI cZ (z_sH μ (μ.1 + 1))) rfl dX1_heap_18 (fun H locs G => ?_)
    refine lv_aload_n hx hb dX1_heap_21 rfl (lv_at hl 0 rfl) ?_
    refine g_get (C := RX1) (T := TX1) (N := 5) (ci := 1) (v := .int (z_sH μ (μ.1 + 1)).1) hx hb hts hin hown G 0 rfl rfl 0 (by decide) (hts (.fieldLink RX1 20 "SkewMeldsModel" "heaps" "I") (by decide +kernel)) rfl rfl dX1_heap_22 ?_
    refine lv_iconst (v := 1) hx hb dX1_heap_25 (by decide) ?_
    refine lv_isub hx hb dX1_heap_26 ?_
    exact g_iret (u := (z_sH μ (μ.1 + 1))) E G (by (simp only [z_heap, c_1, ↓reduceIte]) <;> rfl) dX1_heap_27
  · refine lv_iconst (v := (-1)) hx hb dX1_heap_9 (by decide) ?_
    exact g_iret (u := μ) E G (by (simp only [z_heap, c_1, ↓reduceIte]) <;> rfl) dX1_heap_10

set_option maxHeartbeats 4000000 in
set_option maxRecDepth 100000 in
theorem kX1_sizeOf (l : Launch) (D : va_G) (m0 o0 k0 t0 : Nat) (cI cZ : ClassId) (μ : Sm) (a0 : Int32) (hm : Mok μ) : gMi l yX1_sizeOf wsX1_sizeOf ({ frames := 0, cells := 0, slots := 0, locals := 0 }) D vwCl [(cI, .int), (cZ, .boolean)] [.ref m0, .int a0] (mw m0 o0 k0 t0 cI cZ) μ (fun r μ' => z_size μ a0 = r ∧ μ = μ') := by
  refine gMi_of (cc := cX1_sizeOf) (maxL := 4) (ret := (some .int)) (by decide) rfl (Nat.le_of_ble_eq_true rfl) ?_
  intro p e s m below meth c A ls E G hl
  obtain ⟨hx, hb, hml, hr, hlocks, hown, hts, -, -⟩ := id E
  have hin : ∀ w ∈ wsX10, w ∈ wsX1_sizeOf := fun w h => List.mem_cons_of_mem _ (List.mem_append_right _ h)
  have hl : lv_has ls 4 [(0, .ref m0), (1, .int a0)] := hl
  have loop : ∀ (n : Nat) (t : Int32) (k : Int32) (H : Heap) (locs : List Loc) (ls : Array Slot), (μ.2.1.toInt - k.toInt).toNat < n → z_szL μ a0 n t k = z_size μ a0 → 0 ≤ k.toInt → gG D vwCl [(cI, .int), (cZ, .boolean)] A s (mw m0 o0 k0 t0 cI cZ μ) H locs → lv_has ls 4 [(0, .ref m0), (1, .int a0), (2, .int t), (3, .int k)] → W p l e ({ frames := 0, cells := 0, slots := 0, locals := 0 }) s m [.ref m0, .int a0].toArray below meth c H locs 0 0 (MQ below (va_Qi (fun r μ' => z_size μ a0 = r ∧ μ = μ') (gB D vwCl [(cI, .int), (cZ, .boolean)] A (mw m0 o0 k0 t0 cI cZ)) A) [.ref m0, .int a0].toArray s 0 0 A) (F0 m 4 ls []) := by
    intro n
    induction n with
    | zero => intro t k H locs ls hm9; exact absurd hm9 (Nat.not_lt_zero _)
    | succ n ih =>
      intro t k H locs ls hm9 hinv hx0 G hl
      refine lv_iload_n hx hb dX1_sizeOf_4 rfl (lv_at hl 3 rfl) ?_
      refine lv_aload_n hx hb dX1_sizeOf_5 rfl (lv_at hl 0 rfl) ?_
      refine g_get (C := RX1) (T := TX1) (N := 5) (ci := 1) (v := .int μ.2.1) hx hb hts hin hown G 0 rfl rfl 1 (by decide) (hts (.fieldLink RX1 24 "SkewMeldsModel" "used" "I") (by decide +kernel)) rfl rfl dX1_sizeOf_6 ?_
      refine lv_icmp_ge (tgt := 36) hx hb dX1_sizeOf_9 (by decide) (fun c_1 => ?_) (fun c_1 => ?_)
      · refine lv_iload_n hx hb dX1_sizeOf_36 rfl (lv_at hl 2 rfl) ?_
        exact g_iret (u := μ) E G (⟨by rw [← hinv]; (simp only [z_szL, c_1, ↓reduceIte]) <;> rfl, rfl⟩) dX1_sizeOf_37
      · refine lv_iload_n hx hb dX1_sizeOf_12 rfl (lv_at hl 2 rfl) ?_
        refine lv_aload_n hx hb dX1_sizeOf_13 rfl (lv_at hl 0 rfl) ?_
        refine g_get (C := RX1) (T := TX1) (N := 5) (ci := 1) (v := .ref o0) hx hb hts hin hown G 0 rfl rfl 2 (by decide) (hts (.fieldLink RX1 7 "SkewMeldsModel" "owners" "[I") (by decide +kernel)) rfl rfl dX1_sizeOf_14 ?_
        refine lv_iload_n hx hb dX1_sizeOf_17 rfl (lv_at hl 3 rfl) ?_
        refine g_ild hx hb G 1 0 rfl rfl (m_inb hm hx0 c_1) dX1_sizeOf_18 ?_
        refine lv_iload_n hx hb dX1_sizeOf_19 rfl (lv_at hl 1 rfl) ?_
        refine lv_icmp_ne (tgt := 27) hx hb dX1_sizeOf_20 (by decide) (fun c_2 => ?_) (fun c_2 => ?_)
        · refine lv_iconst (v := 0) hx hb dX1_sizeOf_27 (by decide) ?_
          refine lv_iadd hx hb dX1_sizeOf_28 ?_
          refine lv_topi (fun v_3 ev_3 => ?_)
          refine lv_istore_n (lv' := [(2, .int v_3), (0, .ref m0), (1, .int a0), (3, .int k)]) hx hb dX1_sizeOf_29 rfl hl (by decide) rfl (fun ls hl => ?_)
          obtain ⟨v_4, ev_4⟩ : ∃ y : Int32, y = k + 1 := ⟨_, rfl⟩
          refine lv_iinc (v := v_4) (lv' := [(3, .int v_4), (2, .int v_3), (0, .ref m0), (1, .int a0)]) hx hb dX1_sizeOf_30 hl (k := 3) rfl (by rw [ev_4]; rfl) (by decide) rfl (fun ls hl => ?_)
          refine lv_goto (tgt := 4) hx hb dX1_sizeOf_33 (by decide) ?_
          exact ih  v_3 v_4 _ _ _ (by subst ev_4; subst ev_3; exact Nat.lt_of_lt_of_le (x_meas c_1) (Nat.le_of_lt_succ hm9)) (by subst ev_4; subst ev_3; rw [← hinv]; (simp only [z_szL, c_1, c_2, ↓reduceIte]) <;> rfl) (by subst ev_4; subst ev_3; exact m_nn hx0 c_1) G (lv_sub hl [2, 3, 1, 0] rfl)
        · refine lv_iconst (v := 1) hx hb dX1_sizeOf_23 (by decide) ?_
          refine lv_goto (tgt := 28) hx hb dX1_sizeOf_24 (by decide) ?_
          refine lv_iadd hx hb dX1_sizeOf_28 ?_
          refine lv_topi (fun v_5 ev_5 => ?_)
          refine lv_istore_n (lv' := [(2, .int v_5), (0, .ref m0), (1, .int a0), (3, .int k)]) hx hb dX1_sizeOf_29 rfl hl (by decide) rfl (fun ls hl => ?_)
          obtain ⟨v_6, ev_6⟩ : ∃ y : Int32, y = k + 1 := ⟨_, rfl⟩
          refine lv_iinc (v := v_6) (lv' := [(3, .int v_6), (2, .int v_5), (0, .ref m0), (1, .int a0)]) hx hb dX1_sizeOf_30 hl (k := 3) rfl (by rw [ev_6]; rfl) (by decide) rfl (fun ls hl => ?_)
          refine lv_goto (tgt := 4) hx hb dX1_sizeOf_33 (by decide) ?_
          exact ih  v_5 v_6 _ _ _ (by subst ev_6; subst ev_5; exact Nat.lt_of_lt_of_le (x_meas c_1) (Nat.le_of_lt_succ hm9)) (by subst ev_6; subst ev_5; rw [← hinv]; (simp only [z_szL, c_1, if_pos c_2, ↓reduceIte]) <;> rfl) (by subst ev_6; subst ev_5; exact m_nn hx0 c_1) G (lv_sub hl [2, 3, 1, 0] rfl)
  refine lv_iconst (v := 0) hx hb dX1_sizeOf_0 (by decide) ?_
  refine lv_istore_n (lv' := [(2, .int 0), (0, .ref m0), (1, .int a0)]) hx hb dX1_sizeOf_1 rfl hl (by decide) rfl (fun ls hl => ?_)
  refine lv_iconst (v := 0) hx hb dX1_sizeOf_2 (by decide) ?_
  refine lv_istore_n (lv' := [(3, .int 0), (2, .int 0), (0, .ref m0), (1, .int a0)]) hx hb dX1_sizeOf_3 rfl hl (by decide) rfl (fun ls hl => ?_)
  exact loop (μ.2.1.toInt.toNat + 1)  0 0 _ _ _ (x_meas0) (by (simp only [z_size, ↓reduceIte]) <;> rfl) (by decide) G (lv_sub hl [2, 3, 1, 0] rfl)

set_option maxHeartbeats 4000000 in
set_option maxRecDepth 100000 in
theorem kX1_add (l : Launch) (D : va_G) (m0 o0 k0 t0 : Nat) (cI cZ : ClassId) (μ : Sm) (a0 : Int32) (a1 : Int32) (hm : Mok μ) : gMi l yX1_add wsX1_add ({ frames := 1, cells := 0, slots := 0, locals := 23 }) D vwCl [(cI, .int), (cZ, .boolean)] [.ref m0, .int a0, .int a1] (mw m0 o0 k0 t0 cI cZ) μ (fun r μ' => z_add μ a0 a1 = (r, μ')) := by
  refine gMi_of (cc := cX1_add) (maxL := 3) (ret := (some .int)) (by decide) rfl (Nat.le_of_ble_eq_true rfl) ?_
  intro p e s m below meth c A ls E G hl
  obtain ⟨hx, hb, hml, hr, hlocks, hown, hts, -, -⟩ := id E
  have hin : ∀ w ∈ wsX10, w ∈ wsX1_add := fun w h => List.mem_cons_of_mem _ (List.mem_append_right _ h)
  have hl : lv_has ls 3 [(0, .ref m0), (1, .int a0), (2, .int a1)] := hl
  refine lv_aload_n hx hb dX1_add_0 rfl (lv_at hl 0 rfl) ?_
  refine lv_iload_n hx hb dX1_add_1 rfl (lv_at hl 1 rfl) ?_
  refine m_calli (As := [.int a0]) (rest := []) ⟨hx, hb, hml, hown, hts⟩ (kX1_isHeap l D m0 o0 k0 t0 cI cZ μ a0) (cwV 1 hts gX1_add_X1_isHeap rfl rfl rfl (by decide +kernel) ⟨Nat.le_of_ble_eq_true rfl, Nat.le_of_ble_eq_true rfl⟩) G rfl hl.1 rfl (Nat.le_of_ble_eq_true rfl) dX1_add_2 ⟨Nat.zero_le _, Nat.zero_le _⟩ (fun r_1 σ_2 H locs e_3 G => ?_)
  obtain ⟨rfl, rfl⟩ := e_3
  refine lv_if_ne (tgt := 10) hx hb dX1_add_5 (by decide) (fun c_4 => ?_) (fun c_4 => ?_)
  · refine lv_aload_n hx hb dX1_add_10 rfl (lv_at hl 0 rfl) ?_
    refine g_get (C := RX1) (T := TX1) (N := 5) (ci := 1) (v := .int μ.2.1) hx hb hts hin hown G 0 rfl rfl 1 (by decide) (hts (.fieldLink RX1 24 "SkewMeldsModel" "used" "I") (by decide +kernel)) rfl rfl dX1_add_11 ?_
    refine lv_sipush (v := 200) hx hb dX1_add_14 (by decide) ?_
    refine lv_icmp_ne (tgt := 23) hx hb dX1_add_17 (by decide) (fun c_5 => ?_) (fun c_5 => ?_)
    · refine lv_aload_n hx hb dX1_add_23 rfl (lv_at hl 0 rfl) ?_
      refine g_get (C := RX1) (T := TX1) (N := 5) (ci := 1) (v := .ref o0) hx hb hts hin hown G 0 rfl rfl 2 (by decide) (hts (.fieldLink RX1 7 "SkewMeldsModel" "owners" "[I") (by decide +kernel)) rfl rfl dX1_add_24 ?_
      refine lv_aload_n hx hb dX1_add_27 rfl (lv_at hl 0 rfl) ?_
      refine g_get (C := RX1) (T := TX1) (N := 5) (ci := 1) (v := .int μ.2.1) hx hb hts hin hown G 0 rfl rfl 1 (by decide) (hts (.fieldLink RX1 24 "SkewMeldsModel" "used" "I") (by decide +kernel)) rfl rfl dX1_add_28 ?_
      refine lv_iload_n hx hb dX1_add_31 rfl (lv_at hl 1 rfl) ?_
      refine g_ist hx hb G 1 0 rfl rfl ((m_add hm c_5).1) (mw m0 o0 k0 t0 cI cZ (z_sO μ μ.2.1 a0)) rfl dX1_add_32 (fun H locs G => ?_)
      refine lv_aload_n hx hb dX1_add_33 rfl (lv_at hl 0 rfl) ?_
      refine g_get (C := RX1) (T := TX1) (N := 5) (ci := 1) (v := .ref k0) hx hb hts hin hown G 0 rfl rfl 3 (by decide) (hts (.fieldLink RX1 13 "SkewMeldsModel" "keys" "[I") (by decide +kernel)) rfl rfl dX1_add_34 ?_
      refine lv_aload_n hx hb dX1_add_37 rfl (lv_at hl 0 rfl) ?_
      refine g_get (C := RX1) (T := TX1) (N := 5) (ci := 1) (v := .int (z_sO μ μ.2.1 a0).2.1) hx hb hts hin hown G 0 rfl rfl 1 (by decide) (hts (.fieldLink RX1 24 "SkewMeldsModel" "used" "I") (by decide +kernel)) rfl rfl dX1_add_38 ?_
      refine lv_iload_n hx hb dX1_add_41 rfl (lv_at hl 2 rfl) ?_
      refine g_ist hx hb G 2 0 rfl rfl ((m_add hm c_5).1) (mw m0 o0 k0 t0 cI cZ (z_sK (z_sO μ μ.2.1 a0) ((z_sO μ μ.2.1 a0).2.1) a1)) rfl dX1_add_42 (fun H locs G => ?_)
      refine lv_aload_n hx hb dX1_add_43 rfl (lv_at hl 0 rfl) ?_
      refine lv_dup hx hb dX1_add_44 rfl ?_
      refine g_get (C := RX1) (T := TX1) (N := 5) (ci := 1) (v := .int (z_sK (z_sO μ μ.2.1 a0) ((z_sO μ μ.2.1 a0).2.1) a1).2.1) hx hb hts hin hown G 0 rfl rfl 1 (by decide) (hts (.fieldLink RX1 24 "SkewMeldsModel" "used" "I") (by decide +kernel)) rfl rfl dX1_add_45 ?_
      refine lv_iconst (v := 1) hx hb dX1_add_48 (by decide) ?_
      refine lv_iadd hx hb dX1_add_49 ?_
      refine g_put (C := RX1) (T := TX1) (N := 5) (ci := 1) (v := .int ((z_sK (z_sO μ μ.2.1 a0) ((z_sO μ μ.2.1 a0).2.1) a1).2.1 + 1)) (ty := .int) hx hb hts hin tyX1 tyX1_ok nmX1 hown G 0 rfl rfl 1 (by decide) (hts (.fieldLink RX1 24 "SkewMeldsModel" "used" "I") (by decide +kernel)) rfl rfl (by decide +kernel) rfl rfl (Nat.le_of_ble_eq_true rfl) (mw m0 o0 k0 t0 cI cZ (z_sU (z_sK (z_sO μ μ.2.1 a0) ((z_sO μ μ.2.1 a0).2.1) a1) ((z_sK (z_sO μ μ.2.1 a0) ((z_sO μ μ.2.1 a0).2.1) a1).2.1 + 1))) rfl dX1_add_50 (fun H locs G => ?_)
      refine lv_aload_n hx hb dX1_add_53 rfl (lv_at hl 0 rfl) ?_
      refine lv_iload_n hx hb dX1_add_54 rfl (lv_at hl 1 rfl) ?_
      refine m_calli (As := [.int a0]) (rest := []) ⟨hx, hb, hml, hown, hts⟩ (kX1_sizeOf l D m0 o0 k0 t0 cI cZ (z_sU (z_sK (z_sO μ μ.2.1 a0) ((z_sO μ μ.2.1 a0).2.1) a1) ((z_sK (z_sO μ μ.2.1 a0) ((z_sO μ μ.2.1 a0).2.1) a1).2.1 + 1)) a0 (m_add1 hm c_5 rfl)) (cwV 1 hts gX1_add_X1_sizeOf rfl rfl rfl (by decide +kernel) ⟨Nat.le_of_ble_eq_true rfl, Nat.le_of_ble_eq_true rfl⟩) G rfl hl.1 rfl (Nat.le_of_ble_eq_true rfl) dX1_add_55 ⟨Nat.zero_le _, Nat.zero_le _⟩ (fun r_6 σ_7 H locs e_8 G => ?_)
      obtain ⟨rfl, rfl⟩ := e_8
      exact g_iret (u := (z_sU (z_sK (z_sO μ μ.2.1 a0) ((z_sO μ μ.2.1 a0).2.1) a1) ((z_sK (z_sO μ μ.2.1 a0) ((z_sO μ μ.2.1 a0).2.1) a1).2.1 + 1))) E G (by (simp only [z_add, c_4, c_5, ↓reduceIte]) <;> rfl) dX1_add_58
    · refine lv_bipush (v := (-2)) hx hb dX1_add_20 (by decide) ?_
      exact g_iret (u := μ) E G (by (simp only [z_add, c_4, c_5, ↓reduceIte]) <;> rfl) dX1_add_22
  · refine lv_iconst (v := (-1)) hx hb dX1_add_8 (by decide) ?_
    exact g_iret (u := μ) E G (by (simp only [z_add, c_4, ↓reduceIte]) <;> rfl) dX1_add_9

set_option maxHeartbeats 4000000 in
set_option maxRecDepth 100000 in
theorem kX1_placeOf (l : Launch) (D : va_G) (m0 o0 k0 t0 : Nat) (cI cZ : ClassId) (μ : Sm) (a0 : Int32) (hm : Mok μ) : gMi l yX1_placeOf wsX1_placeOf ({ frames := 0, cells := 0, slots := 0, locals := 0 }) D vwCl [(cI, .int), (cZ, .boolean)] [.ref m0, .int a0] (mw m0 o0 k0 t0 cI cZ) μ (fun r μ' => z_place μ a0 = r ∧ μ = μ') := by
  refine gMi_of (cc := cX1_placeOf) (maxL := 4) (ret := (some .int)) (by decide) rfl (Nat.le_of_ble_eq_true rfl) ?_
  intro p e s m below meth c A ls E G hl
  obtain ⟨hx, hb, hml, hr, hlocks, hown, hts, -, -⟩ := id E
  have hin : ∀ w ∈ wsX10, w ∈ wsX1_placeOf := fun w h => List.mem_cons_of_mem _ (List.mem_append_right _ h)
  have hl : lv_has ls 4 [(0, .ref m0), (1, .int a0)] := hl
  have loop : ∀ (n : Nat) (t : Int32) (k : Int32) (H : Heap) (locs : List Loc) (ls : Array Slot), (μ.2.1.toInt - k.toInt).toNat < n → z_plL μ a0 n t k = z_place μ a0 → 0 ≤ k.toInt → t.toInt < μ.2.1.toInt ∨ t.toInt < 0 → gG D vwCl [(cI, .int), (cZ, .boolean)] A s (mw m0 o0 k0 t0 cI cZ μ) H locs → lv_has ls 4 [(0, .ref m0), (1, .int a0), (2, .int t), (3, .int k)] → W p l e ({ frames := 0, cells := 0, slots := 0, locals := 0 }) s m [.ref m0, .int a0].toArray below meth c H locs 0 0 (MQ below (va_Qi (fun r μ' => z_place μ a0 = r ∧ μ = μ') (gB D vwCl [(cI, .int), (cZ, .boolean)] A (mw m0 o0 k0 t0 cI cZ)) A) [.ref m0, .int a0].toArray s 0 0 A) (F0 m 4 ls []) := by
    intro n
    induction n with
    | zero => intro t k H locs ls hm9; exact absurd hm9 (Nat.not_lt_zero _)
    | succ n ih =>
      intro t k H locs ls hm9 hinv hx0 hx1 G hl
      refine lv_iload_n hx hb dX1_placeOf_4 rfl (lv_at hl 3 rfl) ?_
      refine lv_aload_n hx hb dX1_placeOf_5 rfl (lv_at hl 0 rfl) ?_
      refine g_get (C := RX1) (T := TX1) (N := 5) (ci := 1) (v := .int μ.2.1) hx hb hts hin hown G 0 rfl rfl 1 (by decide) (hts (.fieldLink RX1 24 "SkewMeldsModel" "used" "I") (by decide +kernel)) rfl rfl dX1_placeOf_6 ?_
      refine lv_icmp_ge (tgt := 62) hx hb dX1_placeOf_9 (by decide) (fun c_1 => ?_) (fun c_1 => ?_)
      · refine lv_iload_n hx hb dX1_placeOf_62 rfl (lv_at hl 2 rfl) ?_
        exact g_iret (u := μ) E G (⟨by rw [← hinv]; (simp only [z_plL, c_1, ↓reduceIte]) <;> rfl, rfl⟩) dX1_placeOf_63
      · refine lv_aload_n hx hb dX1_placeOf_12 rfl (lv_at hl 0 rfl) ?_
        refine g_get (C := RX1) (T := TX1) (N := 5) (ci := 1) (v := .ref o0) hx hb hts hin hown G 0 rfl rfl 2 (by decide) (hts (.fieldLink RX1 7 "SkewMeldsModel" "owners" "[I") (by decide +kernel)) rfl rfl dX1_placeOf_13 ?_
        refine lv_iload_n hx hb dX1_placeOf_16 rfl (lv_at hl 3 rfl) ?_
        refine g_ild hx hb G 1 0 rfl rfl (m_inb hm hx0 c_1) dX1_placeOf_17 ?_
        refine lv_iload_n hx hb dX1_placeOf_18 rfl (lv_at hl 1 rfl) ?_
        refine lv_icmp_ne (tgt := 54) hx hb dX1_placeOf_19 (by decide) (fun c_2 => ?_) (fun c_2 => ?_)
        · refine lv_iload_n hx hb dX1_placeOf_54 rfl (lv_at hl 2 rfl) ?_
          refine lv_istore_n (lv' := [(2, .int t), (0, .ref m0), (1, .int a0), (3, .int k)]) hx hb dX1_placeOf_55 rfl hl (by decide) rfl (fun ls hl => ?_)
          obtain ⟨v_3, ev_3⟩ : ∃ y : Int32, y = k + 1 := ⟨_, rfl⟩
          refine lv_iinc (v := v_3) (lv' := [(3, .int v_3), (2, .int t), (0, .ref m0), (1, .int a0)]) hx hb dX1_placeOf_56 hl (k := 3) rfl (by rw [ev_3]; rfl) (by decide) rfl (fun ls hl => ?_)
          refine lv_goto (tgt := 4) hx hb dX1_placeOf_59 (by decide) ?_
          exact ih  t v_3 _ _ _ (by subst ev_3; exact Nat.lt_of_lt_of_le (x_meas c_1) (Nat.le_of_lt_succ hm9)) (by subst ev_3; rw [← hinv]; (simp only [z_plL, c_1, c_2, ↓reduceIte]) <;> rfl) (by subst ev_3; exact m_nn hx0 c_1) (by subst ev_3; first | exact hx1 | exact Or.inl (m_lt c_1)) G (lv_sub hl [2, 3, 1, 0] rfl)
        · refine lv_aload_n hx hb dX1_placeOf_22 rfl (lv_at hl 0 rfl) ?_
          refine g_get (C := RX1) (T := TX1) (N := 5) (ci := 1) (v := .ref t0) hx hb hts hin hown G 0 rfl rfl 4 (by decide) (hts (.fieldLink RX1 16 "SkewMeldsModel" "told" "[Z") (by decide +kernel)) rfl rfl dX1_placeOf_23 ?_
          refine lv_iload_n hx hb dX1_placeOf_26 rfl (lv_at hl 3 rfl) ?_
          refine g_zld hx hb G 3 1 rfl rfl (m_inb hm hx0 c_1) dX1_placeOf_27 ?_
          refine lv_if_ne (tgt := 54) hx hb dX1_placeOf_28 (by decide) (fun c_4 => ?_) (fun c_4 => ?_)
          · refine lv_iload_n hx hb dX1_placeOf_54 rfl (lv_at hl 2 rfl) ?_
            refine lv_istore_n (lv' := [(2, .int t), (0, .ref m0), (1, .int a0), (3, .int k)]) hx hb dX1_placeOf_55 rfl hl (by decide) rfl (fun ls hl => ?_)
            obtain ⟨v_5, ev_5⟩ : ∃ y : Int32, y = k + 1 := ⟨_, rfl⟩
            refine lv_iinc (v := v_5) (lv' := [(3, .int v_5), (2, .int t), (0, .ref m0), (1, .int a0)]) hx hb dX1_placeOf_56 hl (k := 3) rfl (by rw [ev_5]; rfl) (by decide) rfl (fun ls hl => ?_)
            refine lv_goto (tgt := 4) hx hb dX1_placeOf_59 (by decide) ?_
            exact ih  t v_5 _ _ _ (by subst ev_5; exact Nat.lt_of_lt_of_le (x_meas c_1) (Nat.le_of_lt_succ hm9)) (by subst ev_5; rw [← hinv]; (simp only [z_plL, c_1, if_pos c_2, c_4, ↓reduceIte]) <;> rfl) (by subst ev_5; exact m_nn hx0 c_1) (by subst ev_5; first | exact hx1 | exact Or.inl (m_lt c_1)) G (lv_sub hl [2, 3, 1, 0] rfl)
          · refine lv_iload_n hx hb dX1_placeOf_31 rfl (lv_at hl 2 rfl) ?_
            refine lv_if_lt (tgt := 50) hx hb dX1_placeOf_32 (by decide) (fun c_6 => ?_) (fun c_6 => ?_)
            · refine lv_iload_n hx hb dX1_placeOf_50 rfl (lv_at hl 3 rfl) ?_
              refine lv_goto (tgt := 55) hx hb dX1_placeOf_51 (by decide) ?_
              refine lv_istore_n (lv' := [(2, .int k), (0, .ref m0), (1, .int a0), (3, .int k)]) hx hb dX1_placeOf_55 rfl hl (by decide) rfl (fun ls hl => ?_)
              obtain ⟨v_7, ev_7⟩ : ∃ y : Int32, y = k + 1 := ⟨_, rfl⟩
              refine lv_iinc (v := v_7) (lv' := [(3, .int v_7), (2, .int k), (0, .ref m0), (1, .int a0)]) hx hb dX1_placeOf_56 hl (k := 3) rfl (by rw [ev_7]; rfl) (by decide) rfl (fun ls hl => ?_)
              refine lv_goto (tgt := 4) hx hb dX1_placeOf_59 (by decide) ?_
              exact ih  k v_7 _ _ _ (by subst ev_7; exact Nat.lt_of_lt_of_le (x_meas c_1) (Nat.le_of_lt_succ hm9)) (by subst ev_7; rw [← hinv]; (simp only [z_plL, c_1, if_pos c_2, c_4, c_6, ↓reduceIte]) <;> rfl) (by subst ev_7; exact m_nn hx0 c_1) (by subst ev_7; first | exact hx1 | exact Or.inl (m_lt c_1)) G (lv_sub hl [2, 3, 1, 0] rfl)
            · refine lv_aload_n hx hb dX1_placeOf_35 rfl (lv_at hl 0 rfl) ?_
              refine g_get (C := RX1) (T := TX1) (N := 5) (ci := 1) (v := .ref k0) hx hb hts hin hown G 0 rfl rfl 3 (by decide) (hts (.fieldLink RX1 13 "SkewMeldsModel" "keys" "[I") (by decide +kernel)) rfl rfl dX1_placeOf_36 ?_
              refine lv_iload_n hx hb dX1_placeOf_39 rfl (lv_at hl 3 rfl) ?_
              refine g_ild hx hb G 2 0 rfl rfl (m_inb hm hx0 c_1) dX1_placeOf_40 ?_
              refine lv_aload_n hx hb dX1_placeOf_41 rfl (lv_at hl 0 rfl) ?_
              refine g_get (C := RX1) (T := TX1) (N := 5) (ci := 1) (v := .ref k0) hx hb hts hin hown G 0 rfl rfl 3 (by decide) (hts (.fieldLink RX1 13 "SkewMeldsModel" "keys" "[I") (by decide +kernel)) rfl rfl dX1_placeOf_42 ?_
              refine lv_iload_n hx hb dX1_placeOf_45 rfl (lv_at hl 2 rfl) ?_
              refine g_ild hx hb G 2 0 rfl rfl (m_best hm hx1 c_6) dX1_placeOf_46 ?_
              refine lv_icmp_ge (tgt := 54) hx hb dX1_placeOf_47 (by decide) (fun c_8 => ?_) (fun c_8 => ?_)
              · refine lv_iload_n hx hb dX1_placeOf_54 rfl (lv_at hl 2 rfl) ?_
                refine lv_istore_n (lv' := [(2, .int t), (0, .ref m0), (1, .int a0), (3, .int k)]) hx hb dX1_placeOf_55 rfl hl (by decide) rfl (fun ls hl => ?_)
                obtain ⟨v_9, ev_9⟩ : ∃ y : Int32, y = k + 1 := ⟨_, rfl⟩
                refine lv_iinc (v := v_9) (lv' := [(3, .int v_9), (2, .int t), (0, .ref m0), (1, .int a0)]) hx hb dX1_placeOf_56 hl (k := 3) rfl (by rw [ev_9]; rfl) (by decide) rfl (fun ls hl => ?_)
                refine lv_goto (tgt := 4) hx hb dX1_placeOf_59 (by decide) ?_
                exact ih  t v_9 _ _ _ (by subst ev_9; exact Nat.lt_of_lt_of_le (x_meas c_1) (Nat.le_of_lt_succ hm9)) (by subst ev_9; rw [← hinv]; (simp only [z_plL, c_1, if_pos c_2, c_4, c_6, c_8, ↓reduceIte]) <;> rfl) (by subst ev_9; exact m_nn hx0 c_1) (by subst ev_9; first | exact hx1 | exact Or.inl (m_lt c_1)) G (lv_sub hl [2, 3, 1, 0] rfl)
              · refine lv_iload_n hx hb dX1_placeOf_50 rfl (lv_at hl 3 rfl) ?_
                refine lv_goto (tgt := 55) hx hb dX1_placeOf_51 (by decide) ?_
                refine lv_istore_n (lv' := [(2, .int k), (0, .ref m0), (1, .int a0), (3, .int k)]) hx hb dX1_placeOf_55 rfl hl (by decide) rfl (fun ls hl => ?_)
                obtain ⟨v_10, ev_10⟩ : ∃ y : Int32, y = k + 1 := ⟨_, rfl⟩
                refine lv_iinc (v := v_10) (lv' := [(3, .int v_10), (2, .int k), (0, .ref m0), (1, .int a0)]) hx hb dX1_placeOf_56 hl (k := 3) rfl (by rw [ev_10]; rfl) (by decide) rfl (fun ls hl => ?_)
                refine lv_goto (tgt := 4) hx hb dX1_placeOf_59 (by decide) ?_
                exact ih  k v_10 _ _ _ (by subst ev_10; exact Nat.lt_of_lt_of_le (x_meas c_1) (Nat.le_of_lt_succ hm9)) (by subst ev_10; rw [← hinv]; (simp only [z_plL, c_1, if_pos c_2, c_4, c_6, c_8, ↓reduceIte]) <;> rfl) (by subst ev_10; exact m_nn hx0 c_1) (by subst ev_10; first | exact hx1 | exact Or.inl (m_lt c_1)) G (lv_sub hl [2, 3, 1, 0] rfl)
  refine lv_iconst (v := (-1)) hx hb dX1_placeOf_0 (by decide) ?_
  refine lv_istore_n (lv' := [(2, .int (-1)), (0, .ref m0), (1, .int a0)]) hx hb dX1_placeOf_1 rfl hl (by decide) rfl (fun ls hl => ?_)
  refine lv_iconst (v := 0) hx hb dX1_placeOf_2 (by decide) ?_
  refine lv_istore_n (lv' := [(3, .int 0), (2, .int (-1)), (0, .ref m0), (1, .int a0)]) hx hb dX1_placeOf_3 rfl hl (by decide) rfl (fun ls hl => ?_)
  exact loop (μ.2.1.toInt.toNat + 1)  (-1) 0 _ _ _ (x_meas0) (by (simp only [z_place, ↓reduceIte]) <;> rfl) (by decide) (Or.inr (by decide)) G (lv_sub hl [2, 3, 1, 0] rfl)

set_option maxHeartbeats 4000000 in
set_option maxRecDepth 100000 in
theorem kX1_untell (l : Launch) (D : va_G) (m0 o0 k0 t0 : Nat) (cI cZ : ClassId) (μ : Sm) : gMv l yX1_untell wsX1_untell ({ frames := 0, cells := 0, slots := 0, locals := 0 }) D vwCl [(cI, .int), (cZ, .boolean)] [.ref m0] (mw m0 o0 k0 t0 cI cZ) μ (fun μ' => z_untell μ = μ') := by
  refine gMv_of (cc := cX1_untell) (maxL := 2) (ret := none) (by decide) rfl (Nat.le_of_ble_eq_true rfl) ?_
  intro p e s m below meth c A ls E G hl
  obtain ⟨hx, hb, hml, hr, hlocks, hown, hts, -, -⟩ := id E
  have hin : ∀ w ∈ wsX10, w ∈ wsX1_untell := fun w h => List.mem_cons_of_mem _ (List.mem_append_right _ h)
  have hl : lv_has ls 2 [(0, .ref m0)] := hl
  have loop : ∀ (n : Nat) (μ1 : Sm) (k : Int32) (H : Heap) (locs : List Loc) (ls : Array Slot), ((200 : Int32).toInt - k.toInt).toNat < n → z_unL n μ1 k = z_untell μ → 0 ≤ k.toInt → gG D vwCl [(cI, .int), (cZ, .boolean)] A s (mw m0 o0 k0 t0 cI cZ μ1) H locs → lv_has ls 2 [(0, .ref m0), (1, .int k)] → W p l e ({ frames := 0, cells := 0, slots := 0, locals := 0 }) s m [.ref m0].toArray below meth c H locs 0 0 (MQ below (va_Qv (fun μ' => z_untell μ = μ') (gB D vwCl [(cI, .int), (cZ, .boolean)] A (mw m0 o0 k0 t0 cI cZ)) A) [.ref m0].toArray s 0 0 A) (F0 m 2 ls []) := by
    intro n
    induction n with
    | zero => intro μ1 k H locs ls hm9; exact absurd hm9 (Nat.not_lt_zero _)
    | succ n ih =>
      intro μ1 k H locs ls hm9 hinv hx0 G hl
      refine lv_iload_n hx hb dX1_untell_2 rfl (lv_at hl 1 rfl) ?_
      refine lv_sipush (v := 200) hx hb dX1_untell_3 (by decide) ?_
      refine lv_icmp_ge (tgt := 22) hx hb dX1_untell_6 (by decide) (fun c_1 => ?_) (fun c_1 => ?_)
      · exact g_vret (u := μ1) E G (by rw [← hinv]; (simp only [z_unL, c_1, ↓reduceIte]) <;> rfl) dX1_untell_22
      · refine lv_aload_n hx hb dX1_untell_9 rfl (lv_at hl 0 rfl) ?_
        refine g_get (C := RX1) (T := TX1) (N := 5) (ci := 1) (v := .ref t0) hx hb hts hin hown G 0 rfl rfl 4 (by decide) (hts (.fieldLink RX1 16 "SkewMeldsModel" "told" "[Z") (by decide +kernel)) rfl rfl dX1_untell_10 ?_
        refine lv_iload_n hx hb dX1_untell_13 rfl (lv_at hl 1 rfl) ?_
        refine lv_iconst (v := 0) hx hb dX1_untell_14 (by decide) ?_
        refine g_zst hx hb G 3 1 rfl rfl (m_in200 hx0 c_1) (mw m0 o0 k0 t0 cI cZ (z_sT μ1 k 0)) rfl dX1_untell_15 (fun H locs G => ?_)
        obtain ⟨v_2, ev_2⟩ : ∃ y : Int32, y = k + 1 := ⟨_, rfl⟩
        refine lv_iinc (v := v_2) (lv' := [(1, .int v_2), (0, .ref m0)]) hx hb dX1_untell_16 hl (k := 1) rfl (by rw [ev_2]; rfl) (by decide) rfl (fun ls hl => ?_)
        refine lv_goto (tgt := 2) hx hb dX1_untell_19 (by decide) ?_
        exact ih (z_sT μ1 k 0) v_2 _ _ _ (by subst ev_2; exact Nat.lt_of_lt_of_le (x_meas c_1) (Nat.le_of_lt_succ hm9)) (by subst ev_2; rw [← hinv]; (simp only [z_unL, c_1, ↓reduceIte]) <;> rfl) (by subst ev_2; exact m_nn hx0 c_1) G (lv_sub hl [1, 0] rfl)
  refine lv_iconst (v := 0) hx hb dX1_untell_0 (by decide) ?_
  refine lv_istore_n (lv' := [(1, .int 0), (0, .ref m0)]) hx hb dX1_untell_1 rfl hl (by decide) rfl (fun ls hl => ?_)
  exact loop (201) μ 0 _ _ _ (by decide) (by (simp only [z_untell, ↓reduceIte]) <;> rfl) (by decide) G (lv_sub hl [1, 0] rfl)
end
section
set_option maxHeartbeats 4000000 in
set_option maxRecDepth 100000 in
theorem kX1_least (l : Launch) (D : va_G) (m0 o0 k0 t0 : Nat) (cI cZ : ClassId) (μ : Sm) (a0 : Int32) (hm : Mok μ) : gMl l yX1_least wsX1_least ({ frames := 1, cells := 0, slots := 0, locals := 23 }) D vwCl [(cI, .int), (cZ, .boolean)] [.ref m0, .int a0] (mw m0 o0 k0 t0 cI cZ) μ (fun r μ' => z_least μ a0 = (r, μ')) := by
  refine gMl_of (cc := cX1_least) (maxL := 3) (ret := (some .long)) (by decide) rfl (Nat.le_of_ble_eq_true rfl) ?_
  intro p e s m below meth c A ls E G hl
  obtain ⟨hx, hb, hml, hr, hlocks, hown, hts, -, -⟩ := id E
  have hin : ∀ w ∈ wsX10, w ∈ wsX1_least := fun w h => List.mem_cons_of_mem _ (List.mem_append_right _ h)
  have hl : lv_has ls 3 [(0, .ref m0), (1, .int a0)] := hl
  refine lv_aload_n hx hb dX1_least_0 rfl (lv_at hl 0 rfl) ?_
  refine m_callv (As := []) (rest := []) ⟨hx, hb, hml, hown, hts⟩ (kX1_untell l D m0 o0 k0 t0 cI cZ μ) (cwV 0 hts gX1_least_X1_untell rfl rfl rfl (by decide +kernel) ⟨Nat.le_of_ble_eq_true rfl, Nat.le_of_ble_eq_true rfl⟩) G rfl hl.1 rfl (Nat.le_of_ble_eq_true rfl) dX1_least_1 ⟨Nat.zero_le _, Nat.zero_le _⟩ (fun σ_2 H locs e_3 G => ?_)
  refine lv_aload_n hx hb dX1_least_4 rfl (lv_at hl 0 rfl) ?_
  refine lv_iload_n hx hb dX1_least_5 rfl (lv_at hl 1 rfl) ?_
  refine m_calli (As := [.int a0]) (rest := []) ⟨hx, hb, hml, hown, hts⟩ (kX1_isHeap l D m0 o0 k0 t0 cI cZ σ_2 a0) (cwV 1 hts gX1_least_X1_isHeap rfl rfl rfl (by decide +kernel) ⟨Nat.le_of_ble_eq_true rfl, Nat.le_of_ble_eq_true rfl⟩) G rfl hl.1 rfl (Nat.le_of_ble_eq_true rfl) dX1_least_6 ⟨Nat.zero_le _, Nat.zero_le _⟩ (fun r_4 σ_5 H locs e_6 G => ?_)
  obtain ⟨rfl, rfl⟩ := e_6
  refine lv_if_eq (tgt := 20) hx hb dX1_least_9 (by decide) (fun c_7 => ?_) (fun c_7 => ?_)
  · refine lv_iconst (v := (-1)) hx hb dX1_least_20 (by decide) ?_
    refine lv_istore_n (lv' := [(2, .int (-1)), (0, .ref m0), (1, .int a0)]) hx hb dX1_least_21 rfl hl (by decide) rfl (fun ls hl => ?_)
    refine lv_iload_n hx hb dX1_least_22 rfl (lv_at hl 0 rfl) ?_
    refine lv_if_ge (tgt := 32) hx hb dX1_least_23 (by decide) (fun c_8 => ?_) (fun c_8 => ?_)
    · exact absurd c_8 (by decide)
    · refine lv_ldc2 hx hb hown (hts (.constantLong RX1 41 (-9223372036854775808)) (by decide +kernel)) dX1_least_26 ?_
      refine lv_goto (tgt := 39) hx hb dX1_least_29 (by decide) ?_
      exact g_lret (u := σ_2) E G (by (simp only [z_least, e_3, c_7, ↓reduceIte]) <;> rfl) dX1_least_39
  · refine lv_aload_n hx hb dX1_least_12 rfl (lv_at hl 0 rfl) ?_
    refine lv_iload_n hx hb dX1_least_13 rfl (lv_at hl 1 rfl) ?_
    refine m_calli (As := [.int a0]) (rest := []) ⟨hx, hb, hml, hown, hts⟩ (kX1_placeOf l D m0 o0 k0 t0 cI cZ σ_2 a0 (by rw [← e_3]; exact un_ok hm)) (cwV 1 hts gX1_least_X1_placeOf rfl rfl rfl (by decide +kernel) ⟨Nat.le_of_ble_eq_true rfl, Nat.le_of_ble_eq_true rfl⟩) G rfl hl.1 rfl (Nat.le_of_ble_eq_true rfl) dX1_least_14 ⟨Nat.zero_le _, Nat.zero_le _⟩ (fun r_9 σ_10 H locs e_11 G => ?_)
    obtain ⟨rfl, rfl⟩ := e_11
    refine lv_goto (tgt := 21) hx hb dX1_least_17 (by decide) ?_
    refine lv_topi (fun v_12 ev_12 => ?_)
    refine lv_istore_n (lv' := [(2, .int v_12), (0, .ref m0), (1, .int a0)]) hx hb dX1_least_21 rfl hl (by decide) rfl (fun ls hl => ?_)
    refine lv_iload_n hx hb dX1_least_22 rfl (lv_at hl 0 rfl) ?_
    refine lv_if_ge (tgt := 32) hx hb dX1_least_23 (by decide) (fun c_13 => ?_) (fun c_13 => ?_)
    · refine lv_aload_n hx hb dX1_least_32 rfl (lv_at hl 1 rfl) ?_
      refine g_get (C := RX1) (T := TX1) (N := 5) (ci := 1) (v := .ref k0) hx hb hts hin hown G 0 rfl rfl 3 (by decide) (hts (.fieldLink RX1 13 "SkewMeldsModel" "keys" "[I") (by decide +kernel)) rfl rfl dX1_least_33 ?_
      refine lv_iload_n hx hb dX1_least_36 rfl (lv_at hl 0 rfl) ?_
      refine g_ild hx hb G 2 0 rfl rfl (m_pl (by rw [← e_3]; exact un_ok hm) (ev_12) c_13) dX1_least_37 ?_
      refine lv_i2l (v := (σ_2.2.2.2.1 v_12.toNatClampNeg).toInt64) hx hb dX1_least_38 rfl ?_
      exact g_lret (u := σ_2) E G (by subst ev_12; (simp only [z_least, e_3, c_7, c_13, ↓reduceIte]) <;> rfl) dX1_least_39
    · refine lv_ldc2 hx hb hown (hts (.constantLong RX1 41 (-9223372036854775808)) (by decide +kernel)) dX1_least_26 ?_
      refine lv_goto (tgt := 39) hx hb dX1_least_29 (by decide) ?_
      exact g_lret (u := σ_2) E G (by subst ev_12; (simp only [z_least, e_3, c_7, c_13, ↓reduceIte]) <;> rfl) dX1_least_39

set_option maxHeartbeats 4000000 in
set_option maxRecDepth 100000 in
theorem kX1_take (l : Launch) (D : va_G) (m0 o0 k0 t0 : Nat) (cI cZ : ClassId) (μ : Sm) (a0 : Int32) (hm : Mok μ) : gMl l yX1_take wsX1_take ({ frames := 1, cells := 0, slots := 0, locals := 23 }) D vwCl [(cI, .int), (cZ, .boolean)] [.ref m0, .int a0] (mw m0 o0 k0 t0 cI cZ) μ (fun r μ' => z_take μ a0 = (r, μ')) := by
  refine gMl_of (cc := cX1_take) (maxL := 5) (ret := (some .long)) (by decide) rfl (Nat.le_of_ble_eq_true rfl) ?_
  intro p e s m below meth c A ls E G hl
  obtain ⟨hx, hb, hml, hr, hlocks, hown, hts, -, -⟩ := id E
  have hin : ∀ w ∈ wsX10, w ∈ wsX1_take := fun w h => List.mem_cons_of_mem _ (List.mem_append_right _ h)
  have hl : lv_has ls 5 [(0, .ref m0), (1, .int a0)] := hl
  refine lv_aload_n hx hb dX1_take_0 rfl (lv_at hl 0 rfl) ?_
  refine m_callv (As := []) (rest := []) ⟨hx, hb, hml, hown, hts⟩ (kX1_untell l D m0 o0 k0 t0 cI cZ μ) (cwV 0 hts gX1_take_X1_untell rfl rfl rfl (by decide +kernel) ⟨Nat.le_of_ble_eq_true rfl, Nat.le_of_ble_eq_true rfl⟩) G rfl hl.1 rfl (Nat.le_of_ble_eq_true rfl) dX1_take_1 ⟨Nat.zero_le _, Nat.zero_le _⟩ (fun σ_2 H locs e_3 G => ?_)
  refine lv_aload_n hx hb dX1_take_4 rfl (lv_at hl 0 rfl) ?_
  refine lv_iload_n hx hb dX1_take_5 rfl (lv_at hl 1 rfl) ?_
  refine m_calli (As := [.int a0]) (rest := []) ⟨hx, hb, hml, hown, hts⟩ (kX1_isHeap l D m0 o0 k0 t0 cI cZ σ_2 a0) (cwV 1 hts gX1_take_X1_isHeap rfl rfl rfl (by decide +kernel) ⟨Nat.le_of_ble_eq_true rfl, Nat.le_of_ble_eq_true rfl⟩) G rfl hl.1 rfl (Nat.le_of_ble_eq_true rfl) dX1_take_6 ⟨Nat.zero_le _, Nat.zero_le _⟩ (fun r_4 σ_5 H locs e_6 G => ?_)
  obtain ⟨rfl, rfl⟩ := e_6
  refine lv_if_eq (tgt := 20) hx hb dX1_take_9 (by decide) (fun c_7 => ?_) (fun c_7 => ?_)
  · refine lv_iconst (v := (-1)) hx hb dX1_take_20 (by decide) ?_
    refine lv_istore_n (lv' := [(2, .int (-1)), (0, .ref m0), (1, .int a0)]) hx hb dX1_take_21 rfl hl (by decide) rfl (fun ls hl => ?_)
    refine lv_iload_n hx hb dX1_take_22 rfl (lv_at hl 0 rfl) ?_
    refine lv_if_ge (tgt := 30) hx hb dX1_take_23 (by decide) (fun c_8 => ?_) (fun c_8 => ?_)
    · exact absurd c_8 (by decide)
    · refine lv_ldc2 hx hb hown (hts (.constantLong RX1 41 (-9223372036854775808)) (by decide +kernel)) dX1_take_26 ?_
      exact g_lret (u := σ_2) E G (by (simp only [z_take, e_3, c_7, ↓reduceIte]) <;> rfl) dX1_take_29
  · refine lv_aload_n hx hb dX1_take_12 rfl (lv_at hl 0 rfl) ?_
    refine lv_iload_n hx hb dX1_take_13 rfl (lv_at hl 1 rfl) ?_
    refine m_calli (As := [.int a0]) (rest := []) ⟨hx, hb, hml, hown, hts⟩ (kX1_placeOf l D m0 o0 k0 t0 cI cZ σ_2 a0 (by rw [← e_3]; exact un_ok hm)) (cwV 1 hts gX1_take_X1_placeOf rfl rfl rfl (by decide +kernel) ⟨Nat.le_of_ble_eq_true rfl, Nat.le_of_ble_eq_true rfl⟩) G rfl hl.1 rfl (Nat.le_of_ble_eq_true rfl) dX1_take_14 ⟨Nat.zero_le _, Nat.zero_le _⟩ (fun r_9 σ_10 H locs e_11 G => ?_)
    obtain ⟨rfl, rfl⟩ := e_11
    refine lv_goto (tgt := 21) hx hb dX1_take_17 (by decide) ?_
    refine lv_topi (fun v_12 ev_12 => ?_)
    refine lv_istore_n (lv' := [(2, .int v_12), (0, .ref m0), (1, .int a0)]) hx hb dX1_take_21 rfl hl (by decide) rfl (fun ls hl => ?_)
    refine lv_iload_n hx hb dX1_take_22 rfl (lv_at hl 0 rfl) ?_
    refine lv_if_ge (tgt := 30) hx hb dX1_take_23 (by decide) (fun c_13 => ?_) (fun c_13 => ?_)
    · refine lv_aload_n hx hb dX1_take_30 rfl (lv_at hl 1 rfl) ?_
      refine g_get (C := RX1) (T := TX1) (N := 5) (ci := 1) (v := .ref k0) hx hb hts hin hown G 0 rfl rfl 3 (by decide) (hts (.fieldLink RX1 13 "SkewMeldsModel" "keys" "[I") (by decide +kernel)) rfl rfl dX1_take_31 ?_
      refine lv_iload_n hx hb dX1_take_34 rfl (lv_at hl 0 rfl) ?_
      refine g_ild hx hb G 2 0 rfl rfl (m_pl (by rw [← e_3]; exact un_ok hm) (ev_12) c_13) dX1_take_35 ?_
      refine lv_i2l (v := (σ_2.2.2.2.1 v_12.toNatClampNeg).toInt64) hx hb dX1_take_36 rfl ?_
      refine lv_topl (fun v_14 ev_14 => ?_)
      refine lv_lstore_n (lv' := [(3, .long v_14), (2, .int v_12), (0, .ref m0), (1, .int a0)]) hx hb dX1_take_37 rfl hl (by decide) rfl (fun ls hl => ?_)
      refine lv_aload_n hx hb dX1_take_38 rfl (lv_at hl 2 rfl) ?_
      refine lv_dup hx hb dX1_take_39 rfl ?_
      refine g_get (C := RX1) (T := TX1) (N := 5) (ci := 1) (v := .int σ_2.2.1) hx hb hts hin hown G 0 rfl rfl 1 (by decide) (hts (.fieldLink RX1 24 "SkewMeldsModel" "used" "I") (by decide +kernel)) rfl rfl dX1_take_40 ?_
      refine lv_iconst (v := 1) hx hb dX1_take_43 (by decide) ?_
      refine lv_isub hx hb dX1_take_44 ?_
      refine g_put (C := RX1) (T := TX1) (N := 5) (ci := 1) (v := .int (σ_2.2.1 - 1)) (ty := .int) hx hb hts hin tyX1 tyX1_ok nmX1 hown G 0 rfl rfl 1 (by decide) (hts (.fieldLink RX1 24 "SkewMeldsModel" "used" "I") (by decide +kernel)) rfl rfl (by decide +kernel) rfl rfl (Nat.le_of_ble_eq_true rfl) (mw m0 o0 k0 t0 cI cZ (z_sU σ_2 (σ_2.2.1 - 1))) rfl dX1_take_45 (fun H locs G => ?_)
      refine lv_aload_n hx hb dX1_take_48 rfl (lv_at hl 2 rfl) ?_
      refine g_get (C := RX1) (T := TX1) (N := 5) (ci := 1) (v := .ref o0) hx hb hts hin hown G 0 rfl rfl 2 (by decide) (hts (.fieldLink RX1 7 "SkewMeldsModel" "owners" "[I") (by decide +kernel)) rfl rfl dX1_take_49 ?_
      refine lv_iload_n hx hb dX1_take_52 rfl (lv_at hl 1 rfl) ?_
      refine lv_aload_n hx hb dX1_take_53 rfl (lv_at hl 2 rfl) ?_
      refine g_get (C := RX1) (T := TX1) (N := 5) (ci := 1) (v := .ref o0) hx hb hts hin hown G 0 rfl rfl 2 (by decide) (hts (.fieldLink RX1 7 "SkewMeldsModel" "owners" "[I") (by decide +kernel)) rfl rfl dX1_take_54 ?_
      refine lv_aload_n hx hb dX1_take_57 rfl (lv_at hl 2 rfl) ?_
      refine g_get (C := RX1) (T := TX1) (N := 5) (ci := 1) (v := .int (z_sU σ_2 (σ_2.2.1 - 1)).2.1) hx hb hts hin hown G 0 rfl rfl 1 (by decide) (hts (.fieldLink RX1 24 "SkewMeldsModel" "used" "I") (by decide +kernel)) rfl rfl dX1_take_58 ?_
      refine g_ild hx hb G 1 0 rfl rfl (m_pl1 (by rw [← e_3]; exact un_ok hm) (ev_12) c_13) dX1_take_61 ?_
      refine g_ist hx hb G 1 0 rfl rfl (m_pl (by rw [← e_3]; exact un_ok hm) (ev_12) c_13) (mw m0 o0 k0 t0 cI cZ (z_sO (z_sU σ_2 (σ_2.2.1 - 1)) v_12 ((z_sU σ_2 (σ_2.2.1 - 1)).2.2.1 ((z_sU σ_2 (σ_2.2.1 - 1)).2.1).toNatClampNeg))) rfl dX1_take_62 (fun H locs G => ?_)
      refine lv_aload_n hx hb dX1_take_63 rfl (lv_at hl 2 rfl) ?_
      refine g_get (C := RX1) (T := TX1) (N := 5) (ci := 1) (v := .ref k0) hx hb hts hin hown G 0 rfl rfl 3 (by decide) (hts (.fieldLink RX1 13 "SkewMeldsModel" "keys" "[I") (by decide +kernel)) rfl rfl dX1_take_64 ?_
      refine lv_iload_n hx hb dX1_take_67 rfl (lv_at hl 1 rfl) ?_
      refine lv_aload_n hx hb dX1_take_68 rfl (lv_at hl 2 rfl) ?_
      refine g_get (C := RX1) (T := TX1) (N := 5) (ci := 1) (v := .ref k0) hx hb hts hin hown G 0 rfl rfl 3 (by decide) (hts (.fieldLink RX1 13 "SkewMeldsModel" "keys" "[I") (by decide +kernel)) rfl rfl dX1_take_69 ?_
      refine lv_aload_n hx hb dX1_take_72 rfl (lv_at hl 2 rfl) ?_
      refine g_get (C := RX1) (T := TX1) (N := 5) (ci := 1) (v := .int (z_sO (z_sU σ_2 (σ_2.2.1 - 1)) v_12 ((z_sU σ_2 (σ_2.2.1 - 1)).2.2.1 ((z_sU σ_2 (σ_2.2.1 - 1)).2.1).toNatClampNeg)).2.1) hx hb hts hin hown G 0 rfl rfl 1 (by decide) (hts (.fieldLink RX1 24 "SkewMeldsModel" "used" "I") (by decide +kernel)) rfl rfl dX1_take_73 ?_
      refine g_ild hx hb G 2 0 rfl rfl (m_pl1 (by rw [← e_3]; exact un_ok hm) (ev_12) c_13) dX1_take_76 ?_
      refine g_ist hx hb G 2 0 rfl rfl (m_pl (by rw [← e_3]; exact un_ok hm) (ev_12) c_13) (mw m0 o0 k0 t0 cI cZ (z_sK (z_sO (z_sU σ_2 (σ_2.2.1 - 1)) v_12 ((z_sU σ_2 (σ_2.2.1 - 1)).2.2.1 ((z_sU σ_2 (σ_2.2.1 - 1)).2.1).toNatClampNeg)) v_12 ((z_sO (z_sU σ_2 (σ_2.2.1 - 1)) v_12 ((z_sU σ_2 (σ_2.2.1 - 1)).2.2.1 ((z_sU σ_2 (σ_2.2.1 - 1)).2.1).toNatClampNeg)).2.2.2.1 ((z_sO (z_sU σ_2 (σ_2.2.1 - 1)) v_12 ((z_sU σ_2 (σ_2.2.1 - 1)).2.2.1 ((z_sU σ_2 (σ_2.2.1 - 1)).2.1).toNatClampNeg)).2.1).toNatClampNeg))) rfl dX1_take_77 (fun H locs G => ?_)
      refine lv_lload_n hx hb dX1_take_78 rfl (lv_at hl 0 rfl) ?_
      exact g_lret (u := (z_sK (z_sO (z_sU σ_2 (σ_2.2.1 - 1)) v_12 ((z_sU σ_2 (σ_2.2.1 - 1)).2.2.1 ((z_sU σ_2 (σ_2.2.1 - 1)).2.1).toNatClampNeg)) v_12 ((z_sO (z_sU σ_2 (σ_2.2.1 - 1)) v_12 ((z_sU σ_2 (σ_2.2.1 - 1)).2.2.1 ((z_sU σ_2 (σ_2.2.1 - 1)).2.1).toNatClampNeg)).2.2.2.1 ((z_sO (z_sU σ_2 (σ_2.2.1 - 1)) v_12 ((z_sU σ_2 (σ_2.2.1 - 1)).2.2.1 ((z_sU σ_2 (σ_2.2.1 - 1)).2.1).toNatClampNeg)).2.1).toNatClampNeg))) E G (by subst ev_14; subst ev_12; (simp only [z_take, e_3, c_7, c_13, ↓reduceIte]) <;> rfl) dX1_take_79
    · refine lv_ldc2 hx hb hown (hts (.constantLong RX1 41 (-9223372036854775808)) (by decide +kernel)) dX1_take_26 ?_
      exact g_lret (u := σ_2) E G (by subst ev_12; (simp only [z_take, e_3, c_7, c_13, ↓reduceIte]) <;> rfl) dX1_take_29

set_option maxHeartbeats 4000000 in
set_option maxRecDepth 100000 in
theorem kX1_meld (l : Launch) (D : va_G) (m0 o0 k0 t0 : Nat) (cI cZ : ClassId) (μ : Sm) (a0 : Int32) (a1 : Int32) (hm : Mok μ) : gMi l yX1_meld wsX1_meld ({ frames := 1, cells := 0, slots := 0, locals := 23 }) D vwCl [(cI, .int), (cZ, .boolean)] [.ref m0, .int a0, .int a1] (mw m0 o0 k0 t0 cI cZ) μ (fun r μ' => z_meld μ a0 a1 = (r, μ')) := by
  refine gMi_of (cc := cX1_meld) (maxL := 4) (ret := (some .int)) (by decide) rfl (Nat.le_of_ble_eq_true rfl) ?_
  intro p e s m below meth c A ls E G hl
  obtain ⟨hx, hb, hml, hr, hlocks, hown, hts, -, -⟩ := id E
  have hin : ∀ w ∈ wsX10, w ∈ wsX1_meld := fun w h => List.mem_cons_of_mem _ (List.mem_append_right _ h)
  have hl : lv_has ls 4 [(0, .ref m0), (1, .int a0), (2, .int a1)] := hl
  have loop : ∀ (n : Nat) (μ1 : Sm) (k : Int32) (H : Heap) (locs : List Loc) (ls : Array Slot), (μ1.2.1.toInt - k.toInt).toNat < n → (z_size (z_meL a0 a1 n μ1 k) a0, z_meL a0 a1 n μ1 k) = z_meld μ a0 a1 → 0 ≤ k.toInt → Mok μ1 → gG D vwCl [(cI, .int), (cZ, .boolean)] A s (mw m0 o0 k0 t0 cI cZ μ1) H locs → lv_has ls 4 [(0, .ref m0), (1, .int a0), (2, .int a1), (3, .int k)] → W p l e ({ frames := 1, cells := 0, slots := 0, locals := 23 }) s m [.ref m0, .int a0, .int a1].toArray below meth c H locs 0 0 (MQ below (va_Qi (fun r μ' => z_meld μ a0 a1 = (r, μ')) (gB D vwCl [(cI, .int), (cZ, .boolean)] A (mw m0 o0 k0 t0 cI cZ)) A) [.ref m0, .int a0, .int a1].toArray s 0 0 A) (F0 m 25 ls []) := by
    intro n
    induction n with
    | zero => intro μ1 k H locs ls hm9; exact absurd hm9 (Nat.not_lt_zero _)
    | succ n ih =>
      intro μ1 k H locs ls hm9 hinv hx0 hx1 G hl
      refine lv_iload_n hx hb dX1_meld_25 rfl (lv_at hl 3 rfl) ?_
      refine lv_aload_n hx hb dX1_meld_26 rfl (lv_at hl 0 rfl) ?_
      refine g_get (C := RX1) (T := TX1) (N := 5) (ci := 1) (v := .int μ1.2.1) hx hb hts hin hown G 0 rfl rfl 1 (by decide) (hts (.fieldLink RX1 24 "SkewMeldsModel" "used" "I") (by decide +kernel)) rfl rfl dX1_meld_27 ?_
      refine lv_icmp_ge (tgt := 65) hx hb dX1_meld_30 (by decide) (fun c_1 => ?_) (fun c_1 => ?_)
      · refine lv_aload_n hx hb dX1_meld_65 rfl (lv_at hl 0 rfl) ?_
        refine lv_iload_n hx hb dX1_meld_66 rfl (lv_at hl 1 rfl) ?_
        refine m_calli (As := [.int a0]) (rest := []) ⟨hx, hb, hml, hown, hts⟩ (kX1_sizeOf l D m0 o0 k0 t0 cI cZ μ1 a0 hx1) (cwV 1 hts gX1_meld_X1_sizeOf rfl rfl rfl (by decide +kernel) ⟨Nat.le_of_ble_eq_true rfl, Nat.le_of_ble_eq_true rfl⟩) G rfl hl.1 rfl (Nat.le_of_ble_eq_true rfl) dX1_meld_67 ⟨Nat.zero_le _, Nat.zero_le _⟩ (fun r_2 σ_3 H locs e_4 G => ?_)
        obtain ⟨rfl, rfl⟩ := e_4
        exact g_iret (u := μ1) E G (by rw [← hinv]; (simp only [z_meL, c_1, ↓reduceIte]) <;> rfl) dX1_meld_70
      · refine lv_aload_n hx hb dX1_meld_33 rfl (lv_at hl 0 rfl) ?_
        refine g_get (C := RX1) (T := TX1) (N := 5) (ci := 1) (v := .ref o0) hx hb hts hin hown G 0 rfl rfl 2 (by decide) (hts (.fieldLink RX1 7 "SkewMeldsModel" "owners" "[I") (by decide +kernel)) rfl rfl dX1_meld_34 ?_
        refine lv_iload_n hx hb dX1_meld_37 rfl (lv_at hl 3 rfl) ?_
        refine lv_aload_n hx hb dX1_meld_38 rfl (lv_at hl 0 rfl) ?_
        refine g_get (C := RX1) (T := TX1) (N := 5) (ci := 1) (v := .ref o0) hx hb hts hin hown G 0 rfl rfl 2 (by decide) (hts (.fieldLink RX1 7 "SkewMeldsModel" "owners" "[I") (by decide +kernel)) rfl rfl dX1_meld_39 ?_
        refine lv_iload_n hx hb dX1_meld_42 rfl (lv_at hl 3 rfl) ?_
        refine g_ild hx hb G 1 0 rfl rfl (m_inb hx1 hx0 c_1) dX1_meld_43 ?_
        refine lv_iload_n hx hb dX1_meld_44 rfl (lv_at hl 2 rfl) ?_
        refine lv_icmp_ne (tgt := 52) hx hb dX1_meld_45 (by decide) (fun c_5 => ?_) (fun c_5 => ?_)
        · refine lv_aload_n hx hb dX1_meld_52 rfl (lv_at hl 0 rfl) ?_
          refine g_get (C := RX1) (T := TX1) (N := 5) (ci := 1) (v := .ref o0) hx hb hts hin hown G 0 rfl rfl 2 (by decide) (hts (.fieldLink RX1 7 "SkewMeldsModel" "owners" "[I") (by decide +kernel)) rfl rfl dX1_meld_53 ?_
          refine lv_iload_n hx hb dX1_meld_56 rfl (lv_at hl 3 rfl) ?_
          refine g_ild hx hb G 1 0 rfl rfl (m_inb hx1 hx0 c_1) dX1_meld_57 ?_
          refine g_ist hx hb G 1 0 rfl rfl (m_inb hx1 hx0 c_1) (mw m0 o0 k0 t0 cI cZ (z_sO μ1 k (μ1.2.2.1 k.toNatClampNeg))) rfl dX1_meld_58 (fun H locs G => ?_)
          obtain ⟨v_6, ev_6⟩ : ∃ y : Int32, y = k + 1 := ⟨_, rfl⟩
          refine lv_iinc (v := v_6) (lv' := [(3, .int v_6), (0, .ref m0), (1, .int a0), (2, .int a1)]) hx hb dX1_meld_59 hl (k := 3) rfl (by rw [ev_6]; rfl) (by decide) rfl (fun ls hl => ?_)
          refine lv_goto (tgt := 25) hx hb dX1_meld_62 (by decide) ?_
          exact ih (z_sO μ1 k (μ1.2.2.1 k.toNatClampNeg)) v_6 _ _ _ (by subst ev_6; exact Nat.lt_of_lt_of_le (x_meas c_1) (Nat.le_of_lt_succ hm9)) (by subst ev_6; rw [← hinv]; (simp only [z_meL, c_1, c_5, ↓reduceIte]) <;> rfl) (by subst ev_6; exact m_nn hx0 c_1) (by subst ev_6; exact hx1) G (lv_sub hl [1, 2, 3, 0] rfl)
        · refine lv_iload_n hx hb dX1_meld_48 rfl (lv_at hl 1 rfl) ?_
          refine lv_goto (tgt := 58) hx hb dX1_meld_49 (by decide) ?_
          refine g_ist hx hb G 1 0 rfl rfl (m_inb hx1 hx0 c_1) (mw m0 o0 k0 t0 cI cZ (z_sO μ1 k a0)) rfl dX1_meld_58 (fun H locs G => ?_)
          obtain ⟨v_7, ev_7⟩ : ∃ y : Int32, y = k + 1 := ⟨_, rfl⟩
          refine lv_iinc (v := v_7) (lv' := [(3, .int v_7), (0, .ref m0), (1, .int a0), (2, .int a1)]) hx hb dX1_meld_59 hl (k := 3) rfl (by rw [ev_7]; rfl) (by decide) rfl (fun ls hl => ?_)
          refine lv_goto (tgt := 25) hx hb dX1_meld_62 (by decide) ?_
          exact ih (z_sO μ1 k a0) v_7 _ _ _ (by subst ev_7; exact Nat.lt_of_lt_of_le (x_meas c_1) (Nat.le_of_lt_succ hm9)) (by subst ev_7; rw [← hinv]; (simp only [z_meL, c_1, if_pos c_5, ↓reduceIte]) <;> rfl) (by subst ev_7; exact m_nn hx0 c_1) (by subst ev_7; exact hx1) G (lv_sub hl [1, 2, 3, 0] rfl)
  refine lv_aload_n hx hb dX1_meld_0 rfl (lv_at hl 0 rfl) ?_
  refine lv_iload_n hx hb dX1_meld_1 rfl (lv_at hl 1 rfl) ?_
  refine m_calli (As := [.int a0]) (rest := []) ⟨hx, hb, hml, hown, hts⟩ (kX1_isHeap l D m0 o0 k0 t0 cI cZ μ a0) (cwV 1 hts gX1_meld_X1_isHeap rfl rfl rfl (by decide +kernel) ⟨Nat.le_of_ble_eq_true rfl, Nat.le_of_ble_eq_true rfl⟩) G rfl hl.1 rfl (Nat.le_of_ble_eq_true rfl) dX1_meld_2 ⟨Nat.zero_le _, Nat.zero_le _⟩ (fun r_8 σ_9 H locs e_10 G => ?_)
  obtain ⟨rfl, rfl⟩ := e_10
  refine lv_if_eq (tgt := 21) hx hb dX1_meld_5 (by decide) (fun c_11 => ?_) (fun c_11 => ?_)
  · refine lv_iconst (v := (-1)) hx hb dX1_meld_21 (by decide) ?_
    exact g_iret (u := μ) E G (by (simp only [z_meld, c_11, ↓reduceIte]) <;> rfl) dX1_meld_22
  · refine lv_aload_n hx hb dX1_meld_8 rfl (lv_at hl 0 rfl) ?_
    refine lv_iload_n hx hb dX1_meld_9 rfl (lv_at hl 2 rfl) ?_
    refine m_calli (As := [.int a1]) (rest := []) ⟨hx, hb, hml, hown, hts⟩ (kX1_isHeap l D m0 o0 k0 t0 cI cZ μ a1) (cwV 1 hts gX1_meld_X1_isHeap rfl rfl rfl (by decide +kernel) ⟨Nat.le_of_ble_eq_true rfl, Nat.le_of_ble_eq_true rfl⟩) G rfl hl.1 rfl (Nat.le_of_ble_eq_true rfl) dX1_meld_10 ⟨Nat.zero_le _, Nat.zero_le _⟩ (fun r_12 σ_13 H locs e_14 G => ?_)
    obtain ⟨rfl, rfl⟩ := e_14
    refine lv_if_eq (tgt := 21) hx hb dX1_meld_13 (by decide) (fun c_15 => ?_) (fun c_15 => ?_)
    · refine lv_iconst (v := (-1)) hx hb dX1_meld_21 (by decide) ?_
      exact g_iret (u := μ) E G (by (simp only [z_meld, c_11, c_15, ↓reduceIte]) <;> rfl) dX1_meld_22
    · refine lv_iload_n hx hb dX1_meld_16 rfl (lv_at hl 1 rfl) ?_
      refine lv_iload_n hx hb dX1_meld_17 rfl (lv_at hl 2 rfl) ?_
      refine lv_icmp_ne (tgt := 23) hx hb dX1_meld_18 (by decide) (fun c_16 => ?_) (fun c_16 => ?_)
      · refine lv_iconst (v := 0) hx hb dX1_meld_23 (by decide) ?_
        refine lv_istore_n (lv' := [(3, .int 0), (0, .ref m0), (1, .int a0), (2, .int a1)]) hx hb dX1_meld_24 rfl hl (by decide) rfl (fun ls hl => ?_)
        exact loop (μ.2.1.toInt.toNat + 1) μ 0 _ _ _ (x_meas0) (by (simp only [z_meld, c_11, c_15, c_16, ↓reduceIte]) <;> rfl) (by decide) (hm) G (lv_sub hl [1, 2, 3, 0] rfl)
      · refine lv_iconst (v := (-1)) hx hb dX1_meld_21 (by decide) ?_
        exact g_iret (u := μ) E G (by (simp only [z_meld, c_11, c_15, if_pos c_16, ↓reduceIte]) <;> rfl) dX1_meld_22

set_option maxHeartbeats 4000000 in
set_option maxRecDepth 100000 in
theorem kX1_size (l : Launch) (D : va_G) (m0 o0 k0 t0 : Nat) (cI cZ : ClassId) (μ : Sm) (a0 : Int32) (hm : Mok μ) : gMi l yX1_size wsX1_size ({ frames := 1, cells := 0, slots := 0, locals := 23 }) D vwCl [(cI, .int), (cZ, .boolean)] [.ref m0, .int a0] (mw m0 o0 k0 t0 cI cZ) μ (fun r μ' => z_sizeM μ a0 = (r, μ')) := by
  refine gMi_of (cc := cX1_size) (maxL := 2) (ret := (some .int)) (by decide) rfl (Nat.le_of_ble_eq_true rfl) ?_
  intro p e s m below meth c A ls E G hl
  obtain ⟨hx, hb, hml, hr, hlocks, hown, hts, -, -⟩ := id E
  have hin : ∀ w ∈ wsX10, w ∈ wsX1_size := fun w h => List.mem_cons_of_mem _ (List.mem_append_right _ h)
  have hl : lv_has ls 2 [(0, .ref m0), (1, .int a0)] := hl
  refine lv_aload_n hx hb dX1_size_0 rfl (lv_at hl 0 rfl) ?_
  refine lv_iload_n hx hb dX1_size_1 rfl (lv_at hl 1 rfl) ?_
  refine m_calli (As := [.int a0]) (rest := []) ⟨hx, hb, hml, hown, hts⟩ (kX1_isHeap l D m0 o0 k0 t0 cI cZ μ a0) (cwV 1 hts gX1_size_X1_isHeap rfl rfl rfl (by decide +kernel) ⟨Nat.le_of_ble_eq_true rfl, Nat.le_of_ble_eq_true rfl⟩) G rfl hl.1 rfl (Nat.le_of_ble_eq_true rfl) dX1_size_2 ⟨Nat.zero_le _, Nat.zero_le _⟩ (fun r_1 σ_2 H locs e_3 G => ?_)
  obtain ⟨rfl, rfl⟩ := e_3
  refine lv_if_eq (tgt := 16) hx hb dX1_size_5 (by decide) (fun c_4 => ?_) (fun c_4 => ?_)
  · refine lv_iconst (v := (-1)) hx hb dX1_size_16 (by decide) ?_
    exact g_iret (u := μ) E G (by (simp only [z_sizeM, c_4, ↓reduceIte]) <;> rfl) dX1_size_17
  · refine lv_aload_n hx hb dX1_size_8 rfl (lv_at hl 0 rfl) ?_
    refine lv_iload_n hx hb dX1_size_9 rfl (lv_at hl 1 rfl) ?_
    refine m_calli (As := [.int a0]) (rest := []) ⟨hx, hb, hml, hown, hts⟩ (kX1_sizeOf l D m0 o0 k0 t0 cI cZ μ a0 hm) (cwV 1 hts gX1_size_X1_sizeOf rfl rfl rfl (by decide +kernel) ⟨Nat.le_of_ble_eq_true rfl, Nat.le_of_ble_eq_true rfl⟩) G rfl hl.1 rfl (Nat.le_of_ble_eq_true rfl) dX1_size_10 ⟨Nat.zero_le _, Nat.zero_le _⟩ (fun r_5 σ_6 H locs e_7 G => ?_)
    obtain ⟨rfl, rfl⟩ := e_7
    refine lv_goto (tgt := 17) hx hb dX1_size_13 (by decide) ?_
    exact g_iret (u := μ) E G (by (simp only [z_sizeM, c_4, ↓reduceIte]) <;> rfl) dX1_size_17

set_option maxHeartbeats 4000000 in
set_option maxRecDepth 100000 in
theorem kX1_sum (l : Launch) (D : va_G) (m0 o0 k0 t0 : Nat) (cI cZ : ClassId) (μ : Sm) (a0 : Int32) (hm : Mok μ) : gMl l yX1_sum wsX1_sum ({ frames := 1, cells := 0, slots := 0, locals := 21 }) D vwCl [(cI, .int), (cZ, .boolean)] [.ref m0, .int a0] (mw m0 o0 k0 t0 cI cZ) μ (fun r μ' => z_sum μ a0 = (r, μ')) := by
  refine gMl_of (cc := cX1_sum) (maxL := 5) (ret := (some .long)) (by decide) rfl (Nat.le_of_ble_eq_true rfl) ?_
  intro p e s m below meth c A ls E G hl
  obtain ⟨hx, hb, hml, hr, hlocks, hown, hts, -, -⟩ := id E
  have hin : ∀ w ∈ wsX10, w ∈ wsX1_sum := fun w h => List.mem_cons_of_mem _ (List.mem_append_right _ h)
  have hl : lv_has ls 5 [(0, .ref m0), (1, .int a0)] := hl
  have loop : ∀ (n : Nat) (t : Int64) (k : Int32) (H : Heap) (locs : List Loc) (ls : Array Slot), (μ.2.1.toInt - k.toInt).toNat < n → (z_suL μ a0 n t k, μ) = z_sum μ a0 → 0 ≤ k.toInt → gG D vwCl [(cI, .int), (cZ, .boolean)] A s (mw m0 o0 k0 t0 cI cZ μ) H locs → lv_has ls 5 [(0, .ref m0), (1, .int a0), (2, .long t), (4, .int k)] → W p l e ({ frames := 1, cells := 0, slots := 0, locals := 21 }) s m [.ref m0, .int a0].toArray below meth c H locs 0 0 (MQ below (va_Ql (fun r μ' => z_sum μ a0 = (r, μ')) (gB D vwCl [(cI, .int), (cZ, .boolean)] A (mw m0 o0 k0 t0 cI cZ)) A) [.ref m0, .int a0].toArray s 0 0 A) (F0 m 5 ls []) := by
    intro n
    induction n with
    | zero => intro t k H locs ls hm9; exact absurd hm9 (Nat.not_lt_zero _)
    | succ n ih =>
      intro t k H locs ls hm9 hinv hx0 G hl
      refine lv_iload hx hb dX1_sum_5 (lv_at hl 3 rfl) ?_
      refine lv_aload_n hx hb dX1_sum_7 rfl (lv_at hl 0 rfl) ?_
      refine g_get (C := RX1) (T := TX1) (N := 5) (ci := 1) (v := .int μ.2.1) hx hb hts hin hown G 0 rfl rfl 1 (by decide) (hts (.fieldLink RX1 24 "SkewMeldsModel" "used" "I") (by decide +kernel)) rfl rfl dX1_sum_8 ?_
      refine lv_icmp_ge (tgt := 54) hx hb dX1_sum_11 (by decide) (fun c_1 => ?_) (fun c_1 => ?_)
      · refine lv_lload_n hx hb dX1_sum_54 rfl (lv_at hl 2 rfl) ?_
        exact g_lret (u := μ) E G (by rw [← hinv]; (simp only [z_suL, c_1, ↓reduceIte]) <;> rfl) dX1_sum_55
      · refine lv_lload_n hx hb dX1_sum_14 rfl (lv_at hl 2 rfl) ?_
        refine lv_aload_n hx hb dX1_sum_15 rfl (lv_at hl 0 rfl) ?_
        refine lv_iload_n hx hb dX1_sum_16 rfl (lv_at hl 1 rfl) ?_
        refine m_calli (As := [.int a0]) (rest := [.long t]) ⟨hx, hb, hml, hown, hts⟩ (kX1_isHeap l D m0 o0 k0 t0 cI cZ μ a0) (cwV 1 hts gX1_sum_X1_isHeap rfl rfl rfl (by decide +kernel) ⟨Nat.le_of_ble_eq_true rfl, Nat.le_of_ble_eq_true rfl⟩) G rfl hl.1 rfl (Nat.le_of_ble_eq_true rfl) dX1_sum_17 ⟨Nat.zero_le _, Nat.zero_le _⟩ (fun r_2 σ_3 H locs e_4 G => ?_)
        obtain ⟨rfl, rfl⟩ := e_4
        refine lv_if_eq (tgt := 45) hx hb dX1_sum_20 (by decide) (fun c_5 => ?_) (fun c_5 => ?_)
        · refine lv_lconst (v := 0) hx hb dX1_sum_45 (by decide) ?_
          refine lv_ladd hx hb dX1_sum_46 ?_
          refine lv_topl (fun v_6 ev_6 => ?_)
          refine lv_lstore_n (lv' := [(2, .long v_6), (0, .ref m0), (1, .int a0), (4, .int k)]) hx hb dX1_sum_47 rfl hl (by decide) rfl (fun ls hl => ?_)
          obtain ⟨v_7, ev_7⟩ : ∃ y : Int32, y = k + 1 := ⟨_, rfl⟩
          refine lv_iinc (v := v_7) (lv' := [(4, .int v_7), (2, .long v_6), (0, .ref m0), (1, .int a0)]) hx hb dX1_sum_48 hl (k := 3) rfl (by rw [ev_7]; rfl) (by decide) rfl (fun ls hl => ?_)
          refine lv_goto (tgt := 5) hx hb dX1_sum_51 (by decide) ?_
          exact ih  v_6 v_7 _ _ _ (by subst ev_7; subst ev_6; exact Nat.lt_of_lt_of_le (x_meas c_1) (Nat.le_of_lt_succ hm9)) (by subst ev_7; subst ev_6; rw [← hinv]; (simp only [z_suL, c_1, c_5, ↓reduceIte]) <;> rfl) (by subst ev_7; subst ev_6; exact m_nn hx0 c_1) G (lv_sub hl [2, 3, 1, 0] rfl)
        · refine lv_aload_n hx hb dX1_sum_23 rfl (lv_at hl 0 rfl) ?_
          refine g_get (C := RX1) (T := TX1) (N := 5) (ci := 1) (v := .ref o0) hx hb hts hin hown G 0 rfl rfl 2 (by decide) (hts (.fieldLink RX1 7 "SkewMeldsModel" "owners" "[I") (by decide +kernel)) rfl rfl dX1_sum_24 ?_
          refine lv_iload hx hb dX1_sum_27 (lv_at hl 3 rfl) ?_
          refine g_ild hx hb G 1 0 rfl rfl (m_inb hm hx0 c_1) dX1_sum_29 ?_
          refine lv_iload_n hx hb dX1_sum_30 rfl (lv_at hl 1 rfl) ?_
          refine lv_icmp_ne (tgt := 45) hx hb dX1_sum_31 (by decide) (fun c_8 => ?_) (fun c_8 => ?_)
          · refine lv_lconst (v := 0) hx hb dX1_sum_45 (by decide) ?_
            refine lv_ladd hx hb dX1_sum_46 ?_
            refine lv_topl (fun v_9 ev_9 => ?_)
            refine lv_lstore_n (lv' := [(2, .long v_9), (0, .ref m0), (1, .int a0), (4, .int k)]) hx hb dX1_sum_47 rfl hl (by decide) rfl (fun ls hl => ?_)
            obtain ⟨v_10, ev_10⟩ : ∃ y : Int32, y = k + 1 := ⟨_, rfl⟩
            refine lv_iinc (v := v_10) (lv' := [(4, .int v_10), (2, .long v_9), (0, .ref m0), (1, .int a0)]) hx hb dX1_sum_48 hl (k := 3) rfl (by rw [ev_10]; rfl) (by decide) rfl (fun ls hl => ?_)
            refine lv_goto (tgt := 5) hx hb dX1_sum_51 (by decide) ?_
            exact ih  v_9 v_10 _ _ _ (by subst ev_10; subst ev_9; exact Nat.lt_of_lt_of_le (x_meas c_1) (Nat.le_of_lt_succ hm9)) (by subst ev_10; subst ev_9; rw [← hinv]; (simp only [z_suL, c_1, c_5, c_8, ↓reduceIte]) <;> rfl) (by subst ev_10; subst ev_9; exact m_nn hx0 c_1) G (lv_sub hl [2, 3, 1, 0] rfl)
          · refine lv_aload_n hx hb dX1_sum_34 rfl (lv_at hl 0 rfl) ?_
            refine g_get (C := RX1) (T := TX1) (N := 5) (ci := 1) (v := .ref k0) hx hb hts hin hown G 0 rfl rfl 3 (by decide) (hts (.fieldLink RX1 13 "SkewMeldsModel" "keys" "[I") (by decide +kernel)) rfl rfl dX1_sum_35 ?_
            refine lv_iload hx hb dX1_sum_38 (lv_at hl 3 rfl) ?_
            refine g_ild hx hb G 2 0 rfl rfl (m_inb hm hx0 c_1) dX1_sum_40 ?_
            refine lv_i2l (v := (μ.2.2.2.1 k.toNatClampNeg).toInt64) hx hb dX1_sum_41 rfl ?_
            refine lv_goto (tgt := 46) hx hb dX1_sum_42 (by decide) ?_
            refine lv_ladd hx hb dX1_sum_46 ?_
            refine lv_topl (fun v_11 ev_11 => ?_)
            refine lv_lstore_n (lv' := [(2, .long v_11), (0, .ref m0), (1, .int a0), (4, .int k)]) hx hb dX1_sum_47 rfl hl (by decide) rfl (fun ls hl => ?_)
            obtain ⟨v_12, ev_12⟩ : ∃ y : Int32, y = k + 1 := ⟨_, rfl⟩
            refine lv_iinc (v := v_12) (lv' := [(4, .int v_12), (2, .long v_11), (0, .ref m0), (1, .int a0)]) hx hb dX1_sum_48 hl (k := 3) rfl (by rw [ev_12]; rfl) (by decide) rfl (fun ls hl => ?_)
            refine lv_goto (tgt := 5) hx hb dX1_sum_51 (by decide) ?_
            exact ih  v_11 v_12 _ _ _ (by subst ev_12; subst ev_11; exact Nat.lt_of_lt_of_le (x_meas c_1) (Nat.le_of_lt_succ hm9)) (by subst ev_12; subst ev_11; rw [← hinv]; (simp only [z_suL, c_1, c_5, if_pos c_8, ↓reduceIte]) <;> rfl) (by subst ev_12; subst ev_11; exact m_nn hx0 c_1) G (lv_sub hl [2, 3, 1, 0] rfl)
  refine lv_lconst (v := 0) hx hb dX1_sum_0 (by decide) ?_
  refine lv_lstore_n (lv' := [(2, .long 0), (0, .ref m0), (1, .int a0)]) hx hb dX1_sum_1 rfl hl (by decide) rfl (fun ls hl => ?_)
  refine lv_iconst (v := 0) hx hb dX1_sum_2 (by decide) ?_
  refine lv_istore (lv' := [(4, .int 0), (2, .long 0), (0, .ref m0), (1, .int a0)]) hx hb dX1_sum_3 hl (by decide) rfl (fun ls hl => ?_)
  exact loop (μ.2.1.toInt.toNat + 1)  0 0 _ _ _ (x_meas0) (by (simp only [z_sum, ↓reduceIte]) <;> rfl) (by decide) G (lv_sub hl [2, 3, 1, 0] rfl)

set_option maxHeartbeats 4000000 in
set_option maxRecDepth 100000 in
theorem kX1_free (l : Launch) (D : va_G) (m0 o0 k0 t0 : Nat) (cI cZ : ClassId) (μ : Sm) : gMi l yX1_free wsX1_free ({ frames := 0, cells := 0, slots := 0, locals := 0 }) D vwCl [(cI, .int), (cZ, .boolean)] [.ref m0] (mw m0 o0 k0 t0 cI cZ) μ (fun r μ' => z_free μ = (r, μ')) := by
  refine gMi_of (cc := cX1_free) (maxL := 1) (ret := (some .int)) (by decide) rfl (Nat.le_of_ble_eq_true rfl) ?_
  intro p e s m below meth c A ls E G hl
  obtain ⟨hx, hb, hml, hr, hlocks, hown, hts, -, -⟩ := id E
  have hin : ∀ w ∈ wsX10, w ∈ wsX1_free := fun w h => List.mem_cons_of_mem _ (List.mem_append_right _ h)
  have hl : lv_has ls 1 [(0, .ref m0)] := hl
  refine lv_sipush (v := 200) hx hb dX1_free_0 (by decide) ?_
  refine lv_aload_n hx hb dX1_free_3 rfl (lv_at hl 0 rfl) ?_
  refine g_get (C := RX1) (T := TX1) (N := 5) (ci := 1) (v := .int μ.2.1) hx hb hts hin hown G 0 rfl rfl 1 (by decide) (hts (.fieldLink RX1 24 "SkewMeldsModel" "used" "I") (by decide +kernel)) rfl rfl dX1_free_4 ?_
  refine lv_isub hx hb dX1_free_7 ?_
  exact g_iret (u := μ) E G (by (simp only [z_free, ↓reduceIte]) <;> rfl) dX1_free_8

set_option maxHeartbeats 4000000 in
set_option maxRecDepth 100000 in
theorem kX1_few (l : Launch) (D : va_G) (m0 o0 k0 t0 : Nat) (cI cZ : ClassId) (μ : Sm) : gMi l yX1_few wsX1_few ({ frames := 0, cells := 0, slots := 0, locals := 0 }) D vwCl [(cI, .int), (cZ, .boolean)] [.ref m0] (mw m0 o0 k0 t0 cI cZ) μ (fun r μ' => r = 1 ∧ μ = μ') := by
  refine gMi_of (cc := cX1_few) (maxL := 1) (ret := (some .boolean)) (by decide) rfl (Nat.le_of_ble_eq_true rfl) ?_
  intro p e s m below meth c A ls E G hl
  obtain ⟨hx, hb, hml, hr, hlocks, hown, hts, -, -⟩ := id E
  have hl : lv_has ls 1 [(0, .ref m0)] := hl
  refine lv_iconst (v := 1) hx hb dX1_few_0 (by decide) ?_
  exact g_zret (u := μ) E G (by decide) (⟨rfl, rfl⟩) dX1_few_1

set_option maxHeartbeats 4000000 in
set_option maxRecDepth 100000 in
theorem kX1_key (l : Launch) (D : va_G) (m0 o0 k0 t0 : Nat) (cI cZ : ClassId) (μ : Sm) (a0 : Int32) (a1 : Int32) (hm : Mok μ) (hk : ¬ z_is μ a0 = 0 → ¬ a1 < 0 → a1 < z_size μ a0 → z_keOk a0 a1 (a1.toInt.toNat + 1) (z_untell μ) 0) : gMl l yX1_key wsX1_key ({ frames := 1, cells := 0, slots := 0, locals := 23 }) D vwCl [(cI, .int), (cZ, .boolean)] [.ref m0, .int a0, .int a1] (mw m0 o0 k0 t0 cI cZ) μ (fun r μ' => z_key μ a0 a1 = (r, μ')) := by
  refine gMl_of (cc := cX1_key) (maxL := 4) (ret := (some .long)) (by decide) rfl (Nat.le_of_ble_eq_true rfl) ?_
  intro p e s m below meth c A ls E G hl
  obtain ⟨hx, hb, hml, hr, hlocks, hown, hts, -, -⟩ := id E
  have hin : ∀ w ∈ wsX10, w ∈ wsX1_key := fun w h => List.mem_cons_of_mem _ (List.mem_append_right _ h)
  have hl : lv_has ls 4 [(0, .ref m0), (1, .int a0), (2, .int a1)] := hl
  have loop : ∀ (n : Nat) (μ1 : Sm) (k : Int32) (H : Heap) (locs : List Loc) (ls : Array Slot), (a1.toInt - k.toInt).toNat < n → (((z_keL a0 a1 n μ1 k).2.2.2.1 (z_place (z_keL a0 a1 n μ1 k) a0).toNatClampNeg).toInt64, z_keL a0 a1 n μ1 k) = z_key μ a0 a1 → Mok μ1 → z_keOk a0 a1 n μ1 k → gG D vwCl [(cI, .int), (cZ, .boolean)] A s (mw m0 o0 k0 t0 cI cZ μ1) H locs → lv_has ls 4 [(0, .ref m0), (1, .int a0), (2, .int a1), (3, .int k)] → W p l e ({ frames := 1, cells := 0, slots := 0, locals := 23 }) s m [.ref m0, .int a0, .int a1].toArray below meth c H locs 0 0 (MQ below (va_Ql (fun r μ' => z_key μ a0 a1 = (r, μ')) (gB D vwCl [(cI, .int), (cZ, .boolean)] A (mw m0 o0 k0 t0 cI cZ)) A) [.ref m0, .int a0, .int a1].toArray s 0 0 A) (F0 m 31 ls []) := by
    intro n
    induction n with
    | zero => intro μ1 k H locs ls hm9; exact absurd hm9 (Nat.not_lt_zero _)
    | succ n ih =>
      intro μ1 k H locs ls hm9 hinv hx0 hx1 G hl
      refine lv_iload_n hx hb dX1_key_31 rfl (lv_at hl 3 rfl) ?_
      refine lv_iload_n hx hb dX1_key_32 rfl (lv_at hl 2 rfl) ?_
      refine lv_icmp_ge (tgt := 53) hx hb dX1_key_33 (by decide) (fun c_1 => ?_) (fun c_1 => ?_)
      · refine lv_aload_n hx hb dX1_key_53 rfl (lv_at hl 0 rfl) ?_
        refine g_get (C := RX1) (T := TX1) (N := 5) (ci := 1) (v := .ref k0) hx hb hts hin hown G 0 rfl rfl 3 (by decide) (hts (.fieldLink RX1 13 "SkewMeldsModel" "keys" "[I") (by decide +kernel)) rfl rfl dX1_key_54 ?_
        refine lv_aload_n hx hb dX1_key_57 rfl (lv_at hl 0 rfl) ?_
        refine lv_iload_n hx hb dX1_key_58 rfl (lv_at hl 1 rfl) ?_
        refine m_calli (As := [.int a0]) (rest := [.ref k0]) ⟨hx, hb, hml, hown, hts⟩ (kX1_placeOf l D m0 o0 k0 t0 cI cZ μ1 a0 hx0) (cwV 1 hts gX1_key_X1_placeOf rfl rfl rfl (by decide +kernel) ⟨Nat.le_of_ble_eq_true rfl, Nat.le_of_ble_eq_true rfl⟩) G rfl hl.1 rfl (Nat.le_of_ble_eq_true rfl) dX1_key_59 ⟨Nat.zero_le _, Nat.zero_le _⟩ (fun r_2 σ_3 H locs e_4 G => ?_)
        obtain ⟨rfl, rfl⟩ := e_4
        refine g_ild hx hb G 2 0 rfl rfl (hx1.1) dX1_key_62 ?_
        refine lv_i2l (v := (μ1.2.2.2.1 (z_place μ1 a0).toNatClampNeg).toInt64) hx hb dX1_key_63 rfl ?_
        exact g_lret (u := μ1) E G (by rw [← hinv]; (simp only [z_keL, c_1, ↓reduceIte]) <;> rfl) dX1_key_64
      · refine lv_aload_n hx hb dX1_key_36 rfl (lv_at hl 0 rfl) ?_
        refine g_get (C := RX1) (T := TX1) (N := 5) (ci := 1) (v := .ref t0) hx hb hts hin hown G 0 rfl rfl 4 (by decide) (hts (.fieldLink RX1 16 "SkewMeldsModel" "told" "[Z") (by decide +kernel)) rfl rfl dX1_key_37 ?_
        refine lv_aload_n hx hb dX1_key_40 rfl (lv_at hl 0 rfl) ?_
        refine lv_iload_n hx hb dX1_key_41 rfl (lv_at hl 1 rfl) ?_
        refine m_calli (As := [.int a0]) (rest := [.ref t0]) ⟨hx, hb, hml, hown, hts⟩ (kX1_placeOf l D m0 o0 k0 t0 cI cZ μ1 a0 hx0) (cwV 1 hts gX1_key_X1_placeOf rfl rfl rfl (by decide +kernel) ⟨Nat.le_of_ble_eq_true rfl, Nat.le_of_ble_eq_true rfl⟩) G rfl hl.1 rfl (Nat.le_of_ble_eq_true rfl) dX1_key_42 ⟨Nat.zero_le _, Nat.zero_le _⟩ (fun r_5 σ_6 H locs e_7 G => ?_)
        obtain ⟨rfl, rfl⟩ := e_7
        refine lv_iconst (v := 1) hx hb dX1_key_45 (by decide) ?_
        refine g_zst hx hb G 3 1 rfl rfl (hx1.1) (mw m0 o0 k0 t0 cI cZ (z_sT μ1 (z_place μ1 a0) 1)) rfl dX1_key_46 (fun H locs G => ?_)
        obtain ⟨v_8, ev_8⟩ : ∃ y : Int32, y = k + 1 := ⟨_, rfl⟩
        refine lv_iinc (v := v_8) (lv' := [(3, .int v_8), (0, .ref m0), (1, .int a0), (2, .int a1)]) hx hb dX1_key_47 hl (k := 3) rfl (by rw [ev_8]; rfl) (by decide) rfl (fun ls hl => ?_)
        refine lv_goto (tgt := 31) hx hb dX1_key_50 (by decide) ?_
        exact ih (z_sT μ1 (z_place μ1 a0) 1) v_8 _ _ _ (by subst ev_8; exact Nat.lt_of_lt_of_le (x_meas c_1) (Nat.le_of_lt_succ hm9)) (by subst ev_8; rw [← hinv]; (simp only [z_keL, c_1, ↓reduceIte]) <;> rfl) (by subst ev_8; exact hx0) (by subst ev_8; exact hx1.2.resolve_left c_1) G (lv_sub hl [1, 2, 3, 0] rfl)
  refine lv_aload_n hx hb dX1_key_0 rfl (lv_at hl 0 rfl) ?_
  refine lv_iload_n hx hb dX1_key_1 rfl (lv_at hl 1 rfl) ?_
  refine m_calli (As := [.int a0]) (rest := []) ⟨hx, hb, hml, hown, hts⟩ (kX1_isHeap l D m0 o0 k0 t0 cI cZ μ a0) (cwV 1 hts gX1_key_X1_isHeap rfl rfl rfl (by decide +kernel) ⟨Nat.le_of_ble_eq_true rfl, Nat.le_of_ble_eq_true rfl⟩) G rfl hl.1 rfl (Nat.le_of_ble_eq_true rfl) dX1_key_2 ⟨Nat.zero_le _, Nat.zero_le _⟩ (fun r_9 σ_10 H locs e_11 G => ?_)
  obtain ⟨rfl, rfl⟩ := e_11
  refine lv_if_eq (tgt := 21) hx hb dX1_key_5 (by decide) (fun c_12 => ?_) (fun c_12 => ?_)
  · refine lv_ldc2 hx hb hown (hts (.constantLong RX1 41 (-9223372036854775808)) (by decide +kernel)) dX1_key_21 ?_
    exact g_lret (u := μ) E G (by (simp only [z_key, c_12, ↓reduceIte]) <;> rfl) dX1_key_24
  · refine lv_iload_n hx hb dX1_key_8 rfl (lv_at hl 2 rfl) ?_
    refine lv_if_lt (tgt := 21) hx hb dX1_key_9 (by decide) (fun c_13 => ?_) (fun c_13 => ?_)
    · refine lv_ldc2 hx hb hown (hts (.constantLong RX1 41 (-9223372036854775808)) (by decide +kernel)) dX1_key_21 ?_
      exact g_lret (u := μ) E G (by (simp only [z_key, c_12, c_13, ↓reduceIte]) <;> rfl) dX1_key_24
    · refine lv_iload_n hx hb dX1_key_12 rfl (lv_at hl 2 rfl) ?_
      refine lv_aload_n hx hb dX1_key_13 rfl (lv_at hl 0 rfl) ?_
      refine lv_iload_n hx hb dX1_key_14 rfl (lv_at hl 1 rfl) ?_
      refine m_calli (As := [.int a0]) (rest := [.int a1]) ⟨hx, hb, hml, hown, hts⟩ (kX1_sizeOf l D m0 o0 k0 t0 cI cZ μ a0 hm) (cwV 1 hts gX1_key_X1_sizeOf rfl rfl rfl (by decide +kernel) ⟨Nat.le_of_ble_eq_true rfl, Nat.le_of_ble_eq_true rfl⟩) G rfl hl.1 rfl (Nat.le_of_ble_eq_true rfl) dX1_key_15 ⟨Nat.zero_le _, Nat.zero_le _⟩ (fun r_14 σ_15 H locs e_16 G => ?_)
      obtain ⟨rfl, rfl⟩ := e_16
      refine lv_icmp_lt (tgt := 25) hx hb dX1_key_18 (by decide) (fun c_17 => ?_) (fun c_17 => ?_)
      · refine lv_aload_n hx hb dX1_key_25 rfl (lv_at hl 0 rfl) ?_
        refine m_callv (As := []) (rest := []) ⟨hx, hb, hml, hown, hts⟩ (kX1_untell l D m0 o0 k0 t0 cI cZ μ) (cwV 0 hts gX1_key_X1_untell rfl rfl rfl (by decide +kernel) ⟨Nat.le_of_ble_eq_true rfl, Nat.le_of_ble_eq_true rfl⟩) G rfl hl.1 rfl (Nat.le_of_ble_eq_true rfl) dX1_key_26 ⟨Nat.zero_le _, Nat.zero_le _⟩ (fun σ_19 H locs e_20 G => ?_)
        refine lv_iconst (v := 0) hx hb dX1_key_29 (by decide) ?_
        refine lv_istore_n (lv' := [(3, .int 0), (0, .ref m0), (1, .int a0), (2, .int a1)]) hx hb dX1_key_30 rfl hl (by decide) rfl (fun ls hl => ?_)
        exact loop (a1.toInt.toNat + 1) σ_19 0 _ _ _ (x_meas0) (by (simp only [z_key, c_12, c_13, c_17, e_20, ↓reduceIte]) <;> rfl) (by rw [← e_20]; exact un_ok hm) (by rw [← e_20]; exact hk c_12 c_13 c_17) G (lv_sub hl [1, 2, 3, 0] rfl)
      · refine lv_ldc2 hx hb hown (hts (.constantLong RX1 41 (-9223372036854775808)) (by decide +kernel)) dX1_key_21 ?_
        exact g_lret (u := μ) E G (by (simp only [z_key, c_12, c_13, c_17, ↓reduceIte]) <;> rfl) dX1_key_24
end
section
/-! SkewMeldsModel(): three rows of 200 -/
abbrev m_new : Sm := (0, 0, fun _ => 0, fun _ => 0, fun _ => 0)
set_option maxHeartbeats 4000000 in
set_option maxRecDepth 100000 in
theorem kX1_init (l : Launch) (D : va_G) (m0 sz : Nat) : Met l yX1_init wsX1_init ({ frames := 1, cells := 3, slots := 600, locals := 12 })
    (va_Pc [.ref m0] (gP D vwCl [] sz [(m0, .inr (1, [.int 0, .int 0, .null, .null, .null]))]))
    (va_Qv (fun _ : (Nat × Nat × Nat) × (ClassId × ClassId) => True) (fun u t => va_P D vwCl (mw m0 u.1.1 u.1.2.1 u.1.2.2 u.2.1 u.2.2 m_new) t.heap ∧ va_K D vwCl [(u.2.1, .int), (u.2.2, .boolean)] t ∧ va_D (va_A [(m0, .inr (1, [.int 0, .int 0, .null, .null, .null]))] sz) (mw m0 u.1.1 u.1.2.1 u.1.2.2 u.2.1 u.2.2 m_new)) (va_A [(m0, .inr (1, [.int 0, .int 0, .null, .null, .null]))] sz)) 3 600 (va_A [(m0, .inr (1, [.int 0, .int 0, .null, .null, .null]))] sz) := by
  refine Met.ofW (cc := cX1_init) (maxL := 1) (ret := none) (by decide) rfl ?_
  intro p e s m args below meth c s₁ B hml hv
  obtain ⟨rfl, hsz, hP, hK, hD0⟩ := hv
  have hx := B.exec
  have hb := B.bytes
  have hr := B.returns
  have hts := atoms_spec (ws := wsX1_init) B.pre
  have hown : s.vm.findClass RX1 = some m.cls := findClass_of_methodNamed B.named
  have hlocks := B.notSynchronized
  have hnm : meth.name = "<init>" := (name_of_methodNamed B.named B.method).1
  have hin : ∀ w ∈ wsX10, w ∈ wsX1_init := fun w h => List.mem_cons_of_mem _ (List.mem_append_right _ h)
  subst hsz
  have hD := hD0.self (sz := s.heap.size)
  generalize hAe : va_A [(m0, .inr (1, [.int 0, .int 0, .null, .null, .null]))] s.heap.size = A at hD ⊢
  have hA : ∀ q : Nat, s.heap.size ≤ q → A q := fun q h => by rw [← hAe]; exact Or.inr h
  have hS : va_S A s.heap s.heap [] := va_S.rf
  have hl := lv_entry ([.ref m0]) (n := 1) (Nat.le_of_ble_eq_true rfl)
  rw [lg_entry_eq]
  generalize (lg_sl ([.ref m0]) ++ List.replicate (1 - (lg_sl ([.ref m0])).length) Slot.unset).toArray = ls at hl ⊢
  have hl : lv_has ls 1 [(0, .ref m0)] := hl
  refine lv_aload_n hx hb dX1_init_0 rfl (lv_at hl 0 rfl) ?_
  refine W.objInit hx hb hown (hts (.methodLink RX1 1 objectInit) (by decide +kernel)) (hts (.instanceMethod objectInit) (by decide +kernel)) (hts _ (List.mem_cons_of_mem _ (List.mem_append_left _ (List.mem_of_getElem? (i := 2) rfl)))) rfl (by rw [hml]; exact hl.1) rfl dX1_init_1 (Nat.le_of_ble_eq_true rfl) (Nat.le_of_ble_eq_true rfl) ?_
  refine W.eq (g2 := F0 m 4 ls []) rfl ?_
  refine lv_aload_n hx hb dX1_init_4 rfl (lv_at hl 0 rfl) ?_
  refine lv_sipush (v := 200) hx hb dX1_init_5 (by decide) ?_
  refine va_newa (atype := .int) (ty := .int) (N' := 200) (a0 := (200, .inl (fun _ => 0))) hx hb (hts (.arrayClass .int) (by decide +kernel)) rfl hK hP hD hS hA (fun _ => rfl) (by decide) (by decide) (by decide) (Nat.le_of_ble_eq_true rfl) (Nat.le_of_ble_eq_true rfl) dX1_init_8 (fun o0 cI H hK hP hD hS => ?_)
  have hP : va_P D vwCl [(m0, .inr (1, [.int 0, .int 0, .null, .null, .null])), (o0, .inl (cI, 200, .inl (fun _ => 0)))] H := hP
  have hD : va_D A [(m0, .inr (1, [.int 0, .int 0, .null, .null, .null])), (o0, .inl (cI, 200, .inl (fun _ => 0)))] := hD
  have hK : va_K D vwCl [(cI, .int)] s := hK
  refine va_putF (D := D) (ci := 1) (v := .ref o0) (ty := .array .int) (C := RX1) (T := TX1) (N := 5) hx hb hts hin tyX1 tyX1_ok nmX1 hown hK hP hD hS 0 rfl rfl 2 (by decide) (hts (.fieldLink RX1 7 "SkewMeldsModel" "owners" "[I") (by decide +kernel)) (fun _ h9 => h9) rfl hnm rfl (by decide +kernel) rfl rfl (Nat.le_of_ble_eq_true rfl) dX1_init_10 (fun H locs hP hD hS => ?_)
  have hP : va_P D vwCl [(m0, .inr (1, [.int 0, .int 0, .ref o0, .null, .null])), (o0, .inl (cI, 200, .inl (fun _ => 0)))] H := hP
  have hD : va_D A [(m0, .inr (1, [.int 0, .int 0, .ref o0, .null, .null])), (o0, .inl (cI, 200, .inl (fun _ => 0)))] := hD
  refine lv_aload_n hx hb dX1_init_13 rfl (lv_at hl 0 rfl) ?_
  refine lv_sipush (v := 200) hx hb dX1_init_14 (by decide) ?_
  refine va_newa (atype := .int) (ty := .int) (N' := 200) (a0 := (200, .inl (fun _ => 0))) hx hb (hts (.arrayClass .int) (by decide +kernel)) rfl hK hP hD hS hA (fun _ => rfl) (by decide) (by decide) (by decide) (Nat.le_of_ble_eq_true rfl) (Nat.le_of_ble_eq_true rfl) dX1_init_17 (fun k0 cI2 H hK hP hD hS => ?_)
  have hK : va_K D vwCl [(cI, .int), (cI2, .int)] s := hK
  have ecI : cI2 = cI := by
    have h1 : s.vm.findClass ("[" ++ FieldType.int.toString) = some cI := (hK.2 0 _ rfl).2
    have h2 : s.vm.findClass ("[" ++ FieldType.int.toString) = some cI2 := (hK.2 1 _ rfl).2
    exact Option.some.inj (h2.symm.trans h1)
  subst ecI
  have hP : va_P D vwCl [(m0, .inr (1, [.int 0, .int 0, .ref o0, .null, .null])), (o0, .inl (cI2, 200, .inl (fun _ => 0))), (k0, .inl (cI2, 200, .inl (fun _ => 0)))] H := hP
  have hD : va_D A [(m0, .inr (1, [.int 0, .int 0, .ref o0, .null, .null])), (o0, .inl (cI2, 200, .inl (fun _ => 0))), (k0, .inl (cI2, 200, .inl (fun _ => 0)))] := hD
  have hK : va_K D vwCl [(cI2, .int)] s := hK.sub [0] rfl
  refine va_putF (D := D) (ci := 1) (v := .ref k0) (ty := .array .int) (C := RX1) (T := TX1) (N := 5) hx hb hts hin tyX1 tyX1_ok nmX1 hown hK hP hD hS 0 rfl rfl 3 (by decide) (hts (.fieldLink RX1 13 "SkewMeldsModel" "keys" "[I") (by decide +kernel)) (fun _ h9 => h9) rfl hnm rfl (by decide +kernel) rfl rfl (Nat.le_of_ble_eq_true rfl) dX1_init_19 (fun H locs hP hD hS => ?_)
  have hP : va_P D vwCl [(m0, .inr (1, [.int 0, .int 0, .ref o0, .ref k0, .null])), (o0, .inl (cI2, 200, .inl (fun _ => 0))), (k0, .inl (cI2, 200, .inl (fun _ => 0)))] H := hP
  have hD : va_D A [(m0, .inr (1, [.int 0, .int 0, .ref o0, .ref k0, .null])), (o0, .inl (cI2, 200, .inl (fun _ => 0))), (k0, .inl (cI2, 200, .inl (fun _ => 0)))] := hD
  refine lv_aload_n hx hb dX1_init_22 rfl (lv_at hl 0 rfl) ?_
  refine lv_sipush (v := 200) hx hb dX1_init_23 (by decide) ?_
  refine va_newa (atype := .boolean) (ty := .boolean) (N' := 200) (a0 := (200, .inl (fun _ => 0))) hx hb (hts (.arrayClass .boolean) (by decide +kernel)) rfl hK hP hD hS hA (fun _ => rfl) (by decide) (by decide) (by decide) (Nat.le_of_ble_eq_true rfl) (Nat.le_of_ble_eq_true rfl) dX1_init_26 (fun t0 cZ H hK hP hD hS => ?_)
  have hK : va_K D vwCl [(cI2, .int), (cZ, .boolean)] s := hK
  have hP : va_P D vwCl [(m0, .inr (1, [.int 0, .int 0, .ref o0, .ref k0, .null])), (o0, .inl (cI2, 200, .inl (fun _ => 0))), (k0, .inl (cI2, 200, .inl (fun _ => 0))), (t0, .inl (cZ, 200, .inl (fun _ => 0)))] H := hP
  have hD : va_D A [(m0, .inr (1, [.int 0, .int 0, .ref o0, .ref k0, .null])), (o0, .inl (cI2, 200, .inl (fun _ => 0))), (k0, .inl (cI2, 200, .inl (fun _ => 0))), (t0, .inl (cZ, 200, .inl (fun _ => 0)))] := hD
  refine W.widen (k := 3) (n := 600) (by omega) (by omega) ?_
  refine va_putF (D := D) (ci := 1) (v := .ref t0) (ty := .array .boolean) (C := RX1) (T := TX1) (N := 5) hx hb hts hin tyX1 tyX1_ok nmX1 hown hK hP hD hS 0 rfl rfl 4 (by decide) (hts (.fieldLink RX1 16 "SkewMeldsModel" "told" "[Z") (by decide +kernel)) (fun _ h9 => h9) rfl hnm rfl (by decide +kernel) rfl rfl (Nat.le_of_ble_eq_true rfl) dX1_init_28 (fun H locs hP hD hS => ?_)
  have hP : va_P D vwCl (mw m0 o0 k0 t0 cI2 cZ m_new) H := hP
  have hD : va_D A (mw m0 o0 k0 t0 cI2 cZ m_new) := hD
  exact W.vret hx hb hr (fun t ht hW => ⟨⟨((o0, k0, t0), (cI2, cZ)), rfl, trivial, by rw [ht]; exact hP, va_K.moved hW.alike hK, hD⟩, hS.F ht⟩) hS.2.2 dX1_init_31
end
section
/-! what the reference's methods do, in terms of the keys of each heap -/
def MK (μ : Sm) (u : Nat) (h : Int32) : List Int32 := (List.range u).flatMap (fun i => if μ.2.2.1 i = h then [μ.2.2.2.1 i] else [])
def MI (μ : Sm) (nh u : Nat) (K : Nat → List Int32) : Prop := μ.1 = nI nh ∧ nh ≤ 8 ∧ μ.2.1 = nI u ∧ u ≤ 200 ∧ ∀ h, h < 8 → (MK μ u (nI h)).Perm (K h)
theorem MI_ok {μ : Sm} {nh u : Nat} {K : Nat → List Int32} (h : MI μ nh u K) : Mok μ := by
  obtain ⟨-, -, e, hu, -⟩ := h
  unfold Mok
  rw [e, nI_toInt (by omega)]
  omega
theorem is_yes {μ : Sm} {nh j : Nat} (h : μ.1 = nI nh) (hn : nh ≤ 8) (hj : j < nh) : z_is μ (nI j) = 1 := by
  unfold z_is
  rw [if_neg (nI_pos (by omega)), h, if_neg (nI_ge hj (by omega))]
theorem is_no {μ : Sm} {nh : Nat} {a : Int32} (h : μ.1 = nI nh) (ha : a < 0 ∨ nI nh ≤ a) : z_is μ a = 0 := by
  unfold z_is
  rcases ha with ha | ha
  · rw [if_pos ha]
  · split
    · rfl
    · rw [h, if_pos ha]
theorem sz_L {μ : Sm} {h : Int32} {u : Nat} (hu : u ≤ 200) (e : μ.2.1 = nI u) : ∀ (m i n : Nat), i + m = u → z_szL μ h (m + 1) (nI n) (nI i) = nI (n + ((List.range' i m).flatMap (fun i => if μ.2.2.1 i = h then [μ.2.2.2.1 i] else [])).length) := by
  intro m
  induction m with
  | zero =>
    intro i n hi
    unfold z_szL
    rw [e, if_pos (nI_le (by omega) (by omega))]
    simp
  | succ m ih =>
    intro i n hi
    unfold z_szL
    rw [e, if_neg (nI_ge (by omega) (by omega)), nI_clamp (by omega), List.range'_succ, List.flatMap_cons]
    by_cases ho : μ.2.2.1 i = h
    · rw [if_pos ho, nI_1, nI_1, ih (i + 1) (n + 1) (by omega), if_pos ho]
      congr 1
      simp only [List.length_append, List.length_cons, List.length_nil]
      omega
    · rw [if_neg ho, nI_1, Int32.add_zero, ih (i + 1) n (by omega), if_neg ho]
      simp
theorem sz_sem {μ : Sm} {h : Int32} {u : Nat} (hu : u ≤ 200) (e : μ.2.1 = nI u) : z_size μ h = nI (MK μ u h).length := by
  unfold z_size
  rw [e, nI_toInt (by omega), Int.toNat_natCast, ← nI_0, sz_L hu e u 0 0 (by omega), Nat.zero_add]
  unfold MK
  rw [List.range_eq_range']
theorem m_heap {μ : Sm} {nh u : Nat} {K : Nat → List Int32} (h : MI μ nh u K) : (nh = 8 → (z_heap μ).1 = -1 ∧ MI (z_heap μ).2 nh u K) ∧ (nh < 8 → (z_heap μ).1 = nI nh ∧ MI (z_heap μ).2 (nh + 1) u K) := by
  obtain ⟨a1, a2, a3, a4, a5⟩ := id h
  unfold z_heap
  refine ⟨fun h1 => ?_, fun h1 => ?_⟩
  · rw [if_pos (by rw [a1, h1]; rfl)]
    exact ⟨rfl, h⟩
  · rw [if_neg (by rw [a1]; exact fun q => by have := nI_inj (b := 8) (by omega) (by omega) q; omega)]
    refine ⟨?_, ?_, by omega, a3, a4, a5⟩
    · show μ.1 + 1 - 1 = _
      rw [a1, nI_1, nI_pred]
    · show μ.1 + 1 = _
      rw [a1, nI_1]
theorem m_add_no {μ : Sm} {nh u : Nat} {K : Nat → List Int32} {a key : Int32} (h : MI μ nh u K) (ha : a < 0 ∨ nI nh ≤ a) : z_add μ a key = (-1, μ) := by
  unfold z_add
  rw [is_no h.1 ha, if_pos rfl]
theorem m_add_full {μ : Sm} {nh u j : Nat} {K : Nat → List Int32} {key : Int32} (h : MI μ nh u K) (hj : j < nh) (hu : u = 200) : z_add μ (nI j) key = (-2, μ) := by
  unfold z_add
  rw [is_yes h.1 h.2.1 hj, if_neg (by decide), if_pos (by rw [h.2.2.1, hu]; rfl)]
theorem m_add_yes {μ : Sm} {nh u j : Nat} {K : Nat → List Int32} {key : Int32} (h : MI μ nh u K) (hj : j < nh) (hu : u < 200) : (z_add μ (nI j) key).1 = nI ((K j).length + 1) ∧ MI (z_add μ (nI j) key).2 nh (u + 1) (kup K j (key :: K j)) := by
  obtain ⟨a1, a2, a3, a4, a5⟩ := id h
  unfold z_add
  rw [is_yes a1 a2 hj, if_neg (by decide), if_neg (by rw [a3]; exact fun q => by have := nI_inj (b := 200) (by omega) (by omega) q; omega)]
  simp only
  obtain ⟨m3, em⟩ : ∃ m3, m3 = z_sU (z_sK (z_sO μ μ.2.1 (nI j)) (z_sO μ μ.2.1 (nI j)).2.1 key) ((z_sK (z_sO μ μ.2.1 (nI j)) (z_sO μ μ.2.1 (nI j)).2.1 key).2.1 + 1) := ⟨_, rfl⟩
  rw [← em]
  have eu : m3.2.1 = nI (u + 1) := by
    rw [em]
    show μ.2.1 + 1 = _
    rw [a3, nI_1]
  have eo : m3.2.2.1 = upd μ.2.2.1 u (nI j) := by
    rw [em]
    show upd μ.2.2.1 μ.2.1.toNatClampNeg (nI j) = _
    rw [a3, nI_clamp (by omega)]
  have ek : m3.2.2.2.1 = upd μ.2.2.2.1 u key := by
    rw [em]
    show upd μ.2.2.2.1 μ.2.1.toNatClampNeg key = _
    rw [a3, nI_clamp (by omega)]
  have e1 : m3.1 = nI nh := by rw [em]; exact a1
  have eM : ∀ h, MK m3 (u + 1) h = MK μ u h ++ (if nI j = h then [key] else []) := fun h => by
    unfold MK
    rw [List.range_succ, List.flatMap_append, eo, ek]
    congr 1
    · apply fm_congr
      intro i hi
      have := List.mem_range.mp hi
      rw [pk_un (by omega), pk_un (by omega)]
    · simp [pk_us]
  have hP : ∀ h, h < 8 → (MK m3 (u + 1) (nI h)).Perm (kup K j (key :: K j) h) := fun h hh => by
    rw [eM]
    by_cases hne : h = j
    · subst hne
      rw [kup_s, if_pos rfl]
      refine List.perm_append_comm.trans ?_
      exact (a5 h hh).cons key
    · rw [kup_n hne, if_neg (fun q => hne (nI_inj (by omega) (by omega) q).symm), List.append_nil]
      exact a5 h hh
  refine ⟨?_, e1, a2, eu, by omega, hP⟩
  rw [sz_sem (by omega) eu, (hP j (by omega)).length_eq, kup_s, List.length_cons]
theorem m_size {μ : Sm} {nh u : Nat} {K : Nat → List Int32} (h : MI μ nh u K) (a : Int32) : ((a < 0 ∨ nI nh ≤ a) → z_sizeM μ a = (-1, μ)) ∧ ∀ j, j < nh → a = nI j → z_sizeM μ a = (nI (K j).length, μ) := by
  obtain ⟨a1, a2, a3, a4, a5⟩ := id h
  unfold z_sizeM
  refine ⟨fun ha => by rw [is_no a1 ha, if_pos rfl], fun j hj e => ?_⟩
  subst e
  rw [is_yes a1 a2 hj, if_neg (by decide), sz_sem a4 a3, (a5 j (by omega)).length_eq]
/-- the places that placeOf may take -/
def cand (μ : Sm) (h : Int32) (j : Nat) : Prop := μ.2.2.1 j = h ∧ μ.2.2.2.2 j = 0
def plI (μ : Sm) (h : Int32) (i : Nat) (b : Int32) : Prop := (b = -1 ∧ ∀ j, j < i → ¬ cand μ h j) ∨ ∃ p, p < i ∧ cand μ h p ∧ b = nI p ∧ ∀ j, j < i → cand μ h j → μ.2.2.2.1 p ≤ μ.2.2.2.1 j
theorem pl_sem {μ : Sm} {h : Int32} {u : Nat} (hu : u ≤ 200) (e : μ.2.1 = nI u) : ∀ (m i : Nat) (b : Int32), i + m = u → plI μ h i b → plI μ h u (z_plL μ h (m + 1) b (nI i)) := by
  intro m
  induction m with
  | zero =>
    intro i b hi hb
    unfold z_plL
    rw [e, if_pos (nI_le (by omega) (by omega))]
    obtain rfl : i = u := by omega
    exact hb
  | succ m ih =>
    intro i b hi hb
    unfold z_plL
    rw [e, if_neg (nI_ge (by omega) (by omega)), nI_clamp (by omega), nI_1]
    have keep : ¬ cand μ h i → plI μ h (i + 1) b := fun hn => by
      rcases hb with ⟨hb, hb2⟩ | ⟨p, p1, p2, p3, p4⟩
      · exact Or.inl ⟨hb, fun j hj => by
          by_cases hji : j = i
          · subst hji; exact hn
          · exact hb2 j (by omega)⟩
      · exact Or.inr ⟨p, by omega, p2, p3, fun j hj hc1 => by
          by_cases hji : j = i
          · subst hji; exact absurd hc1 hn
          · exact p4 j (by omega) hc1⟩
    by_cases ho : μ.2.2.1 i = h
    · rw [if_pos ho]
      by_cases ht : μ.2.2.2.2 i = 0
      · rw [if_pos ht]
        rcases hb with ⟨rfl, hb2⟩ | ⟨p, p1, p2, rfl, p4⟩
        · rw [if_pos (by decide)]
          refine ih (i + 1) (nI i) (by omega) (Or.inr ⟨i, by omega, ⟨ho, ht⟩, rfl, fun j hj hc1 => ?_⟩)
          by_cases hji : j = i
          · subst hji; exact Int32.le_refl _
          · exact absurd hc1 (hb2 j (by omega))
        · rw [if_neg (nI_pos (by omega)), nI_clamp (by omega)]
          split
          · rename_i hle
            refine ih (i + 1) (nI p) (by omega) (Or.inr ⟨p, by omega, p2, rfl, fun j hj hc1 => ?_⟩)
            by_cases hji : j = i
            · subst hji; exact hle
            · exact p4 j (by omega) hc1
          · rename_i hle
            have hlt := Int32.not_le.mp hle
            refine ih (i + 1) (nI i) (by omega) (Or.inr ⟨i, by omega, ⟨ho, ht⟩, rfl, fun j hj hc1 => ?_⟩)
            by_cases hji : j = i
            · subst hji; exact Int32.le_refl _
            · exact Int32.le_trans (Int32.le_of_lt hlt) (p4 j (by omega) hc1)
      · rw [if_neg ht]
        exact ih (i + 1) b (by omega) (keep (fun q => ht q.2))
    · rw [if_neg ho]
      exact ih (i + 1) b (by omega) (keep (fun q => ho q.1))
theorem place_sem {μ : Sm} {h : Int32} {u : Nat} (hu : u ≤ 200) (e : μ.2.1 = nI u) : plI μ h u (z_place μ h) := by
  unfold z_place
  rw [e, nI_toInt (by omega), Int.toNat_natCast, ← nI_0]
  exact pl_sem hu e u 0 (-1) (by omega) (Or.inl ⟨rfl, fun j hj => by omega⟩)
theorem nar0 : vp_nar .boolean 0 = 0 := rfl
theorem nar1 : vp_nar .boolean 1 = 1 := rfl
theorem un_told : ∀ (m i : Nat) (μ : Sm), i + m = 200 → (∀ j, j < i → μ.2.2.2.2 j = 0) → ∀ j, j < 200 → (z_unL (m + 1) μ (nI i)).2.2.2.2 j = 0 := by
  intro m
  induction m with
  | zero =>
    intro i μ hi hb j hj
    unfold z_unL
    rw [if_pos (show (200 : Int32) ≤ nI i from nI_le (a := 200) (by omega) (by omega))]
    exact hb j (by omega)
  | succ m ih =>
    intro i μ hi hb j hj
    unfold z_unL
    rw [if_neg (show ¬ (200 : Int32) ≤ nI i from nI_ge (b := 200) (by omega) (by omega)), nI_1]
    refine ih (i + 1) (z_sT μ (nI i) 0) (by omega) (fun k hk => ?_) j hj
    show upd μ.2.2.2.2 (nI i).toNatClampNeg (vp_nar .boolean 0) k = 0
    rw [nI_clamp (by omega), nar0]
    by_cases hki : k = i
    · subst hki; exact pk_us
    · rw [pk_un hki]
      exact hb k (by omega)
theorem un_sem (μ : Sm) : (z_untell μ).1 = μ.1 ∧ (z_untell μ).2.1 = μ.2.1 ∧ (z_untell μ).2.2.1 = μ.2.2.1 ∧ (z_untell μ).2.2.2.1 = μ.2.2.2.1 ∧ ∀ j, j < 200 → (z_untell μ).2.2.2.2 j = 0 := by
  obtain ⟨a, b, c, d⟩ := un_L 201 μ 0
  refine ⟨a, b, c, d, fun j hj => ?_⟩
  have := un_told 200 0 μ (by omega) (fun j hj => by omega) j hj
  rw [nI_0] at this
  exact this
theorem MI_un {μ : Sm} {nh u : Nat} {K : Nat → List Int32} (h : MI μ nh u K) : MI (z_untell μ) nh u K := by
  obtain ⟨a, b, c, d, -⟩ := un_sem μ
  unfold MI MK
  rw [a, b, c, d]
  exact h
theorem MK_mem {μ : Sm} {u : Nat} {h x : Int32} : x ∈ MK μ u h ↔ ∃ i, i < u ∧ μ.2.2.1 i = h ∧ μ.2.2.2.1 i = x := by
  unfold MK
  rw [List.mem_flatMap]
  constructor
  · rintro ⟨i, hi, hx⟩
    by_cases ho : μ.2.2.1 i = h
    · rw [if_pos ho] at hx
      exact ⟨i, List.mem_range.mp hi, ho, (List.mem_singleton.mp hx).symm⟩
    · rw [if_neg ho] at hx
      simp at hx
  · rintro ⟨i, hi, ho, rfl⟩
    exact ⟨i, List.mem_range.mpr hi, by rw [if_pos ho]; exact List.mem_singleton.mpr rfl⟩
/-- after untell: the place of the least key, or none -/
theorem place_un {μ : Sm} {nh u j : Nat} {K : Nat → List Int32} (h : MI μ nh u K) (hj : j < 8) : (K j = [] → z_place (z_untell μ) (nI j) = -1) ∧ (K j ≠ [] → ∃ p, p < u ∧ μ.2.2.1 p = nI j ∧ z_place (z_untell μ) (nI j) = nI p ∧ μ.2.2.2.1 p ∈ K j ∧ ∀ x ∈ K j, μ.2.2.2.1 p ≤ x) := by
  obtain ⟨a1, a2, a3, a4, a5⟩ := id h
  obtain ⟨b1, b2, b3, b4, b5⟩ := un_sem μ
  have hp := place_sem (μ := z_untell μ) (h := nI j) a4 (b2.trans a3)
  have hc1 : ∀ i, i < u → (cand (z_untell μ) (nI j) i ↔ μ.2.2.1 i = nI j) := fun i hi => by
    unfold cand
    rw [b3, b5 i (by omega)]
    simp
  refine ⟨fun hk => ?_, fun hk => ?_⟩
  · rcases hp with hp | ⟨p, p1, p2, -⟩
    · exact hp.1
    · exfalso
      have h1 : μ.2.2.2.1 p ∈ MK μ u (nI j) := MK_mem.mpr ⟨p, p1, (hc1 p p1).mp p2, rfl⟩
      have h2 := (a5 j hj).mem_iff.mp h1
      rw [hk] at h2
      simp at h2
  · rcases hp with ⟨-, hp⟩ | ⟨p, p1, p2, p3, p4⟩
    · exfalso
      apply hk
      rw [List.eq_nil_iff_forall_not_mem]
      intro x hx
      obtain ⟨i, hi, ho, -⟩ := MK_mem.mp ((a5 j hj).mem_iff.mpr hx)
      exact hp i hi ((hc1 i hi).mpr ho)
    · have ho := (hc1 p p1).mp p2
      refine ⟨p, p1, ho, p3, (a5 j hj).mem_iff.mp (MK_mem.mpr ⟨p, p1, ho, rfl⟩), fun x hx => ?_⟩
      obtain ⟨i, hi, ho2, rfl⟩ := MK_mem.mp ((a5 j hj).mem_iff.mpr hx)
      have := p4 i hi ((hc1 i hi).mpr ho2)
      rw [b4] at this
      exact this
theorem m_least_no {μ : Sm} {nh u : Nat} {K : Nat → List Int32} {a : Int32} (h : MI μ nh u K) (ha : a < 0 ∨ nI nh ≤ a) : ((z_least μ a).1 = -9223372036854775808 ∧ MI (z_least μ a).2 nh u K) ∧ ((z_take μ a).1 = -9223372036854775808 ∧ MI (z_take μ a).2 nh u K) := by
  have e := is_no (μ := z_untell μ) ((un_sem μ).1.trans h.1) ha
  unfold z_least z_take
  simp only [e, if_true]
  exact ⟨⟨trivial, MI_un h⟩, trivial, MI_un h⟩
theorem m_least_nil {μ : Sm} {nh u j : Nat} {K : Nat → List Int32} (h : MI μ nh u K) (hj : j < nh) (hk : K j = []) : ((z_least μ (nI j)).1 = -9223372036854775808 ∧ MI (z_least μ (nI j)).2 nh u K) ∧ ((z_take μ (nI j)).1 = -9223372036854775808 ∧ MI (z_take μ (nI j)).2 nh u K) := by
  have h8 := h.2.1
  have e := is_yes (μ := z_untell μ) ((un_sem μ).1.trans h.1) h8 hj
  have e2 := (place_un h (show j < 8 by omega)).1 hk
  have hM := MI_un h
  unfold z_least z_take
  generalize z_untell μ = m1 at e e2 hM ⊢
  simp only [e, e2]
  rw [if_neg (by decide), if_neg (by decide), if_neg (by decide), if_neg (by decide)]
  exact ⟨⟨rfl, hM⟩, rfl, hM⟩
theorem m_least {μ : Sm} {nh u j : Nat} {K : Nat → List Int32} (h : MI μ nh u K) (hj : j < nh) (hk : K j ≠ []) : ∃ v, v ∈ K j ∧ (∀ x ∈ K j, v ≤ x) ∧ (z_least μ (nI j)).1 = v.toInt64 ∧ MI (z_least μ (nI j)).2 nh u K := by
  have h8 := h.2.1
  have hu := h.2.2.2.1
  have e := is_yes (μ := z_untell μ) ((un_sem μ).1.trans h.1) h8 hj
  obtain ⟨p, p1, p2, p3, p4, p5⟩ := (place_un h (show j < 8 by omega)).2 hk
  refine ⟨_, p4, p5, ?_⟩
  have hM := MI_un h
  have b4 := (un_sem μ).2.2.2.1
  unfold z_least
  generalize z_untell μ = m1 at e p3 hM b4 ⊢
  simp only [e, p3]
  rw [if_neg (by decide), if_pos (nI_pos' (by omega)), nI_clamp (by omega), b4]
  exact ⟨rfl, hM⟩
theorem m_take {μ : Sm} {nh u j : Nat} {K : Nat → List Int32} (h : MI μ nh u K) (hj : j < nh) (hk : K j ≠ []) : ∃ v l, v ∈ K j ∧ (∀ x ∈ K j, v ≤ x) ∧ (z_take μ (nI j)).1 = v.toInt64 ∧ (K j).Perm (v :: l) ∧ MI (z_take μ (nI j)).2 nh (u - 1) (kup K j l) := by
  obtain ⟨a1, a2, a3, a4, a5⟩ := id h
  obtain ⟨b1, b2, b3, b4, -⟩ := un_sem μ
  have e := is_yes (μ := z_untell μ) (b1.trans a1) a2 hj
  obtain ⟨p, p1, p2, p3, p4, p5⟩ := (place_un h (show j < 8 by omega)).2 hk
  have hu1 : nI u - 1 = nI (u - 1) := by
    obtain ⟨m, hm⟩ : ∃ m, u = m + 1 := ⟨u - 1, by omega⟩
    rw [hm, nI_pred]
    rfl
  unfold z_take
  generalize z_untell μ = m1 at b1 b2 b3 b4 e p3 ⊢
  simp only [e, p3]
  rw [if_neg (by decide), if_pos (nI_pos' (by omega)), nI_clamp (by omega), b4]
  obtain ⟨m4, em⟩ : ∃ m4, m4 = z_sK (z_sO (z_sU m1 (m1.2.1 - 1)) (nI p) ((z_sU m1 (m1.2.1 - 1)).2.2.1 (z_sU m1 (m1.2.1 - 1)).2.1.toNatClampNeg)) (nI p) ((z_sO (z_sU m1 (m1.2.1 - 1)) (nI p) ((z_sU m1 (m1.2.1 - 1)).2.2.1 (z_sU m1 (m1.2.1 - 1)).2.1.toNatClampNeg)).2.2.2.1 (z_sO (z_sU m1 (m1.2.1 - 1)) (nI p) ((z_sU m1 (m1.2.1 - 1)).2.2.1 (z_sU m1 (m1.2.1 - 1)).2.1.toNatClampNeg)).2.1.toNatClampNeg) := ⟨_, rfl⟩
  have eu' : m1.2.1 - 1 = nI (u - 1) := by rw [b2, a3, hu1]
  have eu : m4.2.1 = nI (u - 1) := by rw [em]; exact eu'
  have eo : m4.2.2.1 = upd μ.2.2.1 p (μ.2.2.1 (u - 1)) := by
    rw [em]
    show upd m1.2.2.1 (nI p).toNatClampNeg (m1.2.2.1 (m1.2.1 - 1).toNatClampNeg) = _
    rw [b3, eu', nI_clamp (by omega), nI_clamp (by omega)]
  have ek : m4.2.2.2.1 = upd μ.2.2.2.1 p (μ.2.2.2.1 (u - 1)) := by
    rw [em]
    show upd m1.2.2.2.1 (nI p).toNatClampNeg (m1.2.2.2.1 (m1.2.1 - 1).toNatClampNeg) = _
    rw [b4, eu', nI_clamp (by omega), nI_clamp (by omega)]
  have e1 : m4.1 = nI nh := by rw [em]; exact b1.trans a1
  have eM : ∀ hh : Int32, (MK m4 (u - 1) hh ++ (if μ.2.2.1 p = hh then [μ.2.2.2.1 p] else [])).Perm (MK μ u hh) := fun hh => by
    obtain ⟨m, hm⟩ : ∃ m, u = m + 1 := ⟨u - 1, by omega⟩
    subst hm
    simp only [Nat.add_sub_cancel] at eo ek ⊢
    unfold MK
    rw [List.range_succ, List.flatMap_append, eo, ek]
    by_cases hpm : p = m
    · subst hpm
      simp only [List.flatMap_cons, List.flatMap_nil, List.append_nil]
      have : (List.range p).flatMap (fun i => if upd μ.2.2.1 p (μ.2.2.1 p) i = hh then [upd μ.2.2.2.1 p (μ.2.2.2.1 p) i] else []) = (List.range p).flatMap (fun i => if μ.2.2.1 i = hh then [μ.2.2.2.1 i] else []) := by
        apply fm_congr
        intro i hi
        have := List.mem_range.mp hi
        rw [pk_un (by omega), pk_un (by omega)]
      rw [this]
    · have h1 := fm_up (fun i => if μ.2.2.1 i = hh then [μ.2.2.2.1 i] else []) (fun i => if upd μ.2.2.1 p (μ.2.2.1 m) i = hh then [upd μ.2.2.2.1 p (μ.2.2.2.1 m) i] else []) p (List.range m) List.nodup_range (List.mem_range.mpr (by omega)) (fun i _ hi => by simp only [pk_un hi])
      simp only [pk_us] at h1
      refine h1.trans ?_
      simp only [List.flatMap_cons, List.flatMap_nil, List.append_nil]
      exact List.perm_append_comm
  have hKj := eM (nI j)
  rw [if_pos p2] at hKj
  refine ⟨μ.2.2.2.1 p, MK m4 (u - 1) (nI j), p4, p5, rfl, ?_, ?_⟩
  · refine (a5 j (by omega)).symm.trans (hKj.symm.trans ?_)
    exact List.perm_append_comm
  · rw [← em]
    refine ⟨e1, a2, eu, by omega, fun h' hh' => ?_⟩
    by_cases hne : h' = j
    · subst hne
      rw [kup_s]
    · rw [kup_n hne]
      have h1 := eM (nI h')
      rw [if_neg (by rw [p2]; exact fun q => hne (nI_inj (by omega) (by omega) q).symm), List.append_nil] at h1
      exact h1.trans (a5 h' hh')
end
section
/-! the reference's meld, key, sum -/
theorem me_sem {to fr : Nat} {u : Nat} (hu : u ≤ 200) (ht : to < 8) (hf : fr < 8) : ∀ (m i : Nat) (μ : Sm), i + m = u → μ.2.1 = nI u →
    (z_meL (nI to) (nI fr) (m + 1) μ (nI i)).1 = μ.1 ∧ (z_meL (nI to) (nI fr) (m + 1) μ (nI i)).2.1 = μ.2.1 ∧ (z_meL (nI to) (nI fr) (m + 1) μ (nI i)).2.2.2.1 = μ.2.2.2.1 ∧ (∀ j, j < i → (z_meL (nI to) (nI fr) (m + 1) μ (nI i)).2.2.1 j = μ.2.2.1 j) ∧ ∀ j, i ≤ j → j < u → (z_meL (nI to) (nI fr) (m + 1) μ (nI i)).2.2.1 j = if μ.2.2.1 j = nI fr then nI to else μ.2.2.1 j := by
  intro m
  induction m with
  | zero =>
    intro i μ hi e
    unfold z_meL
    rw [if_pos (by rw [e]; exact nI_le (by omega) (by omega))]
    exact ⟨rfl, rfl, rfl, fun _ _ => rfl, fun j h1 h2 => by omega⟩
  | succ m ih =>
    intro i μ hi e
    unfold z_meL
    rw [if_neg (by rw [e]; exact nI_ge (by omega) (by omega)), nI_1]
    have key : ∀ v : Int32, v = (if μ.2.2.1 i = nI fr then nI to else μ.2.2.1 i) →
        (z_meL (nI to) (nI fr) (m + 1) (z_sO μ (nI i) v) (nI (i + 1))).1 = μ.1 ∧ (z_meL (nI to) (nI fr) (m + 1) (z_sO μ (nI i) v) (nI (i + 1))).2.1 = μ.2.1 ∧ (z_meL (nI to) (nI fr) (m + 1) (z_sO μ (nI i) v) (nI (i + 1))).2.2.2.1 = μ.2.2.2.1 ∧ (∀ j, j < i → (z_meL (nI to) (nI fr) (m + 1) (z_sO μ (nI i) v) (nI (i + 1))).2.2.1 j = μ.2.2.1 j) ∧ ∀ j, i ≤ j → j < u → (z_meL (nI to) (nI fr) (m + 1) (z_sO μ (nI i) v) (nI (i + 1))).2.2.1 j = if μ.2.2.1 j = nI fr then nI to else μ.2.2.1 j := fun v hv => by
      obtain ⟨c1, c2, c3, c4, c5⟩ := ih (i + 1) (z_sO μ (nI i) v) (by omega) e
      have eo : ∀ j, (z_sO μ (nI i) v).2.2.1 j = upd μ.2.2.1 i v j := fun j => by
        show upd μ.2.2.1 (nI i).toNatClampNeg v j = _
        rw [nI_clamp (by omega)]
      refine ⟨c1, c2, c3, fun j hj => ?_, fun j h1 h2 => ?_⟩
      · rw [c4 j (by omega), eo, pk_un (by omega)]
      · by_cases hji : j = i
        · subst hji
          rw [c4 j (by omega), eo, pk_us, hv]
        · rw [c5 j (by omega) h2, eo, pk_un hji]
    by_cases ho : μ.2.2.1 (nI i).toNatClampNeg = nI fr
    · rw [if_pos ho]
      rw [nI_clamp (by omega)] at ho
      exact key (nI to) (by rw [if_pos ho])
    · rw [if_neg ho]
      rw [nI_clamp (by omega)] at ho ⊢
      exact key (μ.2.2.1 i) (by rw [if_neg ho])
theorem m_meld_no {μ : Sm} {nh u : Nat} {K : Nat → List Int32} {a b : Int32} (h : MI μ nh u K) (hab : (a < 0 ∨ nI nh ≤ a) ∨ (b < 0 ∨ nI nh ≤ b) ∨ a = b) : z_meld μ a b = (-1, μ) := by
  unfold z_meld
  split
  · rfl
  · split
    · rfl
    · rename_i h1 h2
      rcases hab with ha | hb | hab
      · exact absurd (is_no h.1 ha) h1
      · exact absurd (is_no h.1 hb) h2
      · rw [if_pos hab]
theorem m_meld {μ : Sm} {nh u i j : Nat} {K : Nat → List Int32} (h : MI μ nh u K) (hi : i < nh) (hj : j < nh) (hij : i ≠ j) : (z_meld μ (nI i) (nI j)).1 = nI ((K i).length + (K j).length) ∧ MI (z_meld μ (nI i) (nI j)).2 nh u (kup (kup K i (K i ++ K j)) j []) := by
  obtain ⟨a1, a2, a3, a4, a5⟩ := id h
  have hne : ¬ nI i = nI j := fun q => hij (nI_inj (by omega) (by omega) q)
  unfold z_meld
  rw [is_yes a1 a2 hi, is_yes a1 a2 hj, if_neg (by decide), if_neg (by decide), if_neg hne]
  simp only
  obtain ⟨c1, c2, c3, c4, c5⟩ := me_sem (to := i) (fr := j) a4 (by omega) (by omega) u 0 μ (by omega) a3
  have ef : μ.2.1.toInt.toNat + 1 = u + 1 := by rw [a3, nI_toInt (by omega), Int.toNat_natCast]
  rw [ef, ← nI_0]
  generalize z_meL (nI i) (nI j) (u + 1) μ (nI 0) = m1 at c1 c2 c3 c4 c5 ⊢
  have eu : m1.2.1 = nI u := c2.trans a3
  have eM : ∀ h', (MK m1 u h').Perm (if h' = nI i then MK μ u (nI i) ++ MK μ u (nI j) else if h' = nI j then [] else MK μ u h') := fun h' => by
    have e1 : MK m1 u h' = (List.range u).flatMap (fun k => if (if μ.2.2.1 k = nI j then nI i else μ.2.2.1 k) = h' then [μ.2.2.2.1 k] else []) := by
      unfold MK
      rw [c3]
      apply fm_congr
      intro k hk
      rw [c5 k (by omega) (List.mem_range.mp hk)]
    rw [e1]
    unfold MK
    generalize List.range u = l
    induction l with
    | nil => split <;> simp
    | cons k l ih =>
      simp only [List.flatMap_cons]
      by_cases q1 : h' = nI i
      · subst q1
        rw [if_pos rfl] at ih ⊢
        refine List.perm_iff_count.mpr fun x => ?_
        have := ih.count_eq x
        simp only [List.count_append] at this ⊢
        by_cases o1 : μ.2.2.1 k = nI j
        · simp only [o1, if_true, if_neg (fun q => hne (Eq.symm q) : ¬ nI j = nI i)]
          simp only [List.count_cons, List.count_nil] at this ⊢
          omega
        · by_cases o2 : μ.2.2.1 k = nI i
          · simp only [o2, if_neg hne, if_true]
            simp only [List.count_cons, List.count_nil] at this ⊢
            omega
          · simp only [o1, o2, if_false]
            simp only [List.count_nil] at this ⊢
            omega
      · rw [if_neg q1] at ih ⊢
        by_cases q2 : h' = nI j
        · subst q2
          rw [if_pos rfl] at ih ⊢
          have hz : (if (if μ.2.2.1 k = nI j then nI i else μ.2.2.1 k) = nI j then [μ.2.2.2.1 k] else []) = [] := by
            by_cases o1 : μ.2.2.1 k = nI j
            · rw [if_pos o1, if_neg hne]
            · rw [if_neg o1, if_neg o1]
          rw [hz, List.nil_append]
          exact ih
        · rw [if_neg q2] at ih ⊢
          have hz : (if (if μ.2.2.1 k = nI j then nI i else μ.2.2.1 k) = h' then [μ.2.2.2.1 k] else []) = (if μ.2.2.1 k = h' then [μ.2.2.2.1 k] else []) := by
            by_cases o1 : μ.2.2.1 k = nI j
            · rw [if_pos o1, if_neg (fun q => q1 q.symm), if_neg (fun q => q2 (q.symm.trans o1))]
            · rw [if_neg o1]
          rw [hz]
          exact ih.append_left _
  have hP : ∀ h', h' < 8 → (MK m1 u (nI h')).Perm (kup (kup K i (K i ++ K j)) j [] h') := fun h' hh' => by
    refine (eM (nI h')).trans ?_
    by_cases q2 : h' = j
    · subst q2
      rw [kup_s, if_neg (fun q => hne q.symm), if_pos rfl]
    · rw [kup_n q2]
      by_cases q1 : h' = i
      · subst q1
        rw [kup_s, if_pos rfl]
        exact (a5 h' hh').append (a5 j (by omega))
      · rw [kup_n q1, if_neg (fun q => q1 (nI_inj (by omega) (by omega) q)), if_neg (fun q => q2 (nI_inj (by omega) (by omega) q))]
        exact a5 h' hh'
  refine ⟨?_, c1.trans a1, a2, eu, a4, hP⟩
  rw [sz_sem a4 eu, (hP i (by omega)).length_eq, kup_n hij, kup_s, List.length_append]
theorem su_no {μ : Sm} {h : Int32} {u : Nat} (hu : u ≤ 200) (e : μ.2.1 = nI u) (hi : z_is μ h = 0) : ∀ (m i : Nat) (t : Int64), i + m = u → z_suL μ h (m + 1) t (nI i) = t := by
  intro m
  induction m with
  | zero =>
    intro i t hi2
    unfold z_suL
    rw [if_pos (by rw [e]; exact nI_le (by omega) (by omega))]
  | succ m ih =>
    intro i t hi2
    unfold z_suL
    rw [if_neg (by rw [e]; exact nI_ge (by omega) (by omega)), if_pos hi, nI_1, Int64.add_zero]
    exact ih (i + 1) t (by omega)
theorem su_yes {μ : Sm} {h : Int32} {u : Nat} (hu : u ≤ 200) (e : μ.2.1 = nI u) (hi : z_is μ h = 1) : ∀ (m i : Nat) (t : Int64), i + m = u → z_suL μ h (m + 1) t (nI i) = t + lsum ((List.range' i m).flatMap (fun i => if μ.2.2.1 i = h then [μ.2.2.2.1 i] else [])) := by
  intro m
  induction m with
  | zero =>
    intro i t hi2
    unfold z_suL
    rw [if_pos (by rw [e]; exact nI_le (by omega) (by omega))]
    simp [lsum]
  | succ m ih =>
    intro i t hi2
    unfold z_suL
    rw [if_neg (by rw [e]; exact nI_ge (by omega) (by omega)), if_neg (by rw [hi]; decide), nI_clamp (by omega), nI_1, List.range'_succ, List.flatMap_cons]
    by_cases ho : μ.2.2.1 i = h
    · rw [if_pos ho, ih (i + 1) _ (by omega), if_pos ho]
      simp [lsum, Int64.add_assoc]
    · rw [if_neg ho, ih (i + 1) _ (by omega), if_neg ho]
      simp
theorem m_sum {μ : Sm} {nh u : Nat} {K : Nat → List Int32} (h : MI μ nh u K) (a : Int32) : ((a < 0 ∨ nI nh ≤ a) → z_sum μ a = (0, μ)) ∧ ∀ j, j < nh → a = nI j → z_sum μ a = (lsum (K j), μ) := by
  obtain ⟨a1, a2, a3, a4, a5⟩ := id h
  have ef : μ.2.1.toInt.toNat + 1 = u + 1 := by rw [a3, nI_toInt (by omega), Int.toNat_natCast]
  unfold z_sum
  rw [ef, ← nI_0]
  refine ⟨fun ha => by rw [su_no a4 a3 (is_no a1 ha) u 0 0 (by omega)], fun j hj e => ?_⟩
  subst e
  rw [su_yes a4 a3 (is_yes a1 a2 hj) u 0 0 (by omega), Int64.zero_add, ← List.range_eq_range', ← lsum_perm (a5 j (by omega))]
  rfl
theorem m_free {μ : Sm} {nh u : Nat} {K : Nat → List Int32} (h : MI μ nh u K) : z_free μ = (nI (200 - u), μ) := by
  obtain ⟨a1, a2, a3, a4, a5⟩ := id h
  unfold z_free
  rw [a3]
  show (nI 200 - nI u, μ) = _
  rw [pk_sub (by omega)]
/-- the keys that are told, and those that are not -/
def TK (μ : Sm) (u : Nat) (h : Int32) : List Int32 := (List.range u).flatMap (fun i => if μ.2.2.1 i = h ∧ ¬ μ.2.2.2.2 i = 0 then [μ.2.2.2.1 i] else [])
def UK (μ : Sm) (u : Nat) (h : Int32) : List Int32 := (List.range u).flatMap (fun i => if μ.2.2.1 i = h ∧ μ.2.2.2.2 i = 0 then [μ.2.2.2.1 i] else [])
theorem TU_perm (μ : Sm) (u : Nat) (h : Int32) : (TK μ u h ++ UK μ u h).Perm (MK μ u h) := by
  unfold TK UK MK
  generalize List.range u = l
  induction l with
  | nil => simp
  | cons k l ih =>
    simp only [List.flatMap_cons]
    refine List.perm_iff_count.mpr fun x => ?_
    have := ih.count_eq x
    simp only [List.count_append] at this ⊢
    by_cases o1 : μ.2.2.1 k = h
    · by_cases o2 : μ.2.2.2.2 k = 0
      · rw [if_neg (fun q => q.2 o2), if_pos ⟨o1, o2⟩, if_pos o1]
        simp only [List.count_nil] at this ⊢
        omega
      · rw [if_pos ⟨o1, o2⟩, if_neg (fun q => o2 q.2), if_pos o1]
        simp only [List.count_nil] at this ⊢
        omega
    · rw [if_neg (fun q => o1 q.1), if_neg (fun q => o1 q.1), if_neg o1]
      simp only [List.count_nil] at this ⊢
      omega
/-- k of a heap's keys are told, the least ones -/
def keI (μ : Sm) (u : Nat) (h : Int32) (k : Nat) : Prop := (TK μ u h).length = k ∧ ∀ x ∈ TK μ u h, ∀ y ∈ UK μ u h, x ≤ y
theorem UK_mem {μ : Sm} {u : Nat} {h x : Int32} : x ∈ UK μ u h ↔ ∃ i, i < u ∧ cand μ h i ∧ μ.2.2.2.1 i = x := by
  unfold UK cand
  rw [List.mem_flatMap]
  constructor
  · rintro ⟨i, hi, hx⟩
    by_cases ho : μ.2.2.1 i = h ∧ μ.2.2.2.2 i = 0
    · rw [if_pos ho] at hx
      exact ⟨i, List.mem_range.mp hi, ho, (List.mem_singleton.mp hx).symm⟩
    · rw [if_neg ho] at hx
      simp at hx
  · rintro ⟨i, hi, ho, rfl⟩
    exact ⟨i, List.mem_range.mpr hi, by rw [if_pos ho]; exact List.mem_singleton.mpr rfl⟩
/-- where a key is left untold, placeOf finds the least of them; telling it keeps the order -/
theorem ke_step {μ : Sm} {u k : Nat} {h : Int32} (hu : u ≤ 200) (e : μ.2.1 = nI u) (hI : keI μ u h k) (hk : k < (MK μ u h).length) : ∃ p, p < u ∧ z_place μ h = nI p ∧ μ.2.2.2.1 p ∈ UK μ u h ∧ (∀ y ∈ UK μ u h, μ.2.2.2.1 p ≤ y) ∧ keI (z_sT μ (nI p) 1) u h (k + 1) := by
  have hlen := (TU_perm μ u h).length_eq
  rw [List.length_append, hI.1] at hlen
  rcases place_sem (h := h) hu e with ⟨-, hp⟩ | ⟨p, p1, p2, p3, p4⟩
  · exfalso
    have : UK μ u h = [] := by
      rw [List.eq_nil_iff_forall_not_mem]
      intro x hx
      obtain ⟨i, hi, hc1, -⟩ := UK_mem.mp hx
      exact hp i hi hc1
    rw [this] at hlen
    simp at hlen
    omega
  · have hmin : ∀ y ∈ UK μ u h, μ.2.2.2.1 p ≤ y := fun y hy => by
      obtain ⟨i, hi, hc1, rfl⟩ := UK_mem.mp hy
      exact p4 i hi hc1
    have hpU : μ.2.2.2.1 p ∈ UK μ u h := UK_mem.mpr ⟨p, p1, p2, rfl⟩
    have et : (z_sT μ (nI p) 1).2.2.2.2 = upd μ.2.2.2.2 p 1 := by
      show upd μ.2.2.2.2 (nI p).toNatClampNeg (vp_nar .boolean 1) = _
      rw [nI_clamp (by omega), nar1]
    have eo : (z_sT μ (nI p) 1).2.2.1 = μ.2.2.1 := rfl
    have ek : (z_sT μ (nI p) 1).2.2.2.1 = μ.2.2.2.1 := rfl
    have hT : (TK (z_sT μ (nI p) 1) u h).Perm (μ.2.2.2.1 p :: TK μ u h) := by
      unfold TK
      rw [et, eo, ek]
      have h1 := fm_up (fun i => if μ.2.2.1 i = h ∧ ¬ μ.2.2.2.2 i = 0 then [μ.2.2.2.1 i] else []) (fun i => if μ.2.2.1 i = h ∧ ¬ upd μ.2.2.2.2 p 1 i = 0 then [μ.2.2.2.1 i] else []) p (List.range u) List.nodup_range (List.mem_range.mpr p1) (fun i _ hi => by simp only [pk_un hi])
      simp only [pk_us, p2.1, p2.2] at h1
      simpa using h1
    have hU : (μ.2.2.2.1 p :: UK (z_sT μ (nI p) 1) u h).Perm (UK μ u h) := by
      unfold UK
      rw [et, eo, ek]
      have h1 := fm_up (fun i => if μ.2.2.1 i = h ∧ μ.2.2.2.2 i = 0 then [μ.2.2.2.1 i] else []) (fun i => if μ.2.2.1 i = h ∧ upd μ.2.2.2.2 p 1 i = 0 then [μ.2.2.2.1 i] else []) p (List.range u) List.nodup_range (List.mem_range.mpr p1) (fun i _ hi => by simp only [pk_un hi])
      simp only [pk_us, p2.1, p2.2] at h1
      refine (List.perm_append_comm (l₁ := [μ.2.2.2.1 p])).trans ?_
      have h2 : ((List.range u).flatMap (fun i => if μ.2.2.1 i = h ∧ upd μ.2.2.2.2 p 1 i = 0 then [μ.2.2.2.1 i] else []) ++ [μ.2.2.2.1 p]).Perm ((List.range u).flatMap (fun i => if μ.2.2.1 i = h ∧ μ.2.2.2.2 i = 0 then [μ.2.2.2.1 i] else [])) := by simpa using h1
      exact h2
    refine ⟨p, p1, p3, hpU, hmin, ?_, fun x hx y hy => ?_⟩
    · rw [hT.length_eq, List.length_cons, hI.1]
    · have hy2 : y ∈ UK μ u h := hU.mem_iff.mp (List.mem_cons_of_mem _ hy)
      rcases List.mem_cons.mp (hT.mem_iff.mp hx) with rfl | hx
      · exact hmin y hy2
      · exact hI.2 x hx y hy2
theorem ke_L {h : Int32} {u k : Nat} (hu : u ≤ 200) (hk2 : k < 2 ^ 31) : ∀ (m i : Nat) (μ : Sm), i + m = k → μ.2.1 = nI u → keI μ u h i → k < (MK μ u h).length →
    z_keOk h (nI k) (m + 1) μ (nI i) ∧ ∃ m1, z_keL h (nI k) (m + 1) μ (nI i) = m1 ∧ m1.1 = μ.1 ∧ m1.2.1 = μ.2.1 ∧ m1.2.2.1 = μ.2.2.1 ∧ m1.2.2.2.1 = μ.2.2.2.1 ∧ keI m1 u h k := by
  intro m
  induction m with
  | zero =>
    intro i μ hi e hI hk
    obtain rfl : i = k := by omega
    obtain ⟨p, p1, p2, -⟩ := ke_step hu e hI hk
    unfold z_keOk z_keL
    rw [if_pos (Int32.le_refl _), p2]
    exact ⟨⟨vp_in_nI (by omega) (by omega), Or.inl (Int32.le_refl _)⟩, μ, rfl, rfl, rfl, rfl, rfl, hI⟩
  | succ m ih =>
    intro i μ hi e hI hk
    obtain ⟨p, p1, p2, p3, p4, p5⟩ := ke_step hu e hI (by omega)
    unfold z_keOk z_keL
    rw [if_neg (nI_ge (by omega) (by omega)), p2, nI_1]
    obtain ⟨c1, m1, c2, c3, c4, c5, c6, c7⟩ := ih (i + 1) (z_sT μ (nI p) 1) (by omega) e p5 hk
    exact ⟨⟨vp_in_nI (by omega) (by omega), Or.inr c1⟩, m1, c2, c3, c4, c5, c6, c7⟩
theorem ke_0 {μ : Sm} {u : Nat} (h : Int32) (hu : u ≤ 200) (ht : ∀ j, j < 200 → μ.2.2.2.2 j = 0) : keI μ u h 0 := by
  have : TK μ u h = [] := by
    unfold TK
    rw [List.flatMap_eq_nil_iff]
    intro i hi
    have := List.mem_range.mp hi
    rw [if_neg (fun q => q.2 (ht i (by omega)))]
  unfold keI
  rw [this]
  exact ⟨rfl, fun x hx => by simp at hx⟩
theorem MK_len (μ : Sm) (u : Nat) (a : Int32) : (MK μ u a).length ≤ u := by
  unfold MK
  rw [List.length_flatMap]
  have : ∀ l : List Nat, (l.map (fun i => (if μ.2.2.1 i = a then [μ.2.2.2.1 i] else []).length)).sum ≤ l.length := fun l => by
    induction l with
    | nil => simp
    | cons x l ih =>
      simp only [List.map_cons, List.sum_cons, List.length_cons]
      have : (if μ.2.2.1 x = a then [μ.2.2.2.1 x] else []).length ≤ 1 := by split <;> simp
      omega
  have := this (List.range u)
  rw [List.length_range] at this
  exact this
/-- what key's places need; what key answers -/
theorem m_key_ok {μ : Sm} {nh u : Nat} {K : Nat → List Int32} (h : MI μ nh u K) (a k : Int32) : ¬ z_is μ a = 0 → ¬ k < 0 → k < z_size μ a → z_keOk a k (k.toInt.toNat + 1) (z_untell μ) 0 := by
  intro h1 h2 h3
  obtain ⟨a1, a2, a3, a4, a5⟩ := id h
  obtain ⟨b1, b2, b3, b4, b5⟩ := un_sem μ
  obtain ⟨i, hi, rfl⟩ := nI_of h2
  rw [sz_sem a4 a3] at h3
  have hlen := MK_len μ u a
  have h3 := (nI_ltI hi (by omega)).mp h3
  have hmk : MK (z_untell μ) u a = MK μ u a := by unfold MK; rw [b3, b4]
  rw [nI_toInt hi, Int.toNat_natCast, ← nI_0]
  exact (ke_L a4 hi i 0 (z_untell μ) (by omega) (b2.trans a3) (ke_0 a a4 b5) (by rw [hmk]; exact h3)).1
theorem m_key {μ : Sm} {nh u : Nat} {K : Nat → List Int32} (h : MI μ nh u K) (a k : Int32) : MI (z_key μ a k).2 nh u K ∧ ((k < 0 ∨ a < 0 ∨ nI nh ≤ a ∨ ∃ j, j < nh ∧ a = nI j ∧ nI (K j).length ≤ k) → (z_key μ a k).1 = -9223372036854775808) ∧ ∀ j i, j < nh → a = nI j → i < (K j).length → k = nI i → cle (K j) ((z_key μ a k).1.toInt - 1) ≤ i ∧ i < cle (K j) (z_key μ a k).1.toInt := by
  obtain ⟨a1, a2, a3, a4, a5⟩ := id h
  obtain ⟨b1, b2, b3, b4, b5⟩ := un_sem μ
  have hmk : ∀ a, MK (z_untell μ) u a = MK μ u a := fun a => by unfold MK; rw [b3, b4]
  have hun := MI_un h
  unfold z_key
  generalize z_untell μ = m0 at b1 b2 b3 b4 b5 hmk hun ⊢
  rcases pk_ix a (n := nh) (by omega) with ha | ha | ⟨j, hj, rfl⟩
  · rw [is_no a1 (Or.inl ha), if_pos rfl]
    exact ⟨h, fun _ => rfl, fun j i hj e => by rw [e] at ha; exact absurd ha (nI_pos (by omega))⟩
  · rw [is_no a1 (Or.inr ha), if_pos rfl]
    exact ⟨h, fun _ => rfl, fun j i hj e => by rw [e] at ha; exact absurd ha (nI_ge hj (by omega))⟩
  · have hKl := (a5 j (by omega)).length_eq
    have hlen := MK_len μ u (nI j)
    rw [is_yes a1 a2 hj, if_neg (by decide)]
    by_cases hk : k < 0
    · rw [if_pos hk]
      refine ⟨h, fun _ => rfl, fun j' i _ e1 hi e => ?_⟩
      exfalso
      have := nI_inj (by omega) (by omega) e1
      subst this
      rw [e] at hk
      exact nI_pos (by omega) hk
    · rw [if_neg hk, sz_sem a4 a3, hKl]
      obtain ⟨i, hi, rfl⟩ := nI_of hk
      by_cases hlt : i < (K j).length
      · rw [if_pos (nI_lt hlt (by omega))]
        have ef : (nI i).toInt.toNat + 1 = i + 1 := by rw [nI_toInt hi, Int.toNat_natCast]
        rw [ef, ← nI_0]
        obtain ⟨-, m1, c2, c3, c4, c5, c6, c7⟩ := ke_L (h := nI j) a4 hi i 0 m0 (by omega) (b2.trans a3) (ke_0 (nI j) a4 b5) (by rw [hmk, hKl]; exact hlt)
        rw [c2]
        have hmk1 : ∀ a, MK m1 u a = MK μ u a := fun a => by rw [← hmk a]; unfold MK; rw [c5, c6]
        obtain ⟨p, p1, p2, p3, p4, -⟩ := ke_step a4 (c4.trans (b2.trans a3)) c7 (by rw [hmk1, hKl]; exact hlt)
        simp only
        rw [p2, nI_clamp (by omega)]
        refine ⟨⟨c3.trans (b1.trans a1), a2, c4.trans (b2.trans a3), a4, fun h' hh' => by rw [hmk1]; exact a5 h' hh'⟩, fun hb => ?_, fun j' i' _ e1 hi' e2 => ?_⟩
        · exfalso
          rcases hb with hb | hb | hb | ⟨j', _, e1, hb⟩
          · exact hk hb
          · exact nI_pos (by omega) hb
          · exact nI_ge hj (by omega) hb
          · have := nI_inj (by omega) (by omega) e1
            subst this
            exact nI_ge hlt (by omega) hb
        · have := nI_inj (by omega) (by omega) e1
          subst this
          have := nI_inj (by omega) (by omega) e2
          subst this
          have hp := (TU_perm m1 u (nI j)).trans ((by rw [hmk1] : (MK m1 u (nI j)).Perm (MK μ u (nI j))).trans (a5 j (by omega)))
          rw [Int32.toInt_toInt64, ← cle_perm hp, ← cle_perm hp]
          unfold cle
          rw [List.countP_append, List.countP_append]
          have q1 : (UK m1 u (nI j)).countP (fun x => decide (x.toInt ≤ (m1.2.2.2.1 p).toInt - 1)) = 0 := by
            rw [List.countP_eq_zero]
            intro x hx
            have := Int32.le_iff_toInt_le.mp (p4 x hx)
            simp
            omega
          have q2 : (TK m1 u (nI j)).countP (fun x => decide (x.toInt ≤ (m1.2.2.2.1 p).toInt)) = (TK m1 u (nI j)).length := by
            rw [List.countP_eq_length]
            intro x hx
            have := Int32.le_iff_toInt_le.mp (c7.2 x hx _ p3)
            simp
            exact this
          have q3 : 0 < (UK m1 u (nI j)).countP (fun x => decide (x.toInt ≤ (m1.2.2.2.1 p).toInt)) := by
            rw [List.countP_pos_iff]
            exact ⟨_, p3, by simp⟩
          have q4 := List.countP_le_length (p := fun x : Int32 => decide (x.toInt ≤ (m1.2.2.2.1 p).toInt - 1)) (l := TK m1 u (nI j))
          have q5 := c7.1
          omega
      · rw [if_neg (nI_nlt (by omega) (by omega))]
        refine ⟨h, fun _ => rfl, fun j' i' _ e1 hi' e2 => ?_⟩
        exfalso
        have := nI_inj (by omega) (by omega) e1
        subst this
        have := nI_inj (by omega) (by omega) e2
        omega
end
section
/-! THE CLAIM OUT OF ONE WALK OF THE LAW'S BODY. Your part is whole_start (and what it stands on); all else here is the same for every law, but numbers. -/
def R_law : String := "SkewMeldsLaw"
def lw_P (b : Addr) (xs : List Int32) (args : Array Value) (s : State) : Prop := args = #[.ref b] ∧ s.IntsAt b xs ∧ xs.length ≤ 1536 ∧ (Jvm.Cond.and given_1 narrow_1).before args s = true
def lw_Q (_ : Array Value) (s : State) (o : Outcome) (t : State) : Prop := o = .returned (some (.int 1)) ∧ Framed s o t [] 6 1691
def lw_Z (below : List Frame) (a : Array Value) (s : State) : State → Prop := fun t => ∃ o, t.status = .running ∧ Ended t below o ∧ lw_Q a s o t
/-- the law's own end, with 1 on the stack, nothing written that was there before, its room as the claim has it -/
theorem lw_ret {p : Program} {l : Launch} {e : Env} {s : State} {m : MethodId} {below : List Frame} {meth : Method} {c : Code} {b : Nat} (hx : p.tables.exec = Jvm.exec) (hb : c.code = code) (hr : meth.sig.returnType = ret) (hlocks : meth.locks = false) {pc : Nat} {H : Heap} {ls : Array Slot} (hdg : decode code pc = .ok (.ireturn, 1)) : W p l e room_1 s m #[Value.ref b] below meth c H [] 6 1691 (lw_Z below #[Value.ref b] s) (F0 m pc ls [.int 1]) := by
  intro T hT X
  obtain ⟨fs, hret, hrun, hended, hW, hframe⟩ := X.leave (v := some (.int 1)) (hlocks := hlocks) (fun h => by rw [hr] at h; cases h)
  have hmeth' : T.vm.method? m = some meth := X.method'
  refine ⟨T.setFrames fs, ?_, .returned (some (.int 1)), hrun, hended, rfl, ⟨_, rfl⟩, hW, hframe⟩
  jvm_step X.here [X.here.top, hx, hb, hdg, hmeth', hr, ret, narrow_b1]
  (try refine ⟨rfl, ?_⟩); (try refine ⟨rfl, ?_⟩)
  first | (intro acts; rw [hret _ acts rfl rfl rfl]) | rw [hret _ _ rfl rfl rfl]
  exact Steps.refl _
/-- what holds at the law's entry: the machine, the code, the tables' words (any of lw_tbl by 'hts w (by decide +kernel)'), the script of L ints xs at the cell b, what the Statement gives of the start (any of its parts by flat_of_before) -/
def lw_At (p : Program) (s : State) (m : MethodId) (meth : Method) (c : Code) (b L : Nat) (xs : Nat → Int32) : Prop :=
  p.tables.exec = Jvm.exec ∧ c.code = code ∧ meth.sig.returnType = ret ∧ c.maxLocals = 4 ∧ s.vm.findClass R_law = some m.cls ∧ (∀ w ∈ lw_tbl, w.before #[Value.ref b] s = true) ∧ va_X b L xs s s.heap ∧ b < s.heap.size ∧ meth.locks = false ∧ (Jvm.Cond.and given_1 narrow_1).before #[Value.ref b] s = true
end
section
/-! class and reference, call by call -/
def LR (σ : Sx) (μ : Sm) : Prop := ∃ nh u K, XI σ nh u K ∧ XF σ ∧ MI μ nh u K
theorem LR_ok {σ : Sx} {μ : Sm} (h : LR σ μ) : Mok μ := by
  obtain ⟨nh, u, K, -, -, h⟩ := h
  exact MI_ok h
theorem LR_key {σ : Sx} {μ : Sm} (h : LR σ μ) (a k : Int32) : ¬ z_is μ a = 0 → ¬ k < 0 → k < z_size μ a → z_keOk a k (k.toInt.toNat + 1) (z_untell μ) 0 := by
  obtain ⟨nh, u, K, -, -, h⟩ := h
  exact m_key_ok h a k
theorem LR_new : LR x_new m_new := ⟨0, 0, fun _ => [], new_XI.1, new_XI.2, rfl, by omega, rfl, by omega, fun h _ => by simp [MK]⟩
theorem r_heap {σ σ' : Sx} {μ μ' : Sm} {r1 r2 : Int32} (h : LR σ μ) (e1 : x_heap σ = (r1, σ')) (e2 : z_heap μ = (r2, μ')) : r1 = r2 ∧ LR σ' μ' := by
  obtain ⟨nh, u, K, hx, hf, hm⟩ := h
  obtain ⟨a1, a2, a3⟩ := op_heap hx
  obtain ⟨b1, b2⟩ := m_heap hm
  rw [e1] at a1 a2 a3
  rw [e2] at b1 b2
  have h8 := hm.2.1
  by_cases hn : nh = 8
  · exact ⟨(a1 hn).1.trans (b1 hn).1.symm, nh, u, K, (a1 hn).2, a3, (b1 hn).2⟩
  · exact ⟨(a2 (by omega)).1.trans (b2 (by omega)).1.symm, nh + 1, u, K, (a2 (by omega)).2, a3, (b2 (by omega)).2⟩
theorem r_add {σ σ' : Sx} {μ μ' : Sm} {r1 r2 a k : Int32} (h : LR σ μ) (e1 : x_add σ a k = (r1, σ')) (e2 : z_add μ a k = (r2, μ')) : r1 = r2 ∧ LR σ' μ' := by
  obtain ⟨nh, u, K, hx, hf, hm⟩ := h
  have h8 := hm.2.1
  have hu := hm.2.2.2.1
  have no : (a < 0 ∨ nI nh ≤ a) → r1 = r2 ∧ LR σ' μ' := fun ha => by
    have q1 := op_add_no (key := k) hx ha
    have q2 := m_add_no (key := k) hm ha
    rw [e1] at q1
    rw [e2] at q2
    obtain ⟨rfl, rfl⟩ := Prod.mk.inj q2
    exact ⟨q1.1, nh, u, K, q1.2.1, q1.2.2, hm⟩
  rcases pk_ix a (n := nh) (by omega) with ha | ha | ⟨j, hj, rfl⟩
  · exact no (Or.inl ha)
  · exact no (Or.inr ha)
  · by_cases hu2 : u = 200
    · have q1 := op_add_full (key := k) hx hj hu2
      have q2 := m_add_full (key := k) hm hj hu2
      rw [e1] at q1
      rw [e2] at q2
      obtain ⟨rfl, rfl⟩ := Prod.mk.inj q2
      exact ⟨q1.1, nh, u, K, q1.2.1, q1.2.2, hm⟩
    · have q1 := op_add (key := k) hx hj (by omega)
      have q2 := m_add_yes (key := k) hm hj (by omega)
      rw [e1] at q1
      rw [e2] at q2
      exact ⟨q1.1.trans q2.1.symm, nh, u + 1, _, q1.2.1, q1.2.2, q2.2⟩
theorem r_least {σ σ' : Sx} {μ μ' : Sm} {r1 r2 : Int64} {a : Int32} (h : LR σ μ) (e1 : x_least σ a = (r1, σ')) (e2 : z_least μ a = (r2, μ')) : r1 = r2 ∧ LR σ' μ' := by
  obtain ⟨nh, u, K, hx, hf, hm⟩ := h
  have h8 := hm.2.1
  have no : (a < 0 ∨ nI nh ≤ a) → r1 = r2 ∧ LR σ' μ' := fun ha => by
    have q1 := (op_least_no hx ha).1
    have q2 := (m_least_no hm ha).1
    rw [e1] at q1
    rw [e2] at q2
    exact ⟨q1.1.trans q2.1.symm, nh, u, K, q1.2.1, q1.2.2, q2.2⟩
  rcases pk_ix a (n := nh) (by omega) with ha | ha | ⟨j, hj, rfl⟩
  · exact no (Or.inl ha)
  · exact no (Or.inr ha)
  · by_cases hk : K j = []
    · have q1 := (op_least_nil hx hj hk).1
      have q2 := (m_least_nil hm hj hk).1
      rw [e1] at q1
      rw [e2] at q2
      exact ⟨q1.1.trans q2.1.symm, nh, u, K, q1.2.1, q1.2.2, q2.2⟩
    · obtain ⟨v, v1, v2, v3, v4, v5⟩ := op_least hx hj hk
      obtain ⟨w, w1, w2, w3, w4⟩ := m_least hm hj hk
      rw [e1] at v3 v4 v5
      rw [e2] at w3 w4
      have : v = w := Int32.le_antisymm (v2 w w1) (w2 v v1)
      subst this
      exact ⟨v3.trans w3.symm, nh, u, K, v4, v5, w4⟩
theorem r_take {σ σ' : Sx} {μ μ' : Sm} {r1 r2 : Int64} {a : Int32} (h : LR σ μ) (e1 : x_take σ a = (r1, σ')) (e2 : z_take μ a = (r2, μ')) : r1 = r2 ∧ LR σ' μ' := by
  obtain ⟨nh, u, K, hx, hf, hm⟩ := h
  have h8 := hm.2.1
  have no : (a < 0 ∨ nI nh ≤ a) → r1 = r2 ∧ LR σ' μ' := fun ha => by
    have q1 := (op_least_no hx ha).2
    have q2 := (m_least_no hm ha).2
    rw [e1] at q1
    rw [e2] at q2
    exact ⟨q1.1.trans q2.1.symm, nh, u, K, q1.2.1, q1.2.2, q2.2⟩
  rcases pk_ix a (n := nh) (by omega) with ha | ha | ⟨j, hj, rfl⟩
  · exact no (Or.inl ha)
  · exact no (Or.inr ha)
  · by_cases hk : K j = []
    · have q1 := (op_least_nil hx hj hk).2
      have q2 := (m_least_nil hm hj hk).2
      rw [e1] at q1
      rw [e2] at q2
      exact ⟨q1.1.trans q2.1.symm, nh, u, K, q1.2.1, q1.2.2, q2.2⟩
    · obtain ⟨v, v1, v2, v3, v4, v5⟩ := op_take hx hj hk
      obtain ⟨w, l, w1, w2, w3, w4, w5⟩ := m_take hm hj hk
      rw [e1] at v3 v4 v5
      rw [e2] at w3 w5
      have : v = w := Int32.le_antisymm (v2 w w1) (w2 v v1)
      subst this
      exact ⟨v3.trans w3.symm, nh, u - 1, _, v5 l w4, v4, w5⟩
theorem r_meld {σ σ' : Sx} {μ μ' : Sm} {r1 r2 a b : Int32} (h : LR σ μ) (e1 : x_meld σ a b = (r1, σ')) (e2 : z_meld μ a b = (r2, μ')) : r1 = r2 ∧ LR σ' μ' := by
  obtain ⟨nh, u, K, hx, hf, hm⟩ := h
  have h8 := hm.2.1
  have no : ((a < 0 ∨ nI nh ≤ a) ∨ (b < 0 ∨ nI nh ≤ b) ∨ a = b) → r1 = r2 ∧ LR σ' μ' := fun ha => by
    have q1 := op_meld_no hx ha
    have q2 := m_meld_no hm ha
    rw [e1] at q1
    rw [e2] at q2
    obtain ⟨rfl, rfl⟩ := Prod.mk.inj q2
    exact ⟨q1.1, nh, u, K, q1.2.1, q1.2.2, hm⟩
  rcases pk_ix a (n := nh) (by omega) with ha | ha | ⟨i, hi, rfl⟩
  · exact no (Or.inl (Or.inl ha))
  · exact no (Or.inl (Or.inr ha))
  · rcases pk_ix b (n := nh) (by omega) with hb | hb | ⟨j, hj, rfl⟩
    · exact no (Or.inr (Or.inl (Or.inl hb)))
    · exact no (Or.inr (Or.inl (Or.inr hb)))
    · by_cases hij : i = j
      · subst hij
        exact no (Or.inr (Or.inr rfl))
      · have q1 := op_meld hx hi hj hij
        have q2 := m_meld hm hi hj hij
        rw [e1] at q1
        rw [e2] at q2
        exact ⟨q1.1.trans q2.1.symm, nh, u, _, q1.2.1, q1.2.2, q2.2⟩
theorem r_size {σ σ' : Sx} {μ μ' : Sm} {r1 r2 a : Int32} (h : LR σ μ) (e1 : x_size σ a = (r1, σ')) (e2 : z_sizeM μ a = (r2, μ')) : r1 = r2 ∧ LR σ' μ' := by
  obtain ⟨nh, u, K, hx, hf, hm⟩ := h
  have h8 := hm.2.1
  obtain ⟨q1, q2, q3, q4⟩ := op_size hx a
  obtain ⟨p1, p2⟩ := m_size hm a
  rw [e1] at q1 q2 q3 q4
  rw [e2] at p1 p2
  rcases pk_ix a (n := nh) (by omega) with ha | ha | ⟨j, hj, ej⟩
  · obtain ⟨rfl, rfl⟩ := Prod.mk.inj (p1 (Or.inl ha))
    exact ⟨q1 (Or.inl ha), nh, u, K, q3, q4, hm⟩
  · obtain ⟨rfl, rfl⟩ := Prod.mk.inj (p1 (Or.inr ha))
    exact ⟨q1 (Or.inr ha), nh, u, K, q3, q4, hm⟩
  · obtain ⟨rfl, rfl⟩ := Prod.mk.inj (p2 j hj ej)
    exact ⟨q2 j hj ej, nh, u, K, q3, q4, hm⟩
theorem cle_mono (S : List Int32) {v w : Int} (h : v ≤ w) : cle S v ≤ cle S w := by
  unfold cle
  exact List.countP_mono_left (fun x _ hx => by simp at hx ⊢; omega)
theorem cle_one {S : List Int32} {i : Nat} {v w : Int64} (h1 : cle S (v.toInt - 1) ≤ i) (h2 : i < cle S v.toInt) (h3 : cle S (w.toInt - 1) ≤ i) (h4 : i < cle S w.toInt) : v = w := by
  apply Int64.toInt_inj.mp
  rcases Int.lt_trichotomy v.toInt w.toInt with h | h | h
  · have := cle_mono S (show v.toInt ≤ w.toInt - 1 by omega)
    omega
  · exact h
  · have := cle_mono S (show w.toInt ≤ v.toInt - 1 by omega)
    omega
theorem r_key {σ σ' : Sx} {μ μ' : Sm} {r1 r2 : Int64} {a k : Int32} (h : LR σ μ) (e1 : x_key σ a k = (r1, σ')) (e2 : z_key μ a k = (r2, μ')) : r1 = r2 ∧ LR σ' μ' := by
  obtain ⟨nh, u, K, hx, hf, hm⟩ := h
  have h8 := hm.2.1
  obtain ⟨q1, q2, q3, q4⟩ := op_key hx a k
  obtain ⟨p1, p2, p3⟩ := m_key hm a k
  rw [e1] at q1 q2 q3 q4
  rw [e2] at p1 p2 p3
  refine ⟨?_, nh, u, K, q1, q2, p1⟩
  by_cases hk : k < 0
  · exact (q3 (Or.inl hk)).trans (p2 (Or.inl hk)).symm
  · rcases pk_ix a (n := nh) (by omega) with ha | ha | ⟨j, hj, rfl⟩
    · exact (q3 (Or.inr (Or.inl ha))).trans (p2 (Or.inr (Or.inl ha))).symm
    · exact (q3 (Or.inr (Or.inr (Or.inl ha)))).trans (p2 (Or.inr (Or.inr (Or.inl ha)))).symm
    · obtain ⟨i, hi, rfl⟩ := nI_of hk
      by_cases hlt : i < (K j).length
      · obtain ⟨c1, c2⟩ := q4 j i hj rfl hlt rfl
        obtain ⟨d1, d2⟩ := p3 j i hj rfl hlt rfl
        exact cle_one c1 c2 d1 d2
      · have hb : ∃ j', j' < nh ∧ nI j = nI j' ∧ nI (K j').length ≤ nI i := ⟨j, hj, rfl, nI_le (by omega) hi⟩
        exact (q3 (Or.inr (Or.inr (Or.inr hb)))).trans (p2 (Or.inr (Or.inr (Or.inr hb)))).symm
theorem r_sum {σ σ' : Sx} {μ μ' : Sm} {r1 r2 : Int64} {a : Int32} (h : LR σ μ) (e1 : x_sum σ a = (r1, σ')) (e2 : z_sum μ a = (r2, μ')) : r1 = r2 ∧ LR σ' μ' := by
  obtain ⟨nh, u, K, hx, hf, hm⟩ := h
  have h8 := hm.2.1
  obtain ⟨q1, q2, q3, q4⟩ := op_sum hx a
  obtain ⟨p1, p2⟩ := m_sum hm a
  rw [e1] at q1 q2 q3 q4
  rw [e2] at p1 p2
  rcases pk_ix a (n := nh) (by omega) with ha | ha | ⟨j, hj, ej⟩
  · obtain ⟨rfl, rfl⟩ := Prod.mk.inj (p1 (Or.inl ha))
    exact ⟨q1 (Or.inl ha), nh, u, K, q3, q4, hm⟩
  · obtain ⟨rfl, rfl⟩ := Prod.mk.inj (p1 (Or.inr ha))
    exact ⟨q1 (Or.inr ha), nh, u, K, q3, q4, hm⟩
  · obtain ⟨rfl, rfl⟩ := Prod.mk.inj (p2 j hj ej)
    exact ⟨q2 j hj ej, nh, u, K, q3, q4, hm⟩
theorem r_free {σ σ' : Sx} {μ μ' : Sm} {r1 r2 : Int32} (h : LR σ μ) (e1 : x_free σ = (r1, σ')) (e2 : z_free μ = (r2, μ')) : r1 = r2 ∧ LR σ' μ' := by
  obtain ⟨nh, u, K, hx, hf, hm⟩ := h
  have q := op_free hx
  have p := m_free hm
  rw [e1] at q
  rw [e2] at p
  obtain ⟨rfl, rfl⟩ := Prod.mk.inj p
  exact ⟨q.1, nh, u, K, q.2.1, q.2.2, hm⟩
theorem r_few {σ σ' : Sx} {μ μ' : Sm} {r1 r2 : Int32} (h : LR σ μ) (e1 : x_few σ = (r1, σ')) (e2 : r2 = 1 ∧ μ = μ') : r1 = r2 ∧ LR σ' μ' := by
  obtain ⟨nh, u, K, hx, hf, hm⟩ := h
  have q := op_few hx hf
  rw [e1] at q
  obtain ⟨rfl, rfl⟩ := e2
  exact ⟨q.1, nh, u, K, q.2.1, q.2.2, hm⟩
/-- the law's world: the class's two cells and the reference's four; a call of one, the other's cells stay -/
abbrev lTY (cA cI cZ : ClassId) : List (ClassId × FieldType) := [(cA, .int), (cI, .int), (cZ, .boolean)]
section LC
variable {p : Program} {l : Launch} {e : Env} {R : Room} {s : State} {m : MethodId} {args : Array Value} {below : List Frame} {meth : Method} {c : Code} {H : Heap} {locs : List Loc} {cells slots : Nat} {Q : State → Prop}
variable {cc : ByteArray} {pc : Nat} {ls : Array Slot} {rest st0 : List Value} {D : va_G} {A : Nat → Prop} {h0 r0 m0 o0 k0 t0 : Nat} {cA cI cZ : ClassId} {σ : Sx} {μ : Sm}
variable {y : MethodName} {wz : List Cond} {rm : Room} {As : List Value} {bytes : ByteArray} {maxL nL n index : Nat} {ret : Option FieldType} {Ts : List Cond} {own : String}
theorem lx_calli {post : Int32 → Sx → Prop} (S : CallFix p m c cc nL s args Ts own) (hM : gMi l y wz rm D vwCl [(cA, .int)] (.ref h0 :: As) (xw h0 r0 cA) σ post) (cw : CallW R s args own RX0 index y bytes maxL ret wz rm 0 0 n)
    (G : gG D vwCl (lTY cA cI cZ) A s (xw h0 r0 cA σ ++ mw m0 o0 k0 t0 cI cZ μ) H locs) (hlen : As.length = n) (hls : ls.size = nL) (hst : st0 = As.reverse ++ .ref h0 :: rest) (hW : (rest.map fun v => v.category).sum ≤ 8) (hdg : decode cc pc = .ok (.invokevirtual index, 3)) (hf : cells ≤ R.cells ∧ slots ≤ R.slots)
    (kk : ∀ (r : Int32) (σ' : Sx) (H1 : Heap) (locs1 : List Loc), post r σ' → gG D vwCl (lTY cA cI cZ) A s (mw m0 o0 k0 t0 cI cZ μ ++ xw h0 r0 cA σ') H1 locs1 → W p l e R s m args below meth c H1 locs1 cells slots Q (F0 m (pc + 3) ls (.int r :: rest))) :
    W p l e R s m args below meth c H locs cells slots Q (F0 m pc ls st0) :=
  g_calli S hM cw G (G.2.2.2.1.sub [0] rfl) [0, 1] [2, 3, 4, 5] ⟨rfl, rfl, rfl, rfl, by decide⟩ (va_recv G.2.2.2.1 G.1 (ci := 0) (q0 := 0) rfl rfl) hlen hls hst hW hdg hf (fun r u' H1 locs1 hp hG => kk r u' H1 locs1 hp hG)
theorem lx_calll {post : Int64 → Sx → Prop} (S : CallFix p m c cc nL s args Ts own) (hM : gMl l y wz rm D vwCl [(cA, .int)] (.ref h0 :: As) (xw h0 r0 cA) σ post) (cw : CallW R s args own RX0 index y bytes maxL ret wz rm 0 0 n)
    (G : gG D vwCl (lTY cA cI cZ) A s (xw h0 r0 cA σ ++ mw m0 o0 k0 t0 cI cZ μ) H locs) (hlen : As.length = n) (hls : ls.size = nL) (hst : st0 = As.reverse ++ .ref h0 :: rest) (hW : (rest.map fun v => v.category).sum ≤ 8) (hdg : decode cc pc = .ok (.invokevirtual index, 3)) (hf : cells ≤ R.cells ∧ slots ≤ R.slots)
    (kk : ∀ (r : Int64) (σ' : Sx) (H1 : Heap) (locs1 : List Loc), post r σ' → gG D vwCl (lTY cA cI cZ) A s (mw m0 o0 k0 t0 cI cZ μ ++ xw h0 r0 cA σ') H1 locs1 → W p l e R s m args below meth c H1 locs1 cells slots Q (F0 m (pc + 3) ls (.long r :: rest))) :
    W p l e R s m args below meth c H locs cells slots Q (F0 m pc ls st0) :=
  g_calll S hM cw G (G.2.2.2.1.sub [0] rfl) [0, 1] [2, 3, 4, 5] ⟨rfl, rfl, rfl, rfl, by decide⟩ (va_recv G.2.2.2.1 G.1 (ci := 0) (q0 := 0) rfl rfl) hlen hls hst hW hdg hf (fun r u' H1 locs1 hp hG => kk r u' H1 locs1 hp hG)
theorem lm_calli {post : Int32 → Sm → Prop} (S : CallFix p m c cc nL s args Ts own) (hM : gMi l y wz rm D vwCl [(cI, .int), (cZ, .boolean)] (.ref m0 :: As) (mw m0 o0 k0 t0 cI cZ) μ post) (cw : CallW R s args own RX1 index y bytes maxL ret wz rm 0 0 n)
    (G : gG D vwCl (lTY cA cI cZ) A s (mw m0 o0 k0 t0 cI cZ μ ++ xw h0 r0 cA σ) H locs) (hlen : As.length = n) (hls : ls.size = nL) (hst : st0 = As.reverse ++ .ref m0 :: rest) (hW : (rest.map fun v => v.category).sum ≤ 8) (hdg : decode cc pc = .ok (.invokevirtual index, 3)) (hf : cells ≤ R.cells ∧ slots ≤ R.slots)
    (kk : ∀ (r : Int32) (μ' : Sm) (H1 : Heap) (locs1 : List Loc), post r μ' → gG D vwCl (lTY cA cI cZ) A s (xw h0 r0 cA σ ++ mw m0 o0 k0 t0 cI cZ μ') H1 locs1 → W p l e R s m args below meth c H1 locs1 cells slots Q (F0 m (pc + 3) ls (.int r :: rest))) :
    W p l e R s m args below meth c H locs cells slots Q (F0 m pc ls st0) :=
  g_calli S hM cw G (G.2.2.2.1.sub [1, 2] rfl) [0, 1, 2, 3] [4, 5] ⟨rfl, rfl, rfl, rfl, by decide⟩ (va_recv G.2.2.2.1 G.1 (ci := 1) (q0 := 0) rfl rfl) hlen hls hst hW hdg hf (fun r u' H1 locs1 hp hG => kk r u' H1 locs1 hp hG)
theorem lm_calll {post : Int64 → Sm → Prop} (S : CallFix p m c cc nL s args Ts own) (hM : gMl l y wz rm D vwCl [(cI, .int), (cZ, .boolean)] (.ref m0 :: As) (mw m0 o0 k0 t0 cI cZ) μ post) (cw : CallW R s args own RX1 index y bytes maxL ret wz rm 0 0 n)
    (G : gG D vwCl (lTY cA cI cZ) A s (mw m0 o0 k0 t0 cI cZ μ ++ xw h0 r0 cA σ) H locs) (hlen : As.length = n) (hls : ls.size = nL) (hst : st0 = As.reverse ++ .ref m0 :: rest) (hW : (rest.map fun v => v.category).sum ≤ 8) (hdg : decode cc pc = .ok (.invokevirtual index, 3)) (hf : cells ≤ R.cells ∧ slots ≤ R.slots)
    (kk : ∀ (r : Int64) (μ' : Sm) (H1 : Heap) (locs1 : List Loc), post r μ' → gG D vwCl (lTY cA cI cZ) A s (xw h0 r0 cA σ ++ mw m0 o0 k0 t0 cI cZ μ') H1 locs1 → W p l e R s m args below meth c H1 locs1 cells slots Q (F0 m (pc + 3) ls (.long r :: rest))) :
    W p l e R s m args below meth c H locs cells slots Q (F0 m pc ls st0) :=
  g_calll S hM cw G (G.2.2.2.1.sub [1, 2] rfl) [0, 1, 2, 3] [4, 5] ⟨rfl, rfl, rfl, rfl, by decide⟩ (va_recv G.2.2.2.1 G.1 (ci := 1) (q0 := 0) rfl rfl) hlen hls hst hW hdg hf (fun r u' H1 locs1 hp hG => kk r u' H1 locs1 hp hG)
end LC
end
section
set_option maxHeartbeats 8000000 in
set_option maxRecDepth 100000 in
/-- THE LAW'S LOOP: at its head, with n ints read, class and reference agree -/
theorem law_loop {p : Program} {l : Launch} {e : Env} {s : State} {m : MethodId} {below : List Frame} {meth : Method} {c : Code} {D : va_G} {b L : Nat} {xs : Nat → Int32} {h0 r0 m0 o0 k0 t0 : Nat} {cA cI cZ : ClassId} (hL : L ≤ 1536) (C0 : lw_At p s m meth c b L xs) :
    ∀ (N n : Nat), n ≤ L → L < n + N → ∀ (σ : Sx) (μ : Sm) (H : Heap) (locs : List Loc), LR σ μ → gG D vwCl (lTY cA cI cZ) (fun q : Nat => s.heap.size ≤ q) s (xw h0 r0 cA σ ++ mw m0 o0 k0 t0 cI cZ μ) H locs → ∀ ls : Array Slot, lv_has ls 4 [(0, .ref b), (1, .ref h0), (2, .ref m0), (3, .int (nI n))] → W p l e room_1 s m #[Value.ref b] below meth c H locs 6 1691 (lw_Z below #[Value.ref b] s) (F0 m 18 ls []) := by
  obtain ⟨hx, hb, hr, hml, hown, hts0, hX, hbl, hlocks, hgv⟩ := C0
  have hts : ∀ w ∈ wsL_law, w.before #[Value.ref b] s = true := fun w h => hts0 w (wsL_law_in w h)
  have hown : s.vm.findClass RL = some m.cls := hown
  have hb : c.code = cL_law := hb
  have hbA : ¬ (fun q : Nat => s.heap.size ≤ q) b := Nat.not_le.mpr hbl
  intro N
  induction N with
  | zero => intro n h1 h2; omega
  | succ N ih =>
    intro n hn hN σ μ H locs hR G ls hl
    refine lv_iload_n hx hb dL_law_18 rfl (lv_at hl 3 rfl) ?_
    refine lv_aload_n hx hb dL_law_19 rfl (lv_at hl 0 rfl) ?_
    refine va_slen hx hb hX hbl hbA G.2.2.1 dL_law_20 ?_
    refine lv_iconst (v := 3) hx hb dL_law_21 (by decide) ?_
    refine lv_isub hx hb dL_law_22 ?_
    refine lv_icmp_gt (tgt := 328) hx hb dL_law_23 (by decide) (fun c_1 => ?_) (fun c_1 => ?_)
    · refine lv_iconst (v := 1) hx hb dL_law_328 (by decide) ?_
      refine va_forget (fun q hq => G.2.2.1.2.2 q hq) ?_
      exact lw_ret hx hb hr hlocks dL_law_329
    · have hn3 : n + 3 ≤ L := by
        rcases Nat.lt_or_ge L (n + 3) with h | h
        · exfalso
          apply c_1
          have e1 : (Int32.ofNat L - 3).toInt = (L : Int) - 3 := pk_sub_toInt (a := L) (b := 3) (by omega) (by omega)
          rw [Int32.lt_iff_toInt_lt, e1, nI_toInt (by omega)]
          omega
        · exact h
      have hi0 : vp_in (nI n) L := vp_in_nI (by omega) (by omega)
      have hi1 : vp_in (nI n + 1) L := by rw [nI_1]; exact vp_in_nI (by omega) (by omega)
      have hi2 : vp_in (nI n + 2) L := by
        rw [show nI n + 2 = nI (n + 2) from nI_add n 2]
        exact vp_in_nI (by omega) (by omega)
      have next : ∀ (σ : Sx) (μ : Sm) (H : Heap) (locs : List Loc), LR σ μ → gG D vwCl (lTY cA cI cZ) (fun q : Nat => s.heap.size ≤ q) s (xw h0 r0 cA σ ++ mw m0 o0 k0 t0 cI cZ μ) H locs → W p l e room_1 s m #[Value.ref b] below meth c H locs 6 1691 (lw_Z below #[Value.ref b] s) (F0 m 322 ls []) := by
        intro σ μ H locs hR G
        refine lv_iinc (v := nI (n + 3)) (lv' := [(3, .int (nI (n + 3))), (0, .ref b), (1, .ref h0), (2, .ref m0)]) hx hb dL_law_322 hl (k := 3) rfl (nI_add n 3) (by decide) rfl (fun ls hl => ?_)
        refine lv_goto (tgt := 18) hx hb dL_law_325 (by decide) ?_
        exact ih (n + 3) hn3 (by omega) σ μ H locs hR G ls (lv_sub hl [1, 2, 3, 0] rfl)
      refine lv_aload_n hx hb dL_law_26 rfl (lv_at hl 0 rfl) ?_
      refine lv_iload_n hx hb dL_law_27 rfl (lv_at hl 3 rfl) ?_
      refine va_sld hx hb hX hbl hbA G.2.2.1 hi0 dL_law_28 ?_
      refine lv_bipush (v := 15) hx hb dL_law_29 (by decide) ?_
      refine lv_iand hx hb dL_law_31 ?_
      refine lv_topi (fun v ev => ?_)
      obtain ⟨j, hj, ej⟩ := pk_andE (xs (nI n).toNatClampNeg) (m := 15) 4 (by decide)
      rw [ej] at ev
      subst ev
      clear ej
      obtain ⟨xa, exa⟩ : ∃ xa : Int32, xa = xs (nI n + 1).toNatClampNeg := ⟨_, rfl⟩
      obtain ⟨xb, exb⟩ : ∃ xb : Int32, xb = xs (nI n + 2).toNatClampNeg := ⟨_, rfl⟩
      match j, hj with
      | 0, _ =>
        refine lv_tableIn (off := 56) (tgt := 88) hx hb dL_law_32 (by decide) (by decide) (by decide) (by decide) ?_
        refine lv_aload_n hx hb dL_law_88 rfl (lv_at hl 1 rfl) ?_
        refine lx_calli (As := []) (rest := []) ⟨hx, hb, hml, hown, hts⟩ (kX0_heap l D h0 r0 cA σ) (cwV 0 hts gL_law_X0_heap rfl rfl rfl (by decide +kernel) ⟨Nat.le_of_ble_eq_true rfl, Nat.le_of_ble_eq_true rfl⟩) G rfl hl.1 rfl (Nat.le_of_ble_eq_true rfl) dL_law_89 ⟨Nat.le_of_ble_eq_true rfl, Nat.le_of_ble_eq_true rfl⟩ (fun r1 σ2 H locs e1 G => ?_)
        refine lv_aload_n hx hb dL_law_92 rfl (lv_at hl 2 rfl) ?_
        refine lm_calli (As := []) (rest := [.int r1]) ⟨hx, hb, hml, hown, hts⟩ (kX1_heap l D m0 o0 k0 t0 cI cZ μ) (cwV 0 hts gL_law_X1_heap rfl rfl rfl (by decide +kernel) ⟨Nat.le_of_ble_eq_true rfl, Nat.le_of_ble_eq_true rfl⟩) G rfl hl.1 rfl (Nat.le_of_ble_eq_true rfl) dL_law_93 ⟨Nat.le_of_ble_eq_true rfl, Nat.le_of_ble_eq_true rfl⟩ (fun r2 μ2 H locs e2 G => ?_)
        obtain ⟨er, hR2⟩ := r_heap hR e1 e2
        refine lv_icmp_eq (tgt := 322) hx hb dL_law_96 (by decide) (fun _ => next σ2 μ2 H locs hR2 G) (fun c_2 => ?_)
        exact absurd er c_2
      | 1, _ =>
        refine lv_tableIn (off := 69) (tgt := 101) hx hb dL_law_32 (by decide) (by decide) (by decide) (by decide) ?_
        refine lv_aload_n hx hb dL_law_101 rfl (lv_at hl 1 rfl) ?_
        refine lv_aload_n hx hb dL_law_102 rfl (lv_at hl 0 rfl) ?_
        refine lv_iload_n hx hb dL_law_103 rfl (lv_at hl 3 rfl) ?_
        refine lv_iconst (v := 1) hx hb dL_law_104 (by decide) ?_
        refine lv_iadd hx hb dL_law_105 ?_
        refine va_sld hx hb hX hbl hbA G.2.2.1 hi1 dL_law_106 ?_
        rw [← exa]
        refine lv_aload_n hx hb dL_law_107 rfl (lv_at hl 0 rfl) ?_
        refine lv_iload_n hx hb dL_law_108 rfl (lv_at hl 3 rfl) ?_
        refine lv_iconst (v := 2) hx hb dL_law_109 (by decide) ?_
        refine lv_iadd hx hb dL_law_110 ?_
        refine va_sld hx hb hX hbl hbA G.2.2.1 hi2 dL_law_111 ?_
        rw [← exb]
        refine lx_calli (As := [.int xa, .int xb]) (rest := []) ⟨hx, hb, hml, hown, hts⟩ (kX0_add l D h0 r0 cA σ xa xb) (cwV 2 hts gL_law_X0_add rfl rfl rfl (by decide +kernel) ⟨Nat.le_of_ble_eq_true rfl, Nat.le_of_ble_eq_true rfl⟩) G rfl hl.1 rfl (Nat.le_of_ble_eq_true rfl) dL_law_112 ⟨Nat.le_of_ble_eq_true rfl, Nat.le_of_ble_eq_true rfl⟩ (fun r1 σ2 H locs e1 G => ?_)
        refine lv_aload_n hx hb dL_law_115 rfl (lv_at hl 2 rfl) ?_
        refine lv_aload_n hx hb dL_law_116 rfl (lv_at hl 0 rfl) ?_
        refine lv_iload_n hx hb dL_law_117 rfl (lv_at hl 3 rfl) ?_
        refine lv_iconst (v := 1) hx hb dL_law_118 (by decide) ?_
        refine lv_iadd hx hb dL_law_119 ?_
        refine va_sld hx hb hX hbl hbA G.2.2.1 hi1 dL_law_120 ?_
        rw [← exa]
        refine lv_aload_n hx hb dL_law_121 rfl (lv_at hl 0 rfl) ?_
        refine lv_iload_n hx hb dL_law_122 rfl (lv_at hl 3 rfl) ?_
        refine lv_iconst (v := 2) hx hb dL_law_123 (by decide) ?_
        refine lv_iadd hx hb dL_law_124 ?_
        refine va_sld hx hb hX hbl hbA G.2.2.1 hi2 dL_law_125 ?_
        rw [← exb]
        refine lm_calli (As := [.int xa, .int xb]) (rest := [.int r1]) ⟨hx, hb, hml, hown, hts⟩ (kX1_add l D m0 o0 k0 t0 cI cZ μ xa xb (LR_ok hR)) (cwV 2 hts gL_law_X1_add rfl rfl rfl (by decide +kernel) ⟨Nat.le_of_ble_eq_true rfl, Nat.le_of_ble_eq_true rfl⟩) G rfl hl.1 rfl (Nat.le_of_ble_eq_true rfl) dL_law_126 ⟨Nat.le_of_ble_eq_true rfl, Nat.le_of_ble_eq_true rfl⟩ (fun r2 μ2 H locs e2 G => ?_)
        obtain ⟨er, hR2⟩ := r_add hR e1 e2
        refine lv_icmp_eq (tgt := 322) hx hb dL_law_129 (by decide) (fun _ => next σ2 μ2 H locs hR2 G) (fun c_2 => ?_)
        exact absurd er c_2
      | 2, _ =>
        refine lv_tableIn (off := 102) (tgt := 134) hx hb dL_law_32 (by decide) (by decide) (by decide) (by decide) ?_
        refine lv_aload_n hx hb dL_law_134 rfl (lv_at hl 1 rfl) ?_
        refine lv_aload_n hx hb dL_law_135 rfl (lv_at hl 0 rfl) ?_
        refine lv_iload_n hx hb dL_law_136 rfl (lv_at hl 3 rfl) ?_
        refine lv_iconst (v := 1) hx hb dL_law_137 (by decide) ?_
        refine lv_iadd hx hb dL_law_138 ?_
        refine va_sld hx hb hX hbl hbA G.2.2.1 hi1 dL_law_139 ?_
        rw [← exa]
        refine lx_calll (As := [.int xa]) (rest := []) ⟨hx, hb, hml, hown, hts⟩ (kX0_least l D h0 r0 cA σ xa) (cwV 1 hts gL_law_X0_least rfl rfl rfl (by decide +kernel) ⟨Nat.le_of_ble_eq_true rfl, Nat.le_of_ble_eq_true rfl⟩) G rfl hl.1 rfl (Nat.le_of_ble_eq_true rfl) dL_law_140 ⟨Nat.le_of_ble_eq_true rfl, Nat.le_of_ble_eq_true rfl⟩ (fun r1 σ2 H locs e1 G => ?_)
        refine lv_aload_n hx hb dL_law_143 rfl (lv_at hl 2 rfl) ?_
        refine lv_aload_n hx hb dL_law_144 rfl (lv_at hl 0 rfl) ?_
        refine lv_iload_n hx hb dL_law_145 rfl (lv_at hl 3 rfl) ?_
        refine lv_iconst (v := 1) hx hb dL_law_146 (by decide) ?_
        refine lv_iadd hx hb dL_law_147 ?_
        refine va_sld hx hb hX hbl hbA G.2.2.1 hi1 dL_law_148 ?_
        rw [← exa]
        refine lm_calll (As := [.int xa]) (rest := [.long r1]) ⟨hx, hb, hml, hown, hts⟩ (kX1_least l D m0 o0 k0 t0 cI cZ μ xa (LR_ok hR)) (cwV 1 hts gL_law_X1_least rfl rfl rfl (by decide +kernel) ⟨Nat.le_of_ble_eq_true rfl, Nat.le_of_ble_eq_true rfl⟩) G rfl hl.1 rfl (Nat.le_of_ble_eq_true rfl) dL_law_149 ⟨Nat.le_of_ble_eq_true rfl, Nat.le_of_ble_eq_true rfl⟩ (fun r2 μ2 H locs e2 G => ?_)
        refine W.lcmp hx hb dL_law_152 ?_
        obtain ⟨er, hR2⟩ := r_least hR e1 e2
        refine lv_if_eq (tgt := 322) hx hb dL_law_153 (by decide) (fun _ => next σ2 μ2 H locs hR2 G) (fun c_2 => ?_)
        exact absurd ((lg_cmp_eq r1 r2).mpr er) c_2
      | 3, _ =>
        refine lv_tableIn (off := 126) (tgt := 158) hx hb dL_law_32 (by decide) (by decide) (by decide) (by decide) ?_
        refine lv_aload_n hx hb dL_law_158 rfl (lv_at hl 1 rfl) ?_
        refine lv_aload_n hx hb dL_law_159 rfl (lv_at hl 0 rfl) ?_
        refine lv_iload_n hx hb dL_law_160 rfl (lv_at hl 3 rfl) ?_
        refine lv_iconst (v := 1) hx hb dL_law_161 (by decide) ?_
        refine lv_iadd hx hb dL_law_162 ?_
        refine va_sld hx hb hX hbl hbA G.2.2.1 hi1 dL_law_163 ?_
        rw [← exa]
        refine lx_calll (As := [.int xa]) (rest := []) ⟨hx, hb, hml, hown, hts⟩ (kX0_take l D h0 r0 cA σ xa) (cwV 1 hts gL_law_X0_take rfl rfl rfl (by decide +kernel) ⟨Nat.le_of_ble_eq_true rfl, Nat.le_of_ble_eq_true rfl⟩) G rfl hl.1 rfl (Nat.le_of_ble_eq_true rfl) dL_law_164 ⟨Nat.le_of_ble_eq_true rfl, Nat.le_of_ble_eq_true rfl⟩ (fun r1 σ2 H locs e1 G => ?_)
        refine lv_aload_n hx hb dL_law_167 rfl (lv_at hl 2 rfl) ?_
        refine lv_aload_n hx hb dL_law_168 rfl (lv_at hl 0 rfl) ?_
        refine lv_iload_n hx hb dL_law_169 rfl (lv_at hl 3 rfl) ?_
        refine lv_iconst (v := 1) hx hb dL_law_170 (by decide) ?_
        refine lv_iadd hx hb dL_law_171 ?_
        refine va_sld hx hb hX hbl hbA G.2.2.1 hi1 dL_law_172 ?_
        rw [← exa]
        refine lm_calll (As := [.int xa]) (rest := [.long r1]) ⟨hx, hb, hml, hown, hts⟩ (kX1_take l D m0 o0 k0 t0 cI cZ μ xa (LR_ok hR)) (cwV 1 hts gL_law_X1_take rfl rfl rfl (by decide +kernel) ⟨Nat.le_of_ble_eq_true rfl, Nat.le_of_ble_eq_true rfl⟩) G rfl hl.1 rfl (Nat.le_of_ble_eq_true rfl) dL_law_173 ⟨Nat.le_of_ble_eq_true rfl, Nat.le_of_ble_eq_true rfl⟩ (fun r2 μ2 H locs e2 G => ?_)
        refine W.lcmp hx hb dL_law_176 ?_
        obtain ⟨er, hR2⟩ := r_take hR e1 e2
        refine lv_if_eq (tgt := 322) hx hb dL_law_177 (by decide) (fun _ => next σ2 μ2 H locs hR2 G) (fun c_2 => ?_)
        exact absurd ((lg_cmp_eq r1 r2).mpr er) c_2
      | 4, _ =>
        refine lv_tableIn (off := 150) (tgt := 182) hx hb dL_law_32 (by decide) (by decide) (by decide) (by decide) ?_
        refine lv_aload_n hx hb dL_law_182 rfl (lv_at hl 1 rfl) ?_
        refine lv_aload_n hx hb dL_law_183 rfl (lv_at hl 0 rfl) ?_
        refine lv_iload_n hx hb dL_law_184 rfl (lv_at hl 3 rfl) ?_
        refine lv_iconst (v := 1) hx hb dL_law_185 (by decide) ?_
        refine lv_iadd hx hb dL_law_186 ?_
        refine va_sld hx hb hX hbl hbA G.2.2.1 hi1 dL_law_187 ?_
        rw [← exa]
        refine lv_aload_n hx hb dL_law_188 rfl (lv_at hl 0 rfl) ?_
        refine lv_iload_n hx hb dL_law_189 rfl (lv_at hl 3 rfl) ?_
        refine lv_iconst (v := 2) hx hb dL_law_190 (by decide) ?_
        refine lv_iadd hx hb dL_law_191 ?_
        refine va_sld hx hb hX hbl hbA G.2.2.1 hi2 dL_law_192 ?_
        rw [← exb]
        refine lx_calli (As := [.int xa, .int xb]) (rest := []) ⟨hx, hb, hml, hown, hts⟩ (kX0_meld l D h0 r0 cA σ xa xb) (cwV 2 hts gL_law_X0_meld rfl rfl rfl (by decide +kernel) ⟨Nat.le_of_ble_eq_true rfl, Nat.le_of_ble_eq_true rfl⟩) G rfl hl.1 rfl (Nat.le_of_ble_eq_true rfl) dL_law_193 ⟨Nat.le_of_ble_eq_true rfl, Nat.le_of_ble_eq_true rfl⟩ (fun r1 σ2 H locs e1 G => ?_)
        refine lv_aload_n hx hb dL_law_196 rfl (lv_at hl 2 rfl) ?_
        refine lv_aload_n hx hb dL_law_197 rfl (lv_at hl 0 rfl) ?_
        refine lv_iload_n hx hb dL_law_198 rfl (lv_at hl 3 rfl) ?_
        refine lv_iconst (v := 1) hx hb dL_law_199 (by decide) ?_
        refine lv_iadd hx hb dL_law_200 ?_
        refine va_sld hx hb hX hbl hbA G.2.2.1 hi1 dL_law_201 ?_
        rw [← exa]
        refine lv_aload_n hx hb dL_law_202 rfl (lv_at hl 0 rfl) ?_
        refine lv_iload_n hx hb dL_law_203 rfl (lv_at hl 3 rfl) ?_
        refine lv_iconst (v := 2) hx hb dL_law_204 (by decide) ?_
        refine lv_iadd hx hb dL_law_205 ?_
        refine va_sld hx hb hX hbl hbA G.2.2.1 hi2 dL_law_206 ?_
        rw [← exb]
        refine lm_calli (As := [.int xa, .int xb]) (rest := [.int r1]) ⟨hx, hb, hml, hown, hts⟩ (kX1_meld l D m0 o0 k0 t0 cI cZ μ xa xb (LR_ok hR)) (cwV 2 hts gL_law_X1_meld rfl rfl rfl (by decide +kernel) ⟨Nat.le_of_ble_eq_true rfl, Nat.le_of_ble_eq_true rfl⟩) G rfl hl.1 rfl (Nat.le_of_ble_eq_true rfl) dL_law_207 ⟨Nat.le_of_ble_eq_true rfl, Nat.le_of_ble_eq_true rfl⟩ (fun r2 μ2 H locs e2 G => ?_)
        obtain ⟨er, hR2⟩ := r_meld hR e1 e2
        refine lv_icmp_eq (tgt := 322) hx hb dL_law_210 (by decide) (fun _ => next σ2 μ2 H locs hR2 G) (fun c_2 => ?_)
        exact absurd er c_2
      | 5, _ =>
        refine lv_tableIn (off := 183) (tgt := 215) hx hb dL_law_32 (by decide) (by decide) (by decide) (by decide) ?_
        refine lv_aload_n hx hb dL_law_215 rfl (lv_at hl 1 rfl) ?_
        refine lv_aload_n hx hb dL_law_216 rfl (lv_at hl 0 rfl) ?_
        refine lv_iload_n hx hb dL_law_217 rfl (lv_at hl 3 rfl) ?_
        refine lv_iconst (v := 1) hx hb dL_law_218 (by decide) ?_
        refine lv_iadd hx hb dL_law_219 ?_
        refine va_sld hx hb hX hbl hbA G.2.2.1 hi1 dL_law_220 ?_
        rw [← exa]
        refine lx_calli (As := [.int xa]) (rest := []) ⟨hx, hb, hml, hown, hts⟩ (kX0_size l D h0 r0 cA σ xa) (cwV 1 hts gL_law_X0_size rfl rfl rfl (by decide +kernel) ⟨Nat.le_of_ble_eq_true rfl, Nat.le_of_ble_eq_true rfl⟩) G rfl hl.1 rfl (Nat.le_of_ble_eq_true rfl) dL_law_221 ⟨Nat.le_of_ble_eq_true rfl, Nat.le_of_ble_eq_true rfl⟩ (fun r1 σ2 H locs e1 G => ?_)
        refine lv_aload_n hx hb dL_law_224 rfl (lv_at hl 2 rfl) ?_
        refine lv_aload_n hx hb dL_law_225 rfl (lv_at hl 0 rfl) ?_
        refine lv_iload_n hx hb dL_law_226 rfl (lv_at hl 3 rfl) ?_
        refine lv_iconst (v := 1) hx hb dL_law_227 (by decide) ?_
        refine lv_iadd hx hb dL_law_228 ?_
        refine va_sld hx hb hX hbl hbA G.2.2.1 hi1 dL_law_229 ?_
        rw [← exa]
        refine lm_calli (As := [.int xa]) (rest := [.int r1]) ⟨hx, hb, hml, hown, hts⟩ (kX1_size l D m0 o0 k0 t0 cI cZ μ xa (LR_ok hR)) (cwV 1 hts gL_law_X1_size rfl rfl rfl (by decide +kernel) ⟨Nat.le_of_ble_eq_true rfl, Nat.le_of_ble_eq_true rfl⟩) G rfl hl.1 rfl (Nat.le_of_ble_eq_true rfl) dL_law_230 ⟨Nat.le_of_ble_eq_true rfl, Nat.le_of_ble_eq_true rfl⟩ (fun r2 μ2 H locs e2 G => ?_)
        obtain ⟨er, hR2⟩ := r_size hR e1 e2
        refine lv_icmp_eq (tgt := 322) hx hb dL_law_233 (by decide) (fun _ => next σ2 μ2 H locs hR2 G) (fun c_2 => ?_)
        exact absurd er c_2
      | 6, _ =>
        refine lv_tableIn (off := 206) (tgt := 238) hx hb dL_law_32 (by decide) (by decide) (by decide) (by decide) ?_
        refine lv_aload_n hx hb dL_law_238 rfl (lv_at hl 1 rfl) ?_
        refine lv_aload_n hx hb dL_law_239 rfl (lv_at hl 0 rfl) ?_
        refine lv_iload_n hx hb dL_law_240 rfl (lv_at hl 3 rfl) ?_
        refine lv_iconst (v := 1) hx hb dL_law_241 (by decide) ?_
        refine lv_iadd hx hb dL_law_242 ?_
        refine va_sld hx hb hX hbl hbA G.2.2.1 hi1 dL_law_243 ?_
        rw [← exa]
        refine lv_aload_n hx hb dL_law_244 rfl (lv_at hl 0 rfl) ?_
        refine lv_iload_n hx hb dL_law_245 rfl (lv_at hl 3 rfl) ?_
        refine lv_iconst (v := 2) hx hb dL_law_246 (by decide) ?_
        refine lv_iadd hx hb dL_law_247 ?_
        refine va_sld hx hb hX hbl hbA G.2.2.1 hi2 dL_law_248 ?_
        rw [← exb]
        refine lx_calll (As := [.int xa, .int xb]) (rest := []) ⟨hx, hb, hml, hown, hts⟩ (kX0_key l D h0 r0 cA σ xa xb) (cwV 2 hts gL_law_X0_key rfl rfl rfl (by decide +kernel) ⟨Nat.le_of_ble_eq_true rfl, Nat.le_of_ble_eq_true rfl⟩) G rfl hl.1 rfl (Nat.le_of_ble_eq_true rfl) dL_law_249 ⟨Nat.le_of_ble_eq_true rfl, Nat.le_of_ble_eq_true rfl⟩ (fun r1 σ2 H locs e1 G => ?_)
        refine lv_aload_n hx hb dL_law_252 rfl (lv_at hl 2 rfl) ?_
        refine lv_aload_n hx hb dL_law_253 rfl (lv_at hl 0 rfl) ?_
        refine lv_iload_n hx hb dL_law_254 rfl (lv_at hl 3 rfl) ?_
        refine lv_iconst (v := 1) hx hb dL_law_255 (by decide) ?_
        refine lv_iadd hx hb dL_law_256 ?_
        refine va_sld hx hb hX hbl hbA G.2.2.1 hi1 dL_law_257 ?_
        rw [← exa]
        refine lv_aload_n hx hb dL_law_258 rfl (lv_at hl 0 rfl) ?_
        refine lv_iload_n hx hb dL_law_259 rfl (lv_at hl 3 rfl) ?_
        refine lv_iconst (v := 2) hx hb dL_law_260 (by decide) ?_
        refine lv_iadd hx hb dL_law_261 ?_
        refine va_sld hx hb hX hbl hbA G.2.2.1 hi2 dL_law_262 ?_
        rw [← exb]
        refine lm_calll (As := [.int xa, .int xb]) (rest := [.long r1]) ⟨hx, hb, hml, hown, hts⟩ (kX1_key l D m0 o0 k0 t0 cI cZ μ xa xb (LR_ok hR) (LR_key hR xa xb)) (cwV 2 hts gL_law_X1_key rfl rfl rfl (by decide +kernel) ⟨Nat.le_of_ble_eq_true rfl, Nat.le_of_ble_eq_true rfl⟩) G rfl hl.1 rfl (Nat.le_of_ble_eq_true rfl) dL_law_263 ⟨Nat.le_of_ble_eq_true rfl, Nat.le_of_ble_eq_true rfl⟩ (fun r2 μ2 H locs e2 G => ?_)
        refine W.lcmp hx hb dL_law_266 ?_
        obtain ⟨er, hR2⟩ := r_key hR e1 e2
        refine lv_if_eq (tgt := 322) hx hb dL_law_267 (by decide) (fun _ => next σ2 μ2 H locs hR2 G) (fun c_2 => ?_)
        exact absurd ((lg_cmp_eq r1 r2).mpr er) c_2
      | 7, _ =>
        refine lv_tableIn (off := 240) (tgt := 272) hx hb dL_law_32 (by decide) (by decide) (by decide) (by decide) ?_
        refine lv_aload_n hx hb dL_law_272 rfl (lv_at hl 1 rfl) ?_
        refine lv_aload_n hx hb dL_law_273 rfl (lv_at hl 0 rfl) ?_
        refine lv_iload_n hx hb dL_law_274 rfl (lv_at hl 3 rfl) ?_
        refine lv_iconst (v := 1) hx hb dL_law_275 (by decide) ?_
        refine lv_iadd hx hb dL_law_276 ?_
        refine va_sld hx hb hX hbl hbA G.2.2.1 hi1 dL_law_277 ?_
        rw [← exa]
        refine lx_calll (As := [.int xa]) (rest := []) ⟨hx, hb, hml, hown, hts⟩ (kX0_sum l D h0 r0 cA σ xa) (cwV 1 hts gL_law_X0_sum rfl rfl rfl (by decide +kernel) ⟨Nat.le_of_ble_eq_true rfl, Nat.le_of_ble_eq_true rfl⟩) G rfl hl.1 rfl (Nat.le_of_ble_eq_true rfl) dL_law_278 ⟨Nat.le_of_ble_eq_true rfl, Nat.le_of_ble_eq_true rfl⟩ (fun r1 σ2 H locs e1 G => ?_)
        refine lv_aload_n hx hb dL_law_281 rfl (lv_at hl 2 rfl) ?_
        refine lv_aload_n hx hb dL_law_282 rfl (lv_at hl 0 rfl) ?_
        refine lv_iload_n hx hb dL_law_283 rfl (lv_at hl 3 rfl) ?_
        refine lv_iconst (v := 1) hx hb dL_law_284 (by decide) ?_
        refine lv_iadd hx hb dL_law_285 ?_
        refine va_sld hx hb hX hbl hbA G.2.2.1 hi1 dL_law_286 ?_
        rw [← exa]
        refine lm_calll (As := [.int xa]) (rest := [.long r1]) ⟨hx, hb, hml, hown, hts⟩ (kX1_sum l D m0 o0 k0 t0 cI cZ μ xa (LR_ok hR)) (cwV 1 hts gL_law_X1_sum rfl rfl rfl (by decide +kernel) ⟨Nat.le_of_ble_eq_true rfl, Nat.le_of_ble_eq_true rfl⟩) G rfl hl.1 rfl (Nat.le_of_ble_eq_true rfl) dL_law_287 ⟨Nat.le_of_ble_eq_true rfl, Nat.le_of_ble_eq_true rfl⟩ (fun r2 μ2 H locs e2 G => ?_)
        refine W.lcmp hx hb dL_law_290 ?_
        obtain ⟨er, hR2⟩ := r_sum hR e1 e2
        refine lv_if_eq (tgt := 322) hx hb dL_law_291 (by decide) (fun _ => next σ2 μ2 H locs hR2 G) (fun c_2 => ?_)
        exact absurd ((lg_cmp_eq r1 r2).mpr er) c_2
      | 8, _ =>
        refine lv_tableIn (off := 264) (tgt := 296) hx hb dL_law_32 (by decide) (by decide) (by decide) (by decide) ?_
        refine lv_aload_n hx hb dL_law_296 rfl (lv_at hl 1 rfl) ?_
        refine lx_calli (As := []) (rest := []) ⟨hx, hb, hml, hown, hts⟩ (kX0_free l D h0 r0 cA σ) (cwV 0 hts gL_law_X0_free rfl rfl rfl (by decide +kernel) ⟨Nat.le_of_ble_eq_true rfl, Nat.le_of_ble_eq_true rfl⟩) G rfl hl.1 rfl (Nat.le_of_ble_eq_true rfl) dL_law_297 ⟨Nat.le_of_ble_eq_true rfl, Nat.le_of_ble_eq_true rfl⟩ (fun r1 σ2 H locs e1 G => ?_)
        refine lv_aload_n hx hb dL_law_300 rfl (lv_at hl 2 rfl) ?_
        refine lm_calli (As := []) (rest := [.int r1]) ⟨hx, hb, hml, hown, hts⟩ (kX1_free l D m0 o0 k0 t0 cI cZ μ) (cwV 0 hts gL_law_X1_free rfl rfl rfl (by decide +kernel) ⟨Nat.le_of_ble_eq_true rfl, Nat.le_of_ble_eq_true rfl⟩) G rfl hl.1 rfl (Nat.le_of_ble_eq_true rfl) dL_law_301 ⟨Nat.le_of_ble_eq_true rfl, Nat.le_of_ble_eq_true rfl⟩ (fun r2 μ2 H locs e2 G => ?_)
        obtain ⟨er, hR2⟩ := r_free hR e1 e2
        refine lv_icmp_eq (tgt := 322) hx hb dL_law_304 (by decide) (fun _ => next σ2 μ2 H locs hR2 G) (fun c_2 => ?_)
        exact absurd er c_2
      | 9, _ =>
        refine lv_tableIn (off := 277) (tgt := 309) hx hb dL_law_32 (by decide) (by decide) (by decide) (by decide) ?_
        refine lv_aload_n hx hb dL_law_309 rfl (lv_at hl 1 rfl) ?_
        refine lx_calli (As := []) (rest := []) ⟨hx, hb, hml, hown, hts⟩ (kX0_few l D h0 r0 cA σ) (cwV 0 hts gL_law_X0_few rfl rfl rfl (by decide +kernel) ⟨Nat.le_of_ble_eq_true rfl, Nat.le_of_ble_eq_true rfl⟩) G rfl hl.1 rfl (Nat.le_of_ble_eq_true rfl) dL_law_310 ⟨Nat.le_of_ble_eq_true rfl, Nat.le_of_ble_eq_true rfl⟩ (fun r1 σ2 H locs e1 G => ?_)
        refine lv_aload_n hx hb dL_law_313 rfl (lv_at hl 2 rfl) ?_
        refine lm_calli (As := []) (rest := [.int r1]) ⟨hx, hb, hml, hown, hts⟩ (kX1_few l D m0 o0 k0 t0 cI cZ μ) (cwV 0 hts gL_law_X1_few rfl rfl rfl (by decide +kernel) ⟨Nat.le_of_ble_eq_true rfl, Nat.le_of_ble_eq_true rfl⟩) G rfl hl.1 rfl (Nat.le_of_ble_eq_true rfl) dL_law_314 ⟨Nat.le_of_ble_eq_true rfl, Nat.le_of_ble_eq_true rfl⟩ (fun r2 μ2 H locs e2 G => ?_)
        obtain ⟨er, hR2⟩ := r_few hR e1 e2
        refine lv_icmp_eq (tgt := 322) hx hb dL_law_317 (by decide) (fun _ => next σ2 μ2 H locs hR2 G) (fun c_2 => ?_)
        exact absurd er c_2
      | j + 10, hj =>
        refine lv_tableOut (tgt := 322) hx hb dL_law_32 (Or.inr (by rw [nI_toInt (by omega)]; omega)) (by decide) ?_
        exact next σ μ H locs hR G
end
section
set_option maxHeartbeats 8000000 in
set_option maxRecDepth 100000 in
/-- THE LAW, from its entry -/
theorem whole_start {p : Program} {e : Env} {s : State} {m : MethodId} {below : List Frame} {meth : Method} {c : Code} (l : Launch) {b L : Nat} {xs : Nat → Int32} (hL : L ≤ 1536) (C0 : lw_At p s m meth c b L xs) : W p l e room_1 s m #[Value.ref b] below meth c s.heap [] 0 0 (lw_Z below #[Value.ref b] s) (entryFrame m ([Value.ref b] : List Value).toArray 4) := by
  obtain ⟨hx, hb, hr, hml, hown, hts0, hX, hbl, hlocks, hgv⟩ := id C0
  have hts : ∀ w ∈ wsL_law, w.before #[Value.ref b] s = true := fun w h => hts0 w (wsL_law_in w h)
  have hown : s.vm.findClass RL = some m.cls := hown
  have hb : c.code = cL_law := hb
  have hA : ∀ q : Nat, s.heap.size ≤ q → (fun q : Nat => s.heap.size ≤ q) q := fun _ h => h
  obtain ⟨c0, iS0, hKn0⟩ := u_known (C := RX0) (T := TX0) (N := 6) (n := 6) hts inlX0 (hts (.instantiable RX0 6) (by decide +kernel))
  obtain ⟨c1, iS1, hKn1⟩ := u_known (C := RX1) (T := TX1) (N := 5) (n := 5) hts inlX1 (hts (.instantiable RX1 5) (by decide +kernel))
  obtain ⟨D, hKc⟩ : ∃ D : va_G, ∀ (k : Nat) (q : vw_C), vwCl[k]? = some q → u_Kn s q.1 q.2.1 q.2.2 (D.1 k) (D.2 k) := by
    refine ⟨(fun k => if k = 0 then c0 else c1, fun k => if k = 0 then iS0 else iS1), ?_⟩
    intro k q hq
    match k, hq with
    | 0, hq => cases hq; exact hKn0
    | 1, hq => cases hq; exact hKn1
    | k + 2, hq => simp [vwCl] at hq
  have hS : va_S (fun q : Nat => s.heap.size ≤ q) s.heap s.heap [] := va_S.rf
  have hK : va_K D vwCl [] s := ⟨hKc, fun k q h => by simp at h⟩
  have hP : va_P D vwCl [] s.heap := fun k q h => by simp at h
  have hD : va_D (fun q : Nat => s.heap.size ≤ q) [] := ⟨fun i j p q h => by simp at h, fun k q h => by simp at h⟩
  have hl := lv_entry ([.ref b]) (n := 4) (Nat.le_of_ble_eq_true rfl)
  rw [lg_entry_eq]
  generalize (lg_sl ([.ref b]) ++ List.replicate (4 - (lg_sl ([.ref b])).length) Slot.unset).toArray = ls at hl ⊢
  have hl : lv_has ls 4 [(0, .ref b)] := hl
  refine va_new (ci := 0) (fs := [.null, .int 0, .int 0, .int 0, .int 0, .int 0]) (C := RX0) (T := TX0) (N := 6) hx hb hts inlX0 tyX0 tyX0_ok hown (hts (.classLink RL 7 RX0) (by decide +kernel)) (hts (.instantiable RX0 6) (by decide +kernel)) (hts (.initialized RX0) (by decide +kernel)) hK hP hD hS hA rfl (fun j hj => by rcases (show j = 0 ∨ j = 1 ∨ j = 2 ∨ j = 3 ∨ j = 4 ∨ j = 5 by omega) with rfl | rfl | rfl | rfl | rfl | rfl <;> rfl) (Nat.le_of_ble_eq_true rfl) (Nat.le_of_ble_eq_true rfl) dL_law_0 (fun h0 H hP hD hS => ?_)
  have hP : va_P D vwCl [(h0, .inr (0, [.null, .int 0, .int 0, .int 0, .int 0, .int 0]))] H := hP
  have hD : va_D (fun q : Nat => s.heap.size ≤ q) [(h0, .inr (0, [.null, .int 0, .int 0, .int 0, .int 0, .int 0]))] := hD
  refine W.widen (k := 1) (n := 6) (by omega) (by omega) ?_
  refine lv_dup hx hb dL_law_3 rfl ?_
  have hPc := hP.sub (ws' := [(h0, .inr (0, [.null, .int 0, .int 0, .int 0, .int 0, .int 0]))]) [0] rfl
  have hDc := hD.sub (ws' := [(h0, .inr (0, [.null, .int 0, .int 0, .int 0, .int 0, .int 0]))]) [0] (by decide) rfl
  have hKc := hK.sub (tys' := []) [] rfl
  have hFc := va_free (wc := [(h0, .inr (0, [.null, .int 0, .int 0, .int 0, .int 0, .int 0]))]) hD hS hA [0] rfl
  refine va_callv (va_runI (As := []) (rest := [.ref h0]) ⟨hx, hb, hml, hown, hts⟩ (kX0_init l D h0 H.size) (cwI 0 hts gL_law_X0_init rfl rfl rfl (hts (.initialized RX0) (by decide +kernel)) (hts (.methodLink RL 9 yX0_init) (by decide +kernel)) (hts (.instanceMethod yX0_init) (by decide +kernel)) rfl (by decide +kernel) ⟨Nat.le_of_ble_eq_true rfl, Nat.le_of_ble_eq_true rfl⟩) ⟨gP_blind, fun U hU hW => ⟨rfl, by rw [hU], by rw [hU]; exact hPc, va_K.moved hW.alike hKc, hDc.weaken (fun _ _ _ _ => trivial)⟩⟩ rfl rfl hl.1 rfl (lv_room (Nat.le_of_ble_eq_true rfl)) dL_law_4 ⟨Nat.le_of_ble_eq_true rfl, Nat.le_of_ble_eq_true rfl⟩) hS (fun q _ h => hFc q h) hFc (fun u t H1 locs ht hvm hw hB hz1 hk1 hS => ?_)
  obtain ⟨r0, cA⟩ := u
  obtain ⟨hP1, hK1, hD1⟩ := hB
  rw [ht] at hP1
  have hK1 := va_K.moved hvm.symm hK1
  obtain ⟨hP, hD⟩ := va_join (wr := []) (w1 := xw h0 r0 cA x_new) hP hD [0] [] rfl rfl (by decide) (by decide) hk1 hFc hP1 hD1
  have hK : va_K D vwCl [(cA, .int)] s := (hK.sub (tys' := []) [] rfl).app hK1
  generalize H1 = H at hP hS ⊢
  generalize hxn : x_new = σ0 at hP hD
  have hP : va_P D vwCl (xw h0 r0 cA σ0) H := hP
  have hD : va_D (fun q : Nat => s.heap.size ≤ q) (xw h0 r0 cA σ0) := hD
  refine W.widen (k := 2) (n := 1086) (by omega) (by omega) ?_
  refine lv_astore_n (lv' := [(1, .ref h0), (0, .ref b)]) hx hb dL_law_7 rfl hl (by decide) rfl (fun ls hl => ?_)
  refine va_new (ci := 1) (fs := [.int 0, .int 0, .null, .null, .null]) (C := RX1) (T := TX1) (N := 5) hx hb hts inlX1 tyX1 tyX1_ok hown (hts (.classLink RL 10 RX1) (by decide +kernel)) (hts (.instantiable RX1 5) (by decide +kernel)) (hts (.initialized RX1) (by decide +kernel)) hK hP hD hS hA rfl (fun j hj => by rcases (show j = 0 ∨ j = 1 ∨ j = 2 ∨ j = 3 ∨ j = 4 by omega) with rfl | rfl | rfl | rfl | rfl <;> rfl) (Nat.le_of_ble_eq_true rfl) (Nat.le_of_ble_eq_true rfl) dL_law_8 (fun m0 H hP hD hS => ?_)
  have hP : va_P D vwCl (xw h0 r0 cA σ0 ++ [(m0, .inr (1, [.int 0, .int 0, .null, .null, .null]))]) H := hP
  have hD : va_D (fun q : Nat => s.heap.size ≤ q) (xw h0 r0 cA σ0 ++ [(m0, .inr (1, [.int 0, .int 0, .null, .null, .null]))]) := hD
  refine W.widen (k := 3) (n := 1091) (by omega) (by omega) ?_
  refine lv_dup hx hb dL_law_11 rfl ?_
  have hPc := hP.sub (ws' := [(m0, .inr (1, [.int 0, .int 0, .null, .null, .null]))]) [2] rfl
  have hDc := hD.sub (ws' := [(m0, .inr (1, [.int 0, .int 0, .null, .null, .null]))]) [2] (by decide) rfl
  have hKc := hK.sub (tys' := []) [] rfl
  have hFc := va_free (wc := [(m0, .inr (1, [.int 0, .int 0, .null, .null, .null]))]) hD hS hA [2] rfl
  refine va_callv (va_runI (As := []) (rest := [.ref m0]) ⟨hx, hb, hml, hown, hts⟩ (kX1_init l D m0 H.size) (cwI 0 hts gL_law_X1_init rfl rfl rfl (hts (.initialized RX1) (by decide +kernel)) (hts (.methodLink RL 12 yX1_init) (by decide +kernel)) (hts (.instanceMethod yX1_init) (by decide +kernel)) rfl (by decide +kernel) ⟨Nat.le_of_ble_eq_true rfl, Nat.le_of_ble_eq_true rfl⟩) ⟨gP_blind, fun U hU hW => ⟨rfl, by rw [hU], by rw [hU]; exact hPc, va_K.moved hW.alike hKc, hDc.weaken (fun _ _ _ _ => trivial)⟩⟩ rfl rfl hl.1 rfl (lv_room (Nat.le_of_ble_eq_true rfl)) dL_law_12 ⟨Nat.le_of_ble_eq_true rfl, Nat.le_of_ble_eq_true rfl⟩) hS (fun q _ h => hFc q h) hFc (fun u t H1 locs ht hvm hw hB hz1 hk1 hS => ?_)
  obtain ⟨⟨o0, k0, t0⟩, cI, cZ⟩ := u
  obtain ⟨hP1, hK1, hD1⟩ := hB
  rw [ht] at hP1
  have hK1 := va_K.moved hvm.symm hK1
  obtain ⟨hP, hD⟩ := va_join (wr := xw h0 r0 cA σ0) (w1 := mw m0 o0 k0 t0 cI cZ m_new) hP hD [2] [0, 1] rfl rfl (by decide) (by decide) hk1 hFc hP1 hD1
  have hK : va_K D vwCl (lTY cA cI cZ) s := hK.app hK1
  generalize H1 = H at hP hS ⊢
  have G : gG D vwCl (lTY cA cI cZ) (fun q : Nat => s.heap.size ≤ q) s (xw h0 r0 cA σ0 ++ mw m0 o0 k0 t0 cI cZ m_new) H locs := ⟨hP, hD, hS, hK, hA⟩
  refine W.widen (k := 6) (n := 1691) (by omega) (by omega) ?_
  refine lv_astore_n (lv' := [(2, .ref m0), (1, .ref h0), (0, .ref b)]) hx hb dL_law_15 rfl hl (by decide) rfl (fun ls hl => ?_)
  refine lv_iconst (v := nI 0) hx hb dL_law_16 (by decide) ?_
  refine lv_istore_n (lv' := [(3, .int (nI 0)), (2, .ref m0), (1, .ref h0), (0, .ref b)]) hx hb dL_law_17 rfl hl (by decide) rfl (fun ls hl => ?_)
  exact law_loop hL C0 (L + 1) 0 (Nat.zero_le L) (by omega) σ0 m_new H locs (by rw [← hxn]; exact LR_new) G ls (lv_sub hl [3, 2, 1, 0] rfl)
end
section
set_option maxHeartbeats 4000000 in
theorem lw_walk (l : Launch) (b : Addr) (xs : List Int32) : MetFree l x (headSpec (Jvm.Cond.code x code maxLocals ret :: tables_1) room_1) (lw_P b xs) (fun _ _ _ _ _ => True) lw_Q := by
  refine MetFree.of_bodyS (code := code) (maxLocals := maxLocals) (ret := ret) (by decide) ?_ ?_
  · intro args s m h hn
    obtain ⟨meth, c, h1, h2, h3, h4, h5, h6, -, -⟩ := Cond.code_spec hn (atoms_spec (ws := Jvm.Cond.code x code maxLocals ret :: tables_1) h _ List.mem_cons_self)
    exact ⟨meth, c, h1, h2, h3, h4, h5, h6⟩
  · intro p e s m args below meth c s₁ B hml0 hP _
    obtain ⟨rfl, hx, hbd, hgv⟩ := hP
    obtain ⟨scr, harrAt, hlist, hof, hsmall⟩ := hx
    obtain ⟨hcb, hkn, -, -⟩ := State.arrayAt?_spec harrAt
    have hown : s.vm.findClass R_law = some m.cls := findClass_of_methodNamed B.named
    have hts0 : ∀ c ∈ (Jvm.Cond.code x code maxLocals ret :: tables_1), c.before #[Value.ref b] s = true := atoms_spec (ws := Jvm.Cond.code x code maxLocals ret :: tables_1) B.pre
    have hts : ∀ w ∈ lw_tbl, w.before #[Value.ref b] s = true := k2_hts_sels lw_privs (fun w hw => hts0 w (List.mem_cons_of_mem _ hw)) lw_privs_ok
    have hml : c.maxLocals = 4 := B.maxLocals_eq (hts0 _ List.mem_cons_self)
    have X₀ : Stand p l e room_1 s m #[Value.ref b] below meth c s₁ [] 0 0 := Stand.of_body B
    have hh0 : s₁.heap = s.heap := by rw [B.state]; rfl
    have hsz : scr.slots.size = xs.length := by rw [← Array.length_toList, hlist, List.length_map]
    have hval : ∀ j : Nat, j < xs.length → scr.slots[j]? = some (.int (xs.getD j 0)) := fun j hj => by
      rw [← Array.getElem?_toList, hlist]
      simp [hj]
    have hbl : b < s.heap.size := (Array.getElem?_eq_some_iff.mp hcb).1
    have hX : va_X b xs.length (fun j => xs.getD j 0) s s.heap := ⟨scr, hcb, hof, hkn, hsz, hval⟩
    have K : W p l e room_1 s m #[Value.ref b] below meth c s₁.heap [] 0 0 (lw_Z below #[Value.ref b] s) (entryFrame m ([Value.ref b] : List Value).toArray 4) := by
      rw [hh0]
      exact whole_start l hbd ⟨B.exec, B.bytes, B.returns, hml, hown, hts, hX, hbl, B.notSynchronized, hgv⟩
    obtain ⟨t, a1, o, b1, b2, b3⟩ := K s₁ rfl X₀
    exact ⟨t, o, a1, b1, b2, b3⟩
theorem lw_pre_spec {args : Array Value} {s : State} (h : (Jvm.Cond.and given_1 narrow_1).before args s = true) (hr : rest_1_c.before args s = true) : ∃ (b : Addr) (xs : List Int32), lw_P b xs args s := by
  have hs := flat_of_before _ h
  have hq := flat_of_before _ hr
  have hc : (Cond.count 1).before args s = true := hs _ (by decide +kernel)
  have harr : (Cond.arrayOf (.arg 0) .int).before args s = true := hs _ (by decide +kernel)
  have hle : (Cond.le (.length (.arg 0)) (.int 1536)).before args s = true := hs _ (by decide +kernel)
  have hlen : (Cond.isInt (.length (.arg 0))).before args s = true := hq _ (by decide +kernel)
  have hall : (Cond.all (.arg 0) (.isInt (.elem (.arg 0) (.index 0)))).before args s = true := hq _ (by decide +kernel)
  obtain ⟨b, xs, hb, hx⟩ := State.ints_of_pre rfl harr hlen hall
  have hsm : xs.length < 2 ^ 31 := hx.choose_spec.2.2.2
  have hev : (Term.length (.arg 0)).eval args s none [] s = some (.int xs.length.toInt32) := hx.length_eval hb
  have hv := Cond.le_ints hev (show (Term.int 1536).eval args s none [] s = some (.int 1536) from rfl)
  have hd : xs.length.toInt32 ≤ 1536 := by
    simpa [Cond.before, Cond.holds, hv] using hle
  have hN : xs.length ≤ 1536 := (Int32.ofNat_le_ofNat hsm (by decide)).mp (show Int32.ofNat xs.length ≤ Int32.ofNat 1536 from hd)
  exact ⟨b, xs, Cond.one_arg hc (show args[0]? = some (.ref b) from hb), hx, hN, h⟩
theorem lw_comes (l : Launch) : Comes l x (Jvm.Cond.code x code maxLocals ret :: tables_1) room_1 (fun tb e args s => Calls_1 tb e args s ∧ rest_1 tb e args s ∧ Pre_1 tb e args s)
    (fun _ _ args s o t => lw_Q args s o t) := by
  intro p e ha hc hk s m args below hf hfit hheap happ hpre
  obtain ⟨b, xs, hP⟩ := lw_pre_spec hpre.2.2 hpre.2.1
  obtain ⟨k, o, h1, h2, h3, hQ⟩ := lw_walk l b xs p e ha hc hk s m args below hf ((Spec.applies_iff_loose hf).mp happ).1 hP trivial
  exact ⟨k, o, h1, h2, h3, hQ⟩
theorem lw_frame {s t : State} {o : Outcome} {args : Array Value} (h : Framed s o t [] 6 1691) :
    Framed s o t (fieldLocs frame_1_writes args s ++ arrayLocs frame_1_arrays args s ++ staticLocs frame_1_statics s) 6 1691 := h
theorem lw_limb (L : Cond) (hL : ∀ (args : Array Value) (s t : State), L.after args s (.returned (some (.int 1))) t = true) :
    ArmFor flags0 classFile x code maxLocals ret World_1 tables_1 room_1 Calls_1 rest_1 Pre_1
      (fun tb e a s o t => postC L tb e a s o t ∧ Framed s o t (fieldLocs frame_1_writes a s ++ arrayLocs frame_1_arrays a s ++ staticLocs frame_1_statics s) 6 1691) := by
  intro l _ _ _ p e ha hc hk s m args below hf hfit hheap happ hpre
  obtain ⟨k, o, h1, h2, h3, rfl, hF⟩ := lw_comes l p e ha hc hk s m args below hf hfit hheap happ hpre
  exact ⟨k, _, h1, h2, h3, hL args s _, lw_frame hF⟩
theorem i_vc : Claimed_1_1 ∧ Claimed_1_2 := ⟨lw_limb limb_1_1 (fun args s t => by simp [limb_1_1, Cond.after, Cond.holds, Cond.value]), lw_limb limb_1_2 (fun args s t => Cond.after_iff.mpr (by
  first | (rw [show limb_1_2 = Cond.eq .result (.int 1) from rfl, Cond.eq_ints (x := 1) (y := 1) rfl rfl]; simp; done) | (simp [limb_1_2, Cond.value, Term.eval]; done)))⟩
end
