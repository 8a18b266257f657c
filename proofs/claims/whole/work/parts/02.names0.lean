/-! ===== BEGIN words of one list among another's, by their places ===== -/
theorem goodIn_r {big : List Cond} (ws : List Cond) (ps : List Nat) (hp : ws = ps.filterMap (fun i => big[i]?)) (h : ws.all goodWord = true) : GoodIn big ws := by
  intro w hw
  have h1 := List.all_eq_true.mp h w hw
  rw [hp] at hw
  obtain ⟨i, -, hi⟩ := List.mem_filterMap.mp hw
  have hm : w ∈ big := by first | exact List.mem_of_getElem? hi | exact List.getElem?_mem hi
  exact ⟨hm, good_of_word h1⟩
theorem goodIn_app {big a b : List Cond} (ha : GoodIn big a) (hb : GoodIn big b) : GoodIn big (a ++ b) := fun w h => (List.mem_append.mp h).elim (ha w) (hb w)
theorem goodIn_ca {big a b : List Cond} {c : Cond} (ha : GoodIn big (c :: a)) (hb : GoodIn big b) : GoodIn big (c :: (a ++ b)) := fun w h => (List.mem_cons.mp h).elim (fun e => ha w (List.mem_cons.mpr (Or.inl e))) (fun h => (List.mem_append.mp h).elim (fun h => ha w (List.mem_cons.mpr (Or.inr h))) (hb w))
theorem goodIn_sub {big ws : List Cond} (hm : ∀ w ∈ ws, w ∈ big) (h : ws.all goodWord = true) : GoodIn big ws := fun w hw => ⟨hm w hw, good_of_word (List.all_eq_true.mp h w hw)⟩
/-! ===== END ===== -/

/-! ===== BEGIN printed: names, fields, word lists, decode rows ===== -/
def RX0 : String := "SkewMelds"
def TX0 : u_T := fun k => match k with
  | 0 => ("SkewMelds", "row", "[I", true)
  | 1 => ("SkewMelds", "heaps", "I", false)
  | 2 => ("SkewMelds", "unused", "I", false)
  | 3 => ("SkewMelds", "firstUnused", "I", false)
  | 4 => ("SkewMelds", "steps", "I", false)
  | _ => ("SkewMelds", "limit", "I", false)
def tyX0 : Nat → FieldType := fun k => match k with
  | 0 => .array .int
  | 1 => .int
  | 2 => .int
  | 3 => .int
  | 4 => .int
  | _ => .int
abbrev wsX00 : List Cond := u_ws RX0 TX0 6
theorem nmX0 : ∀ a, a < 6 → ∀ b, b < 6 → a ≠ b → (TX0 a).2.1 ≠ (TX0 b).2.1 := by decide +kernel
theorem tyX0_ok : ∀ k, k < 6 → parseFieldDescriptor (TX0 k).2.2.1 = some (tyX0 k) := by decide +kernel
abbrev cX0_init : ByteArray := prog_1_method_1_code
def yX0_init : MethodName := ⟨RX0, "<init>", "()V"⟩
abbrev cX0_heap : ByteArray := prog_1_method_2_code
def yX0_heap : MethodName := ⟨RX0, "heap", "()I"⟩
abbrev cX0_add : ByteArray := prog_1_method_3_code
def yX0_add : MethodName := ⟨RX0, "add", "(II)I"⟩
abbrev cX0_least : ByteArray := prog_1_method_4_code
def yX0_least : MethodName := ⟨RX0, "least", "(I)J"⟩
abbrev cX0_take : ByteArray := prog_1_method_5_code
def yX0_take : MethodName := ⟨RX0, "take", "(I)J"⟩
abbrev cX0_meld : ByteArray := prog_1_method_6_code
def yX0_meld : MethodName := ⟨RX0, "meld", "(II)I"⟩
abbrev cX0_size : ByteArray := prog_1_method_7_code
def yX0_size : MethodName := ⟨RX0, "size", "(I)I"⟩
abbrev cX0_key : ByteArray := prog_1_method_8_code
def yX0_key : MethodName := ⟨RX0, "key", "(II)J"⟩
abbrev cX0_sum : ByteArray := prog_1_method_9_code
def yX0_sum : MethodName := ⟨RX0, "sum", "(I)J"⟩
abbrev cX0_free : ByteArray := prog_1_method_10_code
def yX0_free : MethodName := ⟨RX0, "free", "()I"⟩
abbrev cX0_few : ByteArray := prog_1_method_11_code
def yX0_few : MethodName := ⟨RX0, "few", "()Z"⟩
abbrev cX0_read : ByteArray := prog_1_method_12_code
def yX0_read : MethodName := ⟨RX0, "read", "(I)I"⟩
abbrev cX0_write : ByteArray := prog_1_method_13_code
def yX0_write : MethodName := ⟨RX0, "write", "(II)V"⟩
abbrev cX0_begin : ByteArray := prog_1_method_14_code
def yX0_begin : MethodName := ⟨RX0, "begin", "(I)V"⟩
abbrev cX0_beginOn : ByteArray := prog_1_method_15_code
def yX0_beginOn : MethodName := ⟨RX0, "beginOn", "(I)V"⟩
abbrev cX0_beginOnBoth : ByteArray := prog_1_method_16_code
def yX0_beginOnBoth : MethodName := ⟨RX0, "beginOnBoth", "(II)V"⟩
abbrev cX0_limitFor : ByteArray := prog_1_method_17_code
def yX0_limitFor : MethodName := ⟨RX0, "limitFor", "(I)I"⟩
abbrev cX0_exists : ByteArray := prog_1_method_18_code
def yX0_exists : MethodName := ⟨RX0, "exists", "(I)Z"⟩
abbrev cX0_keysIn : ByteArray := prog_1_method_19_code
def yX0_keysIn : MethodName := ⟨RX0, "keysIn", "(I)I"⟩
abbrev cX0_resize : ByteArray := prog_1_method_20_code
def yX0_resize : MethodName := ⟨RX0, "resize", "(II)I"⟩
abbrev cX0_newCell : ByteArray := prog_1_method_21_code
def yX0_newCell : MethodName := ⟨RX0, "newCell", "(I)I"⟩
abbrev cX0_giveBack : ByteArray := prog_1_method_22_code
def yX0_giveBack : MethodName := ⟨RX0, "giveBack", "(I)V"⟩
abbrev cX0_topAt : ByteArray := prog_1_method_23_code
def yX0_topAt : MethodName := ⟨RX0, "topAt", "(II)I"⟩
abbrev cX0_cutTop : ByteArray := prog_1_method_24_code
def yX0_cutTop : MethodName := ⟨RX0, "cutTop", "(II)I"⟩
abbrev cX0_cutTwin : ByteArray := prog_1_method_25_code
def yX0_cutTwin : MethodName := ⟨RX0, "cutTwin", "(I)I"⟩
abbrev cX0_insertCell : ByteArray := prog_1_method_26_code
def yX0_insertCell : MethodName := ⟨RX0, "insertCell", "(II)V"⟩
abbrev cX0_link : ByteArray := prog_1_method_27_code
def yX0_link : MethodName := ⟨RX0, "link", "(II)I"⟩
abbrev cX0_hangTree : ByteArray := prog_1_method_28_code
def yX0_hangTree : MethodName := ⟨RX0, "hangTree", "(II)V"⟩
abbrev cX0_hangKey : ByteArray := prog_1_method_29_code
def yX0_hangKey : MethodName := ⟨RX0, "hangKey", "(II)V"⟩
abbrev cX0_place : ByteArray := prog_1_method_30_code
def yX0_place : MethodName := ⟨RX0, "place", "(II)V"⟩
abbrev cX0_placeChildren : ByteArray := prog_1_method_31_code
def yX0_placeChildren : MethodName := ⟨RX0, "placeChildren", "(II)V"⟩
abbrev cX0_leastRoot : ByteArray := prog_1_method_32_code
def yX0_leastRoot : MethodName := ⟨RX0, "leastRoot", "(I)I"⟩
abbrev cX0_lesserRoot : ByteArray := prog_1_method_33_code
def yX0_lesserRoot : MethodName := ⟨RX0, "lesserRoot", "(II)I"⟩
abbrev cX0_cutRoot : ByteArray := prog_1_method_34_code
def yX0_cutRoot : MethodName := ⟨RX0, "cutRoot", "(II)V"⟩
abbrev cX0_listCells : ByteArray := prog_1_method_35_code
def yX0_listCells : MethodName := ⟨RX0, "listCells", "(I)I"⟩
abbrev cX0_listChain : ByteArray := prog_1_method_36_code
def yX0_listChain : MethodName := ⟨RX0, "listChain", "(III)I"⟩
abbrev cX0_listedKey : ByteArray := prog_1_method_37_code
def yX0_listedKey : MethodName := ⟨RX0, "listedKey", "(I)I"⟩
abbrev cX0_kthListed : ByteArray := prog_1_method_38_code
def yX0_kthListed : MethodName := ⟨RX0, "kthListed", "(II)J"⟩
abbrev cX0_countUpTo : ByteArray := prog_1_method_39_code
def yX0_countUpTo : MethodName := ⟨RX0, "countUpTo", "(IJ)I"⟩
def RX1 : String := "SkewMeldsModel"
def TX1 : u_T := fun k => match k with
  | 0 => ("SkewMeldsModel", "heaps", "I", false)
  | 1 => ("SkewMeldsModel", "used", "I", false)
  | 2 => ("SkewMeldsModel", "owners", "[I", true)
  | 3 => ("SkewMeldsModel", "keys", "[I", true)
  | _ => ("SkewMeldsModel", "told", "[Z", true)
def tyX1 : Nat → FieldType := fun k => match k with
  | 0 => .int
  | 1 => .int
  | 2 => .array .int
  | 3 => .array .int
  | _ => .array .boolean
abbrev wsX10 : List Cond := u_ws RX1 TX1 5
theorem nmX1 : ∀ a, a < 5 → ∀ b, b < 5 → a ≠ b → (TX1 a).2.1 ≠ (TX1 b).2.1 := by decide +kernel
theorem tyX1_ok : ∀ k, k < 5 → parseFieldDescriptor (TX1 k).2.2.1 = some (tyX1 k) := by decide +kernel
abbrev cX1_init : ByteArray := prog_3_method_1_code
def yX1_init : MethodName := ⟨RX1, "<init>", "()V"⟩
abbrev cX1_isHeap : ByteArray := prog_3_method_3_code
def yX1_isHeap : MethodName := ⟨RX1, "isHeap", "(I)Z"⟩
abbrev cX1_heap : ByteArray := prog_3_method_4_code
def yX1_heap : MethodName := ⟨RX1, "heap", "()I"⟩
abbrev cX1_sizeOf : ByteArray := prog_3_method_5_code
def yX1_sizeOf : MethodName := ⟨RX1, "sizeOf", "(I)I"⟩
abbrev cX1_add : ByteArray := prog_3_method_6_code
def yX1_add : MethodName := ⟨RX1, "add", "(II)I"⟩
abbrev cX1_placeOf : ByteArray := prog_3_method_7_code
def yX1_placeOf : MethodName := ⟨RX1, "placeOf", "(I)I"⟩
abbrev cX1_untell : ByteArray := prog_3_method_8_code
def yX1_untell : MethodName := ⟨RX1, "untell", "()V"⟩
abbrev cX1_least : ByteArray := prog_3_method_9_code
def yX1_least : MethodName := ⟨RX1, "least", "(I)J"⟩
abbrev cX1_take : ByteArray := prog_3_method_10_code
def yX1_take : MethodName := ⟨RX1, "take", "(I)J"⟩
abbrev cX1_meld : ByteArray := prog_3_method_11_code
def yX1_meld : MethodName := ⟨RX1, "meld", "(II)I"⟩
abbrev cX1_size : ByteArray := prog_3_method_12_code
def yX1_size : MethodName := ⟨RX1, "size", "(I)I"⟩
abbrev cX1_key : ByteArray := prog_3_method_13_code
def yX1_key : MethodName := ⟨RX1, "key", "(II)J"⟩
abbrev cX1_sum : ByteArray := prog_3_method_14_code
def yX1_sum : MethodName := ⟨RX1, "sum", "(I)J"⟩
abbrev cX1_free : ByteArray := prog_3_method_15_code
def yX1_free : MethodName := ⟨RX1, "free", "()I"⟩
abbrev cX1_few : ByteArray := prog_3_method_16_code
def yX1_few : MethodName := ⟨RX1, "few", "()Z"⟩
def RL : String := "SkewMeldsLaw"
abbrev cL_law : ByteArray := code
def yL_law : MethodName := ⟨RL, "law", "([I)Z"⟩
def wsX0_write : List Cond := .code yX0_write cX0_write 3 none :: ([.fieldLink RX0 13 "SkewMelds" "row" "[I", .fieldLink RX0 96 "SkewMelds" "steps" "I"] ++ wsX00)
def wsX0_giveBack : List Cond := .code yX0_giveBack cX0_giveBack 2 none :: ([.fieldLink RX0 21 "SkewMelds" "firstUnused" "I", .fieldLink RX0 93 "SkewMelds" "unused" "I", .methodLink RX0 17 yX0_write, .instanceMethod yX0_write, .selects RX0 yX0_write yX0_write, .initialized RX0, .code yX0_write cX0_write 3 none, .fieldLink RX0 13 "SkewMelds" "row" "[I", .fieldLink RX0 96 "SkewMelds" "steps" "I"] ++ wsX00)
def wsX0_begin : List Cond := .code yX0_begin cX0_begin 2 none :: ([.fieldLink RX0 96 "SkewMelds" "steps" "I", .fieldLink RX0 99 "SkewMelds" "limit" "I"] ++ wsX00)
def wsX0_init : List Cond := .code yX0_init cX0_init 2 none :: ([.methodLink RX0 7 objectInit, .instanceMethod objectInit, .code objectInit ⟨#[0xb1]⟩ 1 none, .arrayClass .int, .fieldLink RX0 13 "SkewMelds" "row" "[I", .fieldLink RX0 21 "SkewMelds" "firstUnused" "I", .constant RX0 29 (2147483647), .methodLink RX0 17 yX0_write, .instanceMethod yX0_write, .selects RX0 yX0_write yX0_write, .initialized RX0, .code yX0_write cX0_write 3 none, .fieldLink RX0 96 "SkewMelds" "steps" "I", .methodLink RX0 25 yX0_giveBack, .instanceMethod yX0_giveBack, .selects RX0 yX0_giveBack yX0_giveBack, .code yX0_giveBack cX0_giveBack 2 none, .fieldLink RX0 93 "SkewMelds" "unused" "I", .methodLink RX0 30 yX0_begin, .instanceMethod yX0_begin, .selects RX0 yX0_begin yX0_begin, .code yX0_begin cX0_begin 2 none, .fieldLink RX0 99 "SkewMelds" "limit" "I"] ++ wsX00)
def wsX0_heap : List Cond := .code yX0_heap cX0_heap 1 (some .int) :: ([.constant RX0 29 (2147483647), .fieldLink RX0 33 "SkewMelds" "heaps" "I", .methodLink RX0 30 yX0_begin, .instanceMethod yX0_begin, .selects RX0 yX0_begin yX0_begin, .initialized RX0, .code yX0_begin cX0_begin 2 none, .fieldLink RX0 96 "SkewMelds" "steps" "I", .fieldLink RX0 99 "SkewMelds" "limit" "I"] ++ wsX00)
def wsX0_exists : List Cond := .code yX0_exists cX0_exists 2 (some .boolean) :: ([.fieldLink RX0 33 "SkewMelds" "heaps" "I"] ++ wsX00)
def wsX0_read : List Cond := .code yX0_read cX0_read 2 (some .int) :: ([.fieldLink RX0 13 "SkewMelds" "row" "[I", .fieldLink RX0 96 "SkewMelds" "steps" "I"] ++ wsX00)
def wsX0_newCell : List Cond := .code yX0_newCell cX0_newCell 3 (some .int) :: ([.fieldLink RX0 21 "SkewMelds" "firstUnused" "I", .fieldLink RX0 93 "SkewMelds" "unused" "I", .methodLink RX0 47 yX0_read, .instanceMethod yX0_read, .selects RX0 yX0_read yX0_read, .initialized RX0, .code yX0_read cX0_read 2 (some .int), .fieldLink RX0 13 "SkewMelds" "row" "[I", .fieldLink RX0 96 "SkewMelds" "steps" "I", .methodLink RX0 17 yX0_write, .instanceMethod yX0_write, .selects RX0 yX0_write yX0_write, .code yX0_write cX0_write 3 none] ++ wsX00)
def wsX0_cutTwin : List Cond := .code yX0_cutTwin cX0_cutTwin 3 (some .int) :: ([.methodLink RX0 47 yX0_read, .instanceMethod yX0_read, .selects RX0 yX0_read yX0_read, .initialized RX0, .code yX0_read cX0_read 2 (some .int), .fieldLink RX0 13 "SkewMelds" "row" "[I", .fieldLink RX0 96 "SkewMelds" "steps" "I", .methodLink RX0 17 yX0_write, .instanceMethod yX0_write, .selects RX0 yX0_write yX0_write, .code yX0_write cX0_write 3 none] ++ wsX00)
def wsX0_topAt : List Cond := .code yX0_topAt cX0_topAt 2 (some .int) :: ([])
def wsX0_cutTop : List Cond := .code yX0_cutTop cX0_cutTop 4 (some .int) :: ([.methodLink RX0 105 yX0_topAt, .static yX0_topAt, .initialized RX0, .code yX0_topAt cX0_topAt 2 (some .int), .methodLink RX0 47 yX0_read, .instanceMethod yX0_read, .selects RX0 yX0_read yX0_read, .code yX0_read cX0_read 2 (some .int), .fieldLink RX0 13 "SkewMelds" "row" "[I", .fieldLink RX0 96 "SkewMelds" "steps" "I", .methodLink RX0 17 yX0_write, .instanceMethod yX0_write, .selects RX0 yX0_write yX0_write, .code yX0_write cX0_write 3 none] ++ wsX00)
def wsX0_hangTree : List Cond := .code yX0_hangTree cX0_hangTree 3 none :: ([.methodLink RX0 47 yX0_read, .instanceMethod yX0_read, .selects RX0 yX0_read yX0_read, .initialized RX0, .code yX0_read cX0_read 2 (some .int), .fieldLink RX0 13 "SkewMelds" "row" "[I", .fieldLink RX0 96 "SkewMelds" "steps" "I", .methodLink RX0 17 yX0_write, .instanceMethod yX0_write, .selects RX0 yX0_write yX0_write, .code yX0_write cX0_write 3 none] ++ wsX00)
def wsX0_link : List Cond := .code yX0_link cX0_link 5 (some .int) :: ([.methodLink RX0 47 yX0_read, .instanceMethod yX0_read, .selects RX0 yX0_read yX0_read, .initialized RX0, .code yX0_read cX0_read 2 (some .int), .fieldLink RX0 13 "SkewMelds" "row" "[I", .fieldLink RX0 96 "SkewMelds" "steps" "I", .methodLink RX0 114 yX0_hangTree, .instanceMethod yX0_hangTree, .selects RX0 yX0_hangTree yX0_hangTree, .code yX0_hangTree cX0_hangTree 3 none, .methodLink RX0 17 yX0_write, .instanceMethod yX0_write, .selects RX0 yX0_write yX0_write, .code yX0_write cX0_write 3 none] ++ wsX00)
def wsX0_hangKey : List Cond := .code yX0_hangKey cX0_hangKey 5 none :: ([.methodLink RX0 47 yX0_read, .instanceMethod yX0_read, .selects RX0 yX0_read yX0_read, .initialized RX0, .code yX0_read cX0_read 2 (some .int), .fieldLink RX0 13 "SkewMelds" "row" "[I", .fieldLink RX0 96 "SkewMelds" "steps" "I", .methodLink RX0 17 yX0_write, .instanceMethod yX0_write, .selects RX0 yX0_write yX0_write, .code yX0_write cX0_write 3 none, .methodLink RX0 114 yX0_hangTree, .instanceMethod yX0_hangTree, .selects RX0 yX0_hangTree yX0_hangTree, .code yX0_hangTree cX0_hangTree 3 none] ++ wsX00)
def wsX0_insertCell_r1 : List Cond := [Cond.methodLink RX0 71 yX0_cutTwin, Cond.instanceMethod yX0_cutTwin, Cond.selects RX0 yX0_cutTwin yX0_cutTwin, Cond.initialized RX0, Cond.code yX0_cutTwin cX0_cutTwin 3 (some .int), Cond.methodLink RX0 47 yX0_read, Cond.instanceMethod yX0_read, Cond.selects RX0 yX0_read yX0_read, Cond.code yX0_read cX0_read 2 (some .int), Cond.fieldLink RX0 13 "SkewMelds" "row" "[I", Cond.fieldLink RX0 96 "SkewMelds" "steps" "I", Cond.methodLink RX0 17 yX0_write, Cond.instanceMethod yX0_write, Cond.selects RX0 yX0_write yX0_write, Cond.code yX0_write cX0_write 3 none, Cond.methodLink RX0 77 yX0_cutTop, Cond.instanceMethod yX0_cutTop, Cond.selects RX0 yX0_cutTop yX0_cutTop, Cond.code yX0_cutTop cX0_cutTop 4 (some .int), Cond.methodLink RX0 105 yX0_topAt, Cond.static yX0_topAt, Cond.code yX0_topAt cX0_topAt 2 (some .int), Cond.methodLink RX0 108 yX0_link, Cond.instanceMethod yX0_link]
def wsX0_insertCell_r2 : List Cond := [Cond.selects RX0 yX0_link yX0_link, Cond.code yX0_link cX0_link 5 (some .int), Cond.methodLink RX0 114 yX0_hangTree, Cond.instanceMethod yX0_hangTree, Cond.selects RX0 yX0_hangTree yX0_hangTree, Cond.code yX0_hangTree cX0_hangTree 3 none, Cond.methodLink RX0 111 yX0_hangKey, Cond.instanceMethod yX0_hangKey, Cond.selects RX0 yX0_hangKey yX0_hangKey, Cond.code yX0_hangKey cX0_hangKey 5 none]
def wsX0_insertCell : List Cond := .code yX0_insertCell cX0_insertCell 6 none :: ((wsX0_insertCell_r1 ++ wsX0_insertCell_r2) ++ wsX00)
def wsX0_resize : List Cond := .code yX0_resize cX0_resize 3 (some .int) :: ([.methodLink RX0 17 yX0_write, .instanceMethod yX0_write, .selects RX0 yX0_write yX0_write, .initialized RX0, .code yX0_write cX0_write 3 none, .fieldLink RX0 13 "SkewMelds" "row" "[I", .fieldLink RX0 96 "SkewMelds" "steps" "I"] ++ wsX00)
def wsX0_add_r1 : List Cond := [Cond.fieldLink RX0 21 "SkewMelds" "firstUnused" "I", Cond.methodLink RX0 30 yX0_begin, Cond.instanceMethod yX0_begin, Cond.selects RX0 yX0_begin yX0_begin, Cond.initialized RX0, Cond.code yX0_begin cX0_begin 2 none, Cond.fieldLink RX0 96 "SkewMelds" "steps" "I", Cond.fieldLink RX0 99 "SkewMelds" "limit" "I", Cond.methodLink RX0 36 yX0_exists, Cond.instanceMethod yX0_exists, Cond.selects RX0 yX0_exists yX0_exists, Cond.code yX0_exists cX0_exists 2 (some .boolean), Cond.fieldLink RX0 33 "SkewMelds" "heaps" "I", Cond.methodLink RX0 40 yX0_newCell, Cond.instanceMethod yX0_newCell, Cond.selects RX0 yX0_newCell yX0_newCell, Cond.code yX0_newCell cX0_newCell 3 (some .int), Cond.fieldLink RX0 93 "SkewMelds" "unused" "I", Cond.methodLink RX0 47 yX0_read, Cond.instanceMethod yX0_read, Cond.selects RX0 yX0_read yX0_read, Cond.code yX0_read cX0_read 2 (some .int), Cond.fieldLink RX0 13 "SkewMelds" "row" "[I", Cond.methodLink RX0 17 yX0_write]
def wsX0_add_r2 : List Cond := [Cond.instanceMethod yX0_write, Cond.selects RX0 yX0_write yX0_write, Cond.code yX0_write cX0_write 3 none, Cond.methodLink RX0 44 yX0_insertCell, Cond.instanceMethod yX0_insertCell, Cond.selects RX0 yX0_insertCell yX0_insertCell, Cond.code yX0_insertCell cX0_insertCell 6 none, Cond.methodLink RX0 71 yX0_cutTwin, Cond.instanceMethod yX0_cutTwin, Cond.selects RX0 yX0_cutTwin yX0_cutTwin, Cond.code yX0_cutTwin cX0_cutTwin 3 (some .int), Cond.methodLink RX0 77 yX0_cutTop, Cond.instanceMethod yX0_cutTop, Cond.selects RX0 yX0_cutTop yX0_cutTop, Cond.code yX0_cutTop cX0_cutTop 4 (some .int), Cond.methodLink RX0 105 yX0_topAt, Cond.static yX0_topAt, Cond.code yX0_topAt cX0_topAt 2 (some .int), Cond.methodLink RX0 108 yX0_link, Cond.instanceMethod yX0_link, Cond.selects RX0 yX0_link yX0_link, Cond.code yX0_link cX0_link 5 (some .int), Cond.methodLink RX0 114 yX0_hangTree, Cond.instanceMethod yX0_hangTree]
def wsX0_add_r3 : List Cond := [Cond.selects RX0 yX0_hangTree yX0_hangTree, Cond.code yX0_hangTree cX0_hangTree 3 none, Cond.methodLink RX0 111 yX0_hangKey, Cond.instanceMethod yX0_hangKey, Cond.selects RX0 yX0_hangKey yX0_hangKey, Cond.code yX0_hangKey cX0_hangKey 5 none, Cond.methodLink RX0 50 yX0_resize, Cond.instanceMethod yX0_resize, Cond.selects RX0 yX0_resize yX0_resize, Cond.code yX0_resize cX0_resize 3 (some .int)]
def wsX0_add : List Cond := .code yX0_add cX0_add 3 (some .int) :: ((wsX0_add_r1 ++ (wsX0_add_r2 ++ wsX0_add_r3)) ++ wsX00)
def wsX0_keysIn : List Cond := .code yX0_keysIn cX0_keysIn 2 (some .int) :: ([.methodLink RX0 36 yX0_exists, .instanceMethod yX0_exists, .selects RX0 yX0_exists yX0_exists, .initialized RX0, .code yX0_exists cX0_exists 2 (some .boolean), .fieldLink RX0 33 "SkewMelds" "heaps" "I", .methodLink RX0 47 yX0_read, .instanceMethod yX0_read, .selects RX0 yX0_read yX0_read, .code yX0_read cX0_read 2 (some .int), .fieldLink RX0 13 "SkewMelds" "row" "[I", .fieldLink RX0 96 "SkewMelds" "steps" "I"] ++ wsX00)
def wsX0_limitFor : List Cond := .code yX0_limitFor cX0_limitFor 2 (some .int) :: ([])
def wsX0_beginOn : List Cond := .code yX0_beginOn cX0_beginOn 2 none :: ([.fieldLink RX0 96 "SkewMelds" "steps" "I", .fieldLink RX0 99 "SkewMelds" "limit" "I", .methodLink RX0 80 yX0_keysIn, .instanceMethod yX0_keysIn, .selects RX0 yX0_keysIn yX0_keysIn, .initialized RX0, .code yX0_keysIn cX0_keysIn 2 (some .int), .methodLink RX0 36 yX0_exists, .instanceMethod yX0_exists, .selects RX0 yX0_exists yX0_exists, .code yX0_exists cX0_exists 2 (some .boolean), .fieldLink RX0 33 "SkewMelds" "heaps" "I", .methodLink RX0 47 yX0_read, .instanceMethod yX0_read, .selects RX0 yX0_read yX0_read, .code yX0_read cX0_read 2 (some .int), .fieldLink RX0 13 "SkewMelds" "row" "[I", .methodLink RX0 102 yX0_limitFor, .static yX0_limitFor, .code yX0_limitFor cX0_limitFor 2 (some .int)] ++ wsX00)
def wsX0_lesserRoot : List Cond := .code yX0_lesserRoot cX0_lesserRoot 3 (some .int) :: ([.methodLink RX0 47 yX0_read, .instanceMethod yX0_read, .selects RX0 yX0_read yX0_read, .initialized RX0, .code yX0_read cX0_read 2 (some .int), .fieldLink RX0 13 "SkewMelds" "row" "[I", .fieldLink RX0 96 "SkewMelds" "steps" "I"] ++ wsX00)
def wsX0_leastRoot : List Cond := .code yX0_leastRoot cX0_leastRoot 4 (some .int) :: ([.methodLink RX0 36 yX0_exists, .instanceMethod yX0_exists, .selects RX0 yX0_exists yX0_exists, .initialized RX0, .code yX0_exists cX0_exists 2 (some .boolean), .fieldLink RX0 33 "SkewMelds" "heaps" "I", .methodLink RX0 47 yX0_read, .instanceMethod yX0_read, .selects RX0 yX0_read yX0_read, .code yX0_read cX0_read 2 (some .int), .fieldLink RX0 13 "SkewMelds" "row" "[I", .fieldLink RX0 96 "SkewMelds" "steps" "I", .methodLink RX0 105 yX0_topAt, .static yX0_topAt, .code yX0_topAt cX0_topAt 2 (some .int), .methodLink RX0 117 yX0_lesserRoot, .instanceMethod yX0_lesserRoot, .selects RX0 yX0_lesserRoot yX0_lesserRoot, .code yX0_lesserRoot cX0_lesserRoot 3 (some .int)] ++ wsX00)
def wsX0_least_r1 : List Cond := [Cond.constantLong RX0 60 (-9223372036854775808), Cond.methodLink RX0 54 yX0_beginOn, Cond.instanceMethod yX0_beginOn, Cond.selects RX0 yX0_beginOn yX0_beginOn, Cond.initialized RX0, Cond.code yX0_beginOn cX0_beginOn 2 none, Cond.fieldLink RX0 96 "SkewMelds" "steps" "I", Cond.fieldLink RX0 99 "SkewMelds" "limit" "I", Cond.methodLink RX0 80 yX0_keysIn, Cond.instanceMethod yX0_keysIn, Cond.selects RX0 yX0_keysIn yX0_keysIn, Cond.code yX0_keysIn cX0_keysIn 2 (some .int), Cond.methodLink RX0 36 yX0_exists, Cond.instanceMethod yX0_exists, Cond.selects RX0 yX0_exists yX0_exists, Cond.code yX0_exists cX0_exists 2 (some .boolean), Cond.fieldLink RX0 33 "SkewMelds" "heaps" "I", Cond.methodLink RX0 47 yX0_read, Cond.instanceMethod yX0_read, Cond.selects RX0 yX0_read yX0_read, Cond.code yX0_read cX0_read 2 (some .int), Cond.fieldLink RX0 13 "SkewMelds" "row" "[I", Cond.methodLink RX0 102 yX0_limitFor, Cond.static yX0_limitFor]
def wsX0_least_r2 : List Cond := [Cond.code yX0_limitFor cX0_limitFor 2 (some .int), Cond.methodLink RX0 57 yX0_leastRoot, Cond.instanceMethod yX0_leastRoot, Cond.selects RX0 yX0_leastRoot yX0_leastRoot, Cond.code yX0_leastRoot cX0_leastRoot 4 (some .int), Cond.methodLink RX0 105 yX0_topAt, Cond.static yX0_topAt, Cond.code yX0_topAt cX0_topAt 2 (some .int), Cond.methodLink RX0 117 yX0_lesserRoot, Cond.instanceMethod yX0_lesserRoot, Cond.selects RX0 yX0_lesserRoot yX0_lesserRoot, Cond.code yX0_lesserRoot cX0_lesserRoot 3 (some .int)]
def wsX0_least : List Cond := .code yX0_least cX0_least 3 (some .long) :: ((wsX0_least_r1 ++ wsX0_least_r2) ++ wsX00)
def wsX0_place_r1 : List Cond := [Cond.methodLink RX0 47 yX0_read, Cond.instanceMethod yX0_read, Cond.selects RX0 yX0_read yX0_read, Cond.initialized RX0, Cond.code yX0_read cX0_read 2 (some .int), Cond.fieldLink RX0 13 "SkewMelds" "row" "[I", Cond.fieldLink RX0 96 "SkewMelds" "steps" "I", Cond.methodLink RX0 77 yX0_cutTop, Cond.instanceMethod yX0_cutTop, Cond.selects RX0 yX0_cutTop yX0_cutTop, Cond.code yX0_cutTop cX0_cutTop 4 (some .int), Cond.methodLink RX0 105 yX0_topAt, Cond.static yX0_topAt, Cond.code yX0_topAt cX0_topAt 2 (some .int), Cond.methodLink RX0 17 yX0_write, Cond.instanceMethod yX0_write, Cond.selects RX0 yX0_write yX0_write, Cond.code yX0_write cX0_write 3 none, Cond.methodLink RX0 108 yX0_link, Cond.instanceMethod yX0_link, Cond.selects RX0 yX0_link yX0_link, Cond.code yX0_link cX0_link 5 (some .int), Cond.methodLink RX0 114 yX0_hangTree, Cond.instanceMethod yX0_hangTree]
def wsX0_place_r2 : List Cond := [Cond.selects RX0 yX0_hangTree yX0_hangTree, Cond.code yX0_hangTree cX0_hangTree 3 none]
def wsX0_place : List Cond := .code yX0_place cX0_place 6 none :: ((wsX0_place_r1 ++ wsX0_place_r2) ++ wsX00)
def wsX0_cutRoot_r1 : List Cond := [Cond.methodLink RX0 71 yX0_cutTwin, Cond.instanceMethod yX0_cutTwin, Cond.selects RX0 yX0_cutTwin yX0_cutTwin, Cond.initialized RX0, Cond.code yX0_cutTwin cX0_cutTwin 3 (some .int), Cond.methodLink RX0 47 yX0_read, Cond.instanceMethod yX0_read, Cond.selects RX0 yX0_read yX0_read, Cond.code yX0_read cX0_read 2 (some .int), Cond.fieldLink RX0 13 "SkewMelds" "row" "[I", Cond.fieldLink RX0 96 "SkewMelds" "steps" "I", Cond.methodLink RX0 17 yX0_write, Cond.instanceMethod yX0_write, Cond.selects RX0 yX0_write yX0_write, Cond.code yX0_write cX0_write 3 none, Cond.methodLink RX0 77 yX0_cutTop, Cond.instanceMethod yX0_cutTop, Cond.selects RX0 yX0_cutTop yX0_cutTop, Cond.code yX0_cutTop cX0_cutTop 4 (some .int), Cond.methodLink RX0 105 yX0_topAt, Cond.static yX0_topAt, Cond.code yX0_topAt cX0_topAt 2 (some .int), Cond.methodLink RX0 74 yX0_place, Cond.instanceMethod yX0_place]
def wsX0_cutRoot_r2 : List Cond := [Cond.selects RX0 yX0_place yX0_place, Cond.code yX0_place cX0_place 6 none, Cond.methodLink RX0 108 yX0_link, Cond.instanceMethod yX0_link, Cond.selects RX0 yX0_link yX0_link, Cond.code yX0_link cX0_link 5 (some .int), Cond.methodLink RX0 114 yX0_hangTree, Cond.instanceMethod yX0_hangTree, Cond.selects RX0 yX0_hangTree yX0_hangTree, Cond.code yX0_hangTree cX0_hangTree 3 none]
def wsX0_cutRoot : List Cond := .code yX0_cutRoot cX0_cutRoot 4 none :: ((wsX0_cutRoot_r1 ++ wsX0_cutRoot_r2) ++ wsX00)
def wsX0_placeChildren_r1 : List Cond := [Cond.methodLink RX0 47 yX0_read, Cond.instanceMethod yX0_read, Cond.selects RX0 yX0_read yX0_read, Cond.initialized RX0, Cond.code yX0_read cX0_read 2 (some .int), Cond.fieldLink RX0 13 "SkewMelds" "row" "[I", Cond.fieldLink RX0 96 "SkewMelds" "steps" "I", Cond.methodLink RX0 74 yX0_place, Cond.instanceMethod yX0_place, Cond.selects RX0 yX0_place yX0_place, Cond.code yX0_place cX0_place 6 none, Cond.methodLink RX0 77 yX0_cutTop, Cond.instanceMethod yX0_cutTop, Cond.selects RX0 yX0_cutTop yX0_cutTop, Cond.code yX0_cutTop cX0_cutTop 4 (some .int), Cond.methodLink RX0 105 yX0_topAt, Cond.static yX0_topAt, Cond.code yX0_topAt cX0_topAt 2 (some .int), Cond.methodLink RX0 17 yX0_write, Cond.instanceMethod yX0_write, Cond.selects RX0 yX0_write yX0_write, Cond.code yX0_write cX0_write 3 none, Cond.methodLink RX0 108 yX0_link, Cond.instanceMethod yX0_link]
def wsX0_placeChildren_r2 : List Cond := [Cond.selects RX0 yX0_link yX0_link, Cond.code yX0_link cX0_link 5 (some .int), Cond.methodLink RX0 114 yX0_hangTree, Cond.instanceMethod yX0_hangTree, Cond.selects RX0 yX0_hangTree yX0_hangTree, Cond.code yX0_hangTree cX0_hangTree 3 none]
def wsX0_placeChildren : List Cond := .code yX0_placeChildren cX0_placeChildren 6 none :: ((wsX0_placeChildren_r1 ++ wsX0_placeChildren_r2) ++ wsX00)
def wsX0_take_r1 : List Cond := [Cond.constantLong RX0 60 (-9223372036854775808), Cond.methodLink RX0 54 yX0_beginOn, Cond.instanceMethod yX0_beginOn, Cond.selects RX0 yX0_beginOn yX0_beginOn, Cond.initialized RX0, Cond.code yX0_beginOn cX0_beginOn 2 none, Cond.fieldLink RX0 96 "SkewMelds" "steps" "I", Cond.fieldLink RX0 99 "SkewMelds" "limit" "I", Cond.methodLink RX0 80 yX0_keysIn, Cond.instanceMethod yX0_keysIn, Cond.selects RX0 yX0_keysIn yX0_keysIn, Cond.code yX0_keysIn cX0_keysIn 2 (some .int), Cond.methodLink RX0 36 yX0_exists, Cond.instanceMethod yX0_exists, Cond.selects RX0 yX0_exists yX0_exists, Cond.code yX0_exists cX0_exists 2 (some .boolean), Cond.fieldLink RX0 33 "SkewMelds" "heaps" "I", Cond.methodLink RX0 47 yX0_read, Cond.instanceMethod yX0_read, Cond.selects RX0 yX0_read yX0_read, Cond.code yX0_read cX0_read 2 (some .int), Cond.fieldLink RX0 13 "SkewMelds" "row" "[I", Cond.methodLink RX0 102 yX0_limitFor, Cond.static yX0_limitFor]
def wsX0_take_r2 : List Cond := [Cond.code yX0_limitFor cX0_limitFor 2 (some .int), Cond.methodLink RX0 57 yX0_leastRoot, Cond.instanceMethod yX0_leastRoot, Cond.selects RX0 yX0_leastRoot yX0_leastRoot, Cond.code yX0_leastRoot cX0_leastRoot 4 (some .int), Cond.methodLink RX0 105 yX0_topAt, Cond.static yX0_topAt, Cond.code yX0_topAt cX0_topAt 2 (some .int), Cond.methodLink RX0 117 yX0_lesserRoot, Cond.instanceMethod yX0_lesserRoot, Cond.selects RX0 yX0_lesserRoot yX0_lesserRoot, Cond.code yX0_lesserRoot cX0_lesserRoot 3 (some .int), Cond.methodLink RX0 62 yX0_cutRoot, Cond.instanceMethod yX0_cutRoot, Cond.selects RX0 yX0_cutRoot yX0_cutRoot, Cond.code yX0_cutRoot cX0_cutRoot 4 none, Cond.methodLink RX0 71 yX0_cutTwin, Cond.instanceMethod yX0_cutTwin, Cond.selects RX0 yX0_cutTwin yX0_cutTwin, Cond.code yX0_cutTwin cX0_cutTwin 3 (some .int), Cond.methodLink RX0 17 yX0_write, Cond.instanceMethod yX0_write, Cond.selects RX0 yX0_write yX0_write, Cond.code yX0_write cX0_write 3 none]
def wsX0_take_r3 : List Cond := [Cond.methodLink RX0 77 yX0_cutTop, Cond.instanceMethod yX0_cutTop, Cond.selects RX0 yX0_cutTop yX0_cutTop, Cond.code yX0_cutTop cX0_cutTop 4 (some .int), Cond.methodLink RX0 74 yX0_place, Cond.instanceMethod yX0_place, Cond.selects RX0 yX0_place yX0_place, Cond.code yX0_place cX0_place 6 none, Cond.methodLink RX0 108 yX0_link, Cond.instanceMethod yX0_link, Cond.selects RX0 yX0_link yX0_link, Cond.code yX0_link cX0_link 5 (some .int), Cond.methodLink RX0 114 yX0_hangTree, Cond.instanceMethod yX0_hangTree, Cond.selects RX0 yX0_hangTree yX0_hangTree, Cond.code yX0_hangTree cX0_hangTree 3 none, Cond.methodLink RX0 65 yX0_placeChildren, Cond.instanceMethod yX0_placeChildren, Cond.selects RX0 yX0_placeChildren yX0_placeChildren, Cond.code yX0_placeChildren cX0_placeChildren 6 none, Cond.methodLink RX0 25 yX0_giveBack, Cond.instanceMethod yX0_giveBack, Cond.selects RX0 yX0_giveBack yX0_giveBack, Cond.code yX0_giveBack cX0_giveBack 2 none]
def wsX0_take_r4 : List Cond := [Cond.fieldLink RX0 21 "SkewMelds" "firstUnused" "I", Cond.fieldLink RX0 93 "SkewMelds" "unused" "I", Cond.methodLink RX0 50 yX0_resize, Cond.instanceMethod yX0_resize, Cond.selects RX0 yX0_resize yX0_resize, Cond.code yX0_resize cX0_resize 3 (some .int)]
def wsX0_take : List Cond := .code yX0_take cX0_take 5 (some .long) :: ((wsX0_take_r1 ++ (wsX0_take_r2 ++ (wsX0_take_r3 ++ wsX0_take_r4))) ++ wsX00)
def wsX0_beginOnBoth : List Cond := .code yX0_beginOnBoth cX0_beginOnBoth 3 none :: ([.fieldLink RX0 96 "SkewMelds" "steps" "I", .fieldLink RX0 99 "SkewMelds" "limit" "I", .methodLink RX0 80 yX0_keysIn, .instanceMethod yX0_keysIn, .selects RX0 yX0_keysIn yX0_keysIn, .initialized RX0, .code yX0_keysIn cX0_keysIn 2 (some .int), .methodLink RX0 36 yX0_exists, .instanceMethod yX0_exists, .selects RX0 yX0_exists yX0_exists, .code yX0_exists cX0_exists 2 (some .boolean), .fieldLink RX0 33 "SkewMelds" "heaps" "I", .methodLink RX0 47 yX0_read, .instanceMethod yX0_read, .selects RX0 yX0_read yX0_read, .code yX0_read cX0_read 2 (some .int), .fieldLink RX0 13 "SkewMelds" "row" "[I", .methodLink RX0 102 yX0_limitFor, .static yX0_limitFor, .code yX0_limitFor cX0_limitFor 2 (some .int)] ++ wsX00)
def wsX0_meld_r1 : List Cond := [Cond.methodLink RX0 68 yX0_beginOnBoth, Cond.instanceMethod yX0_beginOnBoth, Cond.selects RX0 yX0_beginOnBoth yX0_beginOnBoth, Cond.initialized RX0, Cond.code yX0_beginOnBoth cX0_beginOnBoth 3 none, Cond.fieldLink RX0 96 "SkewMelds" "steps" "I", Cond.fieldLink RX0 99 "SkewMelds" "limit" "I", Cond.methodLink RX0 80 yX0_keysIn, Cond.instanceMethod yX0_keysIn, Cond.selects RX0 yX0_keysIn yX0_keysIn, Cond.code yX0_keysIn cX0_keysIn 2 (some .int), Cond.methodLink RX0 36 yX0_exists, Cond.instanceMethod yX0_exists, Cond.selects RX0 yX0_exists yX0_exists, Cond.code yX0_exists cX0_exists 2 (some .boolean), Cond.fieldLink RX0 33 "SkewMelds" "heaps" "I", Cond.methodLink RX0 47 yX0_read, Cond.instanceMethod yX0_read, Cond.selects RX0 yX0_read yX0_read, Cond.code yX0_read cX0_read 2 (some .int), Cond.fieldLink RX0 13 "SkewMelds" "row" "[I", Cond.methodLink RX0 102 yX0_limitFor, Cond.static yX0_limitFor, Cond.code yX0_limitFor cX0_limitFor 2 (some .int)]
def wsX0_meld_r2 : List Cond := [Cond.methodLink RX0 71 yX0_cutTwin, Cond.instanceMethod yX0_cutTwin, Cond.selects RX0 yX0_cutTwin yX0_cutTwin, Cond.code yX0_cutTwin cX0_cutTwin 3 (some .int), Cond.methodLink RX0 17 yX0_write, Cond.instanceMethod yX0_write, Cond.selects RX0 yX0_write yX0_write, Cond.code yX0_write cX0_write 3 none, Cond.methodLink RX0 74 yX0_place, Cond.instanceMethod yX0_place, Cond.selects RX0 yX0_place yX0_place, Cond.code yX0_place cX0_place 6 none, Cond.methodLink RX0 77 yX0_cutTop, Cond.instanceMethod yX0_cutTop, Cond.selects RX0 yX0_cutTop yX0_cutTop, Cond.code yX0_cutTop cX0_cutTop 4 (some .int), Cond.methodLink RX0 105 yX0_topAt, Cond.static yX0_topAt, Cond.code yX0_topAt cX0_topAt 2 (some .int), Cond.methodLink RX0 108 yX0_link, Cond.instanceMethod yX0_link, Cond.selects RX0 yX0_link yX0_link, Cond.code yX0_link cX0_link 5 (some .int), Cond.methodLink RX0 114 yX0_hangTree]
def wsX0_meld_r3 : List Cond := [Cond.instanceMethod yX0_hangTree, Cond.selects RX0 yX0_hangTree yX0_hangTree, Cond.code yX0_hangTree cX0_hangTree 3 none, Cond.methodLink RX0 50 yX0_resize, Cond.instanceMethod yX0_resize, Cond.selects RX0 yX0_resize yX0_resize, Cond.code yX0_resize cX0_resize 3 (some .int)]
def wsX0_meld : List Cond := .code yX0_meld cX0_meld 4 (some .int) :: ((wsX0_meld_r1 ++ (wsX0_meld_r2 ++ wsX0_meld_r3)) ++ wsX00)
def wsX0_size : List Cond := .code yX0_size cX0_size 2 (some .int) :: ([.constant RX0 29 (2147483647), .methodLink RX0 30 yX0_begin, .instanceMethod yX0_begin, .selects RX0 yX0_begin yX0_begin, .initialized RX0, .code yX0_begin cX0_begin 2 none, .fieldLink RX0 96 "SkewMelds" "steps" "I", .fieldLink RX0 99 "SkewMelds" "limit" "I", .methodLink RX0 36 yX0_exists, .instanceMethod yX0_exists, .selects RX0 yX0_exists yX0_exists, .code yX0_exists cX0_exists 2 (some .boolean), .fieldLink RX0 33 "SkewMelds" "heaps" "I", .methodLink RX0 47 yX0_read, .instanceMethod yX0_read, .selects RX0 yX0_read yX0_read, .code yX0_read cX0_read 2 (some .int), .fieldLink RX0 13 "SkewMelds" "row" "[I"] ++ wsX00)
def wsX0_listChain : List Cond := .code yX0_listChain cX0_listChain 7 (some .int) :: ([.methodLink RX0 17 yX0_write, .instanceMethod yX0_write, .selects RX0 yX0_write yX0_write, .initialized RX0, .code yX0_write cX0_write 3 none, .fieldLink RX0 13 "SkewMelds" "row" "[I", .fieldLink RX0 96 "SkewMelds" "steps" "I", .methodLink RX0 47 yX0_read, .instanceMethod yX0_read, .selects RX0 yX0_read yX0_read, .code yX0_read cX0_read 2 (some .int)] ++ wsX00)
def wsX0_listCells : List Cond := .code yX0_listCells cX0_listCells 4 (some .int) :: ([.methodLink RX0 47 yX0_read, .instanceMethod yX0_read, .selects RX0 yX0_read yX0_read, .initialized RX0, .code yX0_read cX0_read 2 (some .int), .fieldLink RX0 13 "SkewMelds" "row" "[I", .fieldLink RX0 96 "SkewMelds" "steps" "I", .methodLink RX0 120 yX0_listChain, .instanceMethod yX0_listChain, .selects RX0 yX0_listChain yX0_listChain, .code yX0_listChain cX0_listChain 7 (some .int), .methodLink RX0 17 yX0_write, .instanceMethod yX0_write, .selects RX0 yX0_write yX0_write, .code yX0_write cX0_write 3 none, .methodLink RX0 105 yX0_topAt, .static yX0_topAt, .code yX0_topAt cX0_topAt 2 (some .int)] ++ wsX00)
def wsX0_listedKey : List Cond := .code yX0_listedKey cX0_listedKey 2 (some .int) :: ([.methodLink RX0 47 yX0_read, .instanceMethod yX0_read, .selects RX0 yX0_read yX0_read, .initialized RX0, .code yX0_read cX0_read 2 (some .int), .fieldLink RX0 13 "SkewMelds" "row" "[I", .fieldLink RX0 96 "SkewMelds" "steps" "I"] ++ wsX00)
def wsX0_countUpTo : List Cond := .code yX0_countUpTo cX0_countUpTo 6 (some .int) :: ([.methodLink RX0 90 yX0_listedKey, .instanceMethod yX0_listedKey, .selects RX0 yX0_listedKey yX0_listedKey, .initialized RX0, .code yX0_listedKey cX0_listedKey 2 (some .int), .methodLink RX0 47 yX0_read, .instanceMethod yX0_read, .selects RX0 yX0_read yX0_read, .code yX0_read cX0_read 2 (some .int), .fieldLink RX0 13 "SkewMelds" "row" "[I", .fieldLink RX0 96 "SkewMelds" "steps" "I"] ++ wsX00)
def wsX0_kthListed : List Cond := .code yX0_kthListed cX0_kthListed 10 (some .long) :: ([.constantLong RX0 124 (-2147483648), .constantLong RX0 126 (2147483647), .methodLink RX0 128 yX0_countUpTo, .instanceMethod yX0_countUpTo, .selects RX0 yX0_countUpTo yX0_countUpTo, .initialized RX0, .code yX0_countUpTo cX0_countUpTo 6 (some .int), .methodLink RX0 90 yX0_listedKey, .instanceMethod yX0_listedKey, .selects RX0 yX0_listedKey yX0_listedKey, .code yX0_listedKey cX0_listedKey 2 (some .int), .methodLink RX0 47 yX0_read, .instanceMethod yX0_read, .selects RX0 yX0_read yX0_read, .code yX0_read cX0_read 2 (some .int), .fieldLink RX0 13 "SkewMelds" "row" "[I", .fieldLink RX0 96 "SkewMelds" "steps" "I"] ++ wsX00)
def wsX0_key_r1 : List Cond := [Cond.constant RX0 29 (2147483647), Cond.constantLong RX0 60 (-9223372036854775808), Cond.methodLink RX0 30 yX0_begin, Cond.instanceMethod yX0_begin, Cond.selects RX0 yX0_begin yX0_begin, Cond.initialized RX0, Cond.code yX0_begin cX0_begin 2 none, Cond.fieldLink RX0 96 "SkewMelds" "steps" "I", Cond.fieldLink RX0 99 "SkewMelds" "limit" "I", Cond.methodLink RX0 80 yX0_keysIn, Cond.instanceMethod yX0_keysIn, Cond.selects RX0 yX0_keysIn yX0_keysIn, Cond.code yX0_keysIn cX0_keysIn 2 (some .int), Cond.methodLink RX0 36 yX0_exists, Cond.instanceMethod yX0_exists, Cond.selects RX0 yX0_exists yX0_exists, Cond.code yX0_exists cX0_exists 2 (some .boolean), Cond.fieldLink RX0 33 "SkewMelds" "heaps" "I", Cond.methodLink RX0 47 yX0_read, Cond.instanceMethod yX0_read, Cond.selects RX0 yX0_read yX0_read, Cond.code yX0_read cX0_read 2 (some .int), Cond.fieldLink RX0 13 "SkewMelds" "row" "[I", Cond.methodLink RX0 83 yX0_listCells]
def wsX0_key_r2 : List Cond := [Cond.instanceMethod yX0_listCells, Cond.selects RX0 yX0_listCells yX0_listCells, Cond.code yX0_listCells cX0_listCells 4 (some .int), Cond.methodLink RX0 120 yX0_listChain, Cond.instanceMethod yX0_listChain, Cond.selects RX0 yX0_listChain yX0_listChain, Cond.code yX0_listChain cX0_listChain 7 (some .int), Cond.methodLink RX0 17 yX0_write, Cond.instanceMethod yX0_write, Cond.selects RX0 yX0_write yX0_write, Cond.code yX0_write cX0_write 3 none, Cond.methodLink RX0 105 yX0_topAt, Cond.static yX0_topAt, Cond.code yX0_topAt cX0_topAt 2 (some .int), Cond.methodLink RX0 86 yX0_kthListed, Cond.instanceMethod yX0_kthListed, Cond.selects RX0 yX0_kthListed yX0_kthListed, Cond.code yX0_kthListed cX0_kthListed 10 (some .long), Cond.constantLong RX0 124 (-2147483648), Cond.constantLong RX0 126 (2147483647), Cond.methodLink RX0 128 yX0_countUpTo, Cond.instanceMethod yX0_countUpTo, Cond.selects RX0 yX0_countUpTo yX0_countUpTo, Cond.code yX0_countUpTo cX0_countUpTo 6 (some .int)]
def wsX0_key_r3 : List Cond := [Cond.methodLink RX0 90 yX0_listedKey, Cond.instanceMethod yX0_listedKey, Cond.selects RX0 yX0_listedKey yX0_listedKey, Cond.code yX0_listedKey cX0_listedKey 2 (some .int)]
def wsX0_key : List Cond := .code yX0_key cX0_key 3 (some .long) :: ((wsX0_key_r1 ++ (wsX0_key_r2 ++ wsX0_key_r3)) ++ wsX00)
def wsX0_sum_r1 : List Cond := [Cond.constant RX0 29 (2147483647), Cond.methodLink RX0 30 yX0_begin, Cond.instanceMethod yX0_begin, Cond.selects RX0 yX0_begin yX0_begin, Cond.initialized RX0, Cond.code yX0_begin cX0_begin 2 none, Cond.fieldLink RX0 96 "SkewMelds" "steps" "I", Cond.fieldLink RX0 99 "SkewMelds" "limit" "I", Cond.methodLink RX0 36 yX0_exists, Cond.instanceMethod yX0_exists, Cond.selects RX0 yX0_exists yX0_exists, Cond.code yX0_exists cX0_exists 2 (some .boolean), Cond.fieldLink RX0 33 "SkewMelds" "heaps" "I", Cond.methodLink RX0 83 yX0_listCells, Cond.instanceMethod yX0_listCells, Cond.selects RX0 yX0_listCells yX0_listCells, Cond.code yX0_listCells cX0_listCells 4 (some .int), Cond.methodLink RX0 47 yX0_read, Cond.instanceMethod yX0_read, Cond.selects RX0 yX0_read yX0_read, Cond.code yX0_read cX0_read 2 (some .int), Cond.fieldLink RX0 13 "SkewMelds" "row" "[I", Cond.methodLink RX0 120 yX0_listChain, Cond.instanceMethod yX0_listChain]
def wsX0_sum_r2 : List Cond := [Cond.selects RX0 yX0_listChain yX0_listChain, Cond.code yX0_listChain cX0_listChain 7 (some .int), Cond.methodLink RX0 17 yX0_write, Cond.instanceMethod yX0_write, Cond.selects RX0 yX0_write yX0_write, Cond.code yX0_write cX0_write 3 none, Cond.methodLink RX0 105 yX0_topAt, Cond.static yX0_topAt, Cond.code yX0_topAt cX0_topAt 2 (some .int), Cond.methodLink RX0 90 yX0_listedKey, Cond.instanceMethod yX0_listedKey, Cond.selects RX0 yX0_listedKey yX0_listedKey, Cond.code yX0_listedKey cX0_listedKey 2 (some .int)]
def wsX0_sum : List Cond := .code yX0_sum cX0_sum 6 (some .long) :: ((wsX0_sum_r1 ++ wsX0_sum_r2) ++ wsX00)
def wsX0_free : List Cond := .code yX0_free cX0_free 1 (some .int) :: ([.constant RX0 29 (2147483647), .fieldLink RX0 93 "SkewMelds" "unused" "I", .methodLink RX0 30 yX0_begin, .instanceMethod yX0_begin, .selects RX0 yX0_begin yX0_begin, .initialized RX0, .code yX0_begin cX0_begin 2 none, .fieldLink RX0 96 "SkewMelds" "steps" "I", .fieldLink RX0 99 "SkewMelds" "limit" "I"] ++ wsX00)
def wsX0_few : List Cond := .code yX0_few cX0_few 2 (some .boolean) :: ([.fieldLink RX0 96 "SkewMelds" "steps" "I", .fieldLink RX0 99 "SkewMelds" "limit" "I", .constant RX0 29 (2147483647), .methodLink RX0 30 yX0_begin, .instanceMethod yX0_begin, .selects RX0 yX0_begin yX0_begin, .initialized RX0, .code yX0_begin cX0_begin 2 none] ++ wsX00)
def wsX1_init : List Cond := .code yX1_init cX1_init 1 none :: ([.methodLink RX1 1 objectInit, .instanceMethod objectInit, .code objectInit ⟨#[0xb1]⟩ 1 none, .arrayClass .int, .fieldLink RX1 7 "SkewMeldsModel" "owners" "[I", .fieldLink RX1 13 "SkewMeldsModel" "keys" "[I", .arrayClass .boolean, .fieldLink RX1 16 "SkewMeldsModel" "told" "[Z"] ++ wsX10)
def wsX1_isHeap : List Cond := .code yX1_isHeap cX1_isHeap 2 (some .boolean) :: ([.fieldLink RX1 20 "SkewMeldsModel" "heaps" "I"] ++ wsX10)
def wsX1_heap : List Cond := .code yX1_heap cX1_heap 1 (some .int) :: ([.fieldLink RX1 20 "SkewMeldsModel" "heaps" "I"] ++ wsX10)
def wsX1_sizeOf : List Cond := .code yX1_sizeOf cX1_sizeOf 4 (some .int) :: ([.fieldLink RX1 24 "SkewMeldsModel" "used" "I", .fieldLink RX1 7 "SkewMeldsModel" "owners" "[I"] ++ wsX10)
def wsX1_add : List Cond := .code yX1_add cX1_add 3 (some .int) :: ([.fieldLink RX1 24 "SkewMeldsModel" "used" "I", .fieldLink RX1 7 "SkewMeldsModel" "owners" "[I", .fieldLink RX1 13 "SkewMeldsModel" "keys" "[I", .methodLink RX1 27 yX1_isHeap, .instanceMethod yX1_isHeap, .selects RX1 yX1_isHeap yX1_isHeap, .initialized RX1, .code yX1_isHeap cX1_isHeap 2 (some .boolean), .fieldLink RX1 20 "SkewMeldsModel" "heaps" "I", .methodLink RX1 31 yX1_sizeOf, .instanceMethod yX1_sizeOf, .selects RX1 yX1_sizeOf yX1_sizeOf, .code yX1_sizeOf cX1_sizeOf 4 (some .int)] ++ wsX10)
def wsX1_placeOf : List Cond := .code yX1_placeOf cX1_placeOf 4 (some .int) :: ([.fieldLink RX1 24 "SkewMeldsModel" "used" "I", .fieldLink RX1 7 "SkewMeldsModel" "owners" "[I", .fieldLink RX1 16 "SkewMeldsModel" "told" "[Z", .fieldLink RX1 13 "SkewMeldsModel" "keys" "[I"] ++ wsX10)
def wsX1_untell : List Cond := .code yX1_untell cX1_untell 2 none :: ([.fieldLink RX1 16 "SkewMeldsModel" "told" "[Z"] ++ wsX10)
def wsX1_least : List Cond := .code yX1_least cX1_least 3 (some .long) :: ([.constantLong RX1 41 (-9223372036854775808), .fieldLink RX1 13 "SkewMeldsModel" "keys" "[I", .methodLink RX1 35 yX1_untell, .instanceMethod yX1_untell, .selects RX1 yX1_untell yX1_untell, .initialized RX1, .code yX1_untell cX1_untell 2 none, .fieldLink RX1 16 "SkewMeldsModel" "told" "[Z", .methodLink RX1 27 yX1_isHeap, .instanceMethod yX1_isHeap, .selects RX1 yX1_isHeap yX1_isHeap, .code yX1_isHeap cX1_isHeap 2 (some .boolean), .fieldLink RX1 20 "SkewMeldsModel" "heaps" "I", .methodLink RX1 38 yX1_placeOf, .instanceMethod yX1_placeOf, .selects RX1 yX1_placeOf yX1_placeOf, .code yX1_placeOf cX1_placeOf 4 (some .int), .fieldLink RX1 24 "SkewMeldsModel" "used" "I", .fieldLink RX1 7 "SkewMeldsModel" "owners" "[I"] ++ wsX10)
def wsX1_take : List Cond := .code yX1_take cX1_take 5 (some .long) :: ([.constantLong RX1 41 (-9223372036854775808), .fieldLink RX1 13 "SkewMeldsModel" "keys" "[I", .fieldLink RX1 24 "SkewMeldsModel" "used" "I", .fieldLink RX1 7 "SkewMeldsModel" "owners" "[I", .methodLink RX1 35 yX1_untell, .instanceMethod yX1_untell, .selects RX1 yX1_untell yX1_untell, .initialized RX1, .code yX1_untell cX1_untell 2 none, .fieldLink RX1 16 "SkewMeldsModel" "told" "[Z", .methodLink RX1 27 yX1_isHeap, .instanceMethod yX1_isHeap, .selects RX1 yX1_isHeap yX1_isHeap, .code yX1_isHeap cX1_isHeap 2 (some .boolean), .fieldLink RX1 20 "SkewMeldsModel" "heaps" "I", .methodLink RX1 38 yX1_placeOf, .instanceMethod yX1_placeOf, .selects RX1 yX1_placeOf yX1_placeOf, .code yX1_placeOf cX1_placeOf 4 (some .int)] ++ wsX10)
def wsX1_meld : List Cond := .code yX1_meld cX1_meld 4 (some .int) :: ([.fieldLink RX1 24 "SkewMeldsModel" "used" "I", .fieldLink RX1 7 "SkewMeldsModel" "owners" "[I", .methodLink RX1 27 yX1_isHeap, .instanceMethod yX1_isHeap, .selects RX1 yX1_isHeap yX1_isHeap, .initialized RX1, .code yX1_isHeap cX1_isHeap 2 (some .boolean), .fieldLink RX1 20 "SkewMeldsModel" "heaps" "I", .methodLink RX1 31 yX1_sizeOf, .instanceMethod yX1_sizeOf, .selects RX1 yX1_sizeOf yX1_sizeOf, .code yX1_sizeOf cX1_sizeOf 4 (some .int)] ++ wsX10)
def wsX1_size : List Cond := .code yX1_size cX1_size 2 (some .int) :: ([.methodLink RX1 27 yX1_isHeap, .instanceMethod yX1_isHeap, .selects RX1 yX1_isHeap yX1_isHeap, .initialized RX1, .code yX1_isHeap cX1_isHeap 2 (some .boolean), .fieldLink RX1 20 "SkewMeldsModel" "heaps" "I", .methodLink RX1 31 yX1_sizeOf, .instanceMethod yX1_sizeOf, .selects RX1 yX1_sizeOf yX1_sizeOf, .code yX1_sizeOf cX1_sizeOf 4 (some .int), .fieldLink RX1 24 "SkewMeldsModel" "used" "I", .fieldLink RX1 7 "SkewMeldsModel" "owners" "[I"] ++ wsX10)
def wsX1_key : List Cond := .code yX1_key cX1_key 4 (some .long) :: ([.constantLong RX1 41 (-9223372036854775808), .fieldLink RX1 16 "SkewMeldsModel" "told" "[Z", .fieldLink RX1 13 "SkewMeldsModel" "keys" "[I", .methodLink RX1 27 yX1_isHeap, .instanceMethod yX1_isHeap, .selects RX1 yX1_isHeap yX1_isHeap, .initialized RX1, .code yX1_isHeap cX1_isHeap 2 (some .boolean), .fieldLink RX1 20 "SkewMeldsModel" "heaps" "I", .methodLink RX1 31 yX1_sizeOf, .instanceMethod yX1_sizeOf, .selects RX1 yX1_sizeOf yX1_sizeOf, .code yX1_sizeOf cX1_sizeOf 4 (some .int), .fieldLink RX1 24 "SkewMeldsModel" "used" "I", .fieldLink RX1 7 "SkewMeldsModel" "owners" "[I", .methodLink RX1 35 yX1_untell, .instanceMethod yX1_untell, .selects RX1 yX1_untell yX1_untell, .code yX1_untell cX1_untell 2 none, .methodLink RX1 38 yX1_placeOf, .instanceMethod yX1_placeOf, .selects RX1 yX1_placeOf yX1_placeOf, .code yX1_placeOf cX1_placeOf 4 (some .int)] ++ wsX10)
def wsX1_sum : List Cond := .code yX1_sum cX1_sum 5 (some .long) :: ([.fieldLink RX1 24 "SkewMeldsModel" "used" "I", .fieldLink RX1 7 "SkewMeldsModel" "owners" "[I", .fieldLink RX1 13 "SkewMeldsModel" "keys" "[I", .methodLink RX1 27 yX1_isHeap, .instanceMethod yX1_isHeap, .selects RX1 yX1_isHeap yX1_isHeap, .initialized RX1, .code yX1_isHeap cX1_isHeap 2 (some .boolean), .fieldLink RX1 20 "SkewMeldsModel" "heaps" "I"] ++ wsX10)
def wsX1_free : List Cond := .code yX1_free cX1_free 1 (some .int) :: ([.fieldLink RX1 24 "SkewMeldsModel" "used" "I"] ++ wsX10)
def wsX1_few : List Cond := .code yX1_few cX1_few 1 (some .boolean) :: ([])
def wsL_law_r1 : List Cond := [Cond.classLink RL 7 RX0, Cond.instantiable RX0 6, Cond.initialized RX0, Cond.classLink RL 10 RX1, Cond.instantiable RX1 5, Cond.initialized RX1, Cond.methodLink RL 9 yX0_init, Cond.instanceMethod yX0_init, Cond.code yX0_init cX0_init 2 none, Cond.methodLink RX0 7 objectInit, Cond.instanceMethod objectInit, Cond.code objectInit ⟨#[0xb1]⟩ 1 none, Cond.arrayClass .int, Cond.fieldLink RX0 13 "SkewMelds" "row" "[I", Cond.fieldLink RX0 21 "SkewMelds" "firstUnused" "I", Cond.constant RX0 29 (2147483647), Cond.methodLink RX0 17 yX0_write, Cond.instanceMethod yX0_write, Cond.selects RX0 yX0_write yX0_write, Cond.code yX0_write cX0_write 3 none, Cond.fieldLink RX0 96 "SkewMelds" "steps" "I", Cond.methodLink RX0 25 yX0_giveBack, Cond.instanceMethod yX0_giveBack, Cond.selects RX0 yX0_giveBack yX0_giveBack]
def wsL_law_r2 : List Cond := [Cond.code yX0_giveBack cX0_giveBack 2 none, Cond.fieldLink RX0 93 "SkewMelds" "unused" "I", Cond.methodLink RX0 30 yX0_begin, Cond.instanceMethod yX0_begin, Cond.selects RX0 yX0_begin yX0_begin, Cond.code yX0_begin cX0_begin 2 none, Cond.fieldLink RX0 99 "SkewMelds" "limit" "I", Cond.methodLink RL 12 yX1_init, Cond.instanceMethod yX1_init, Cond.code yX1_init cX1_init 1 none, Cond.methodLink RX1 1 objectInit, Cond.fieldLink RX1 7 "SkewMeldsModel" "owners" "[I", Cond.fieldLink RX1 13 "SkewMeldsModel" "keys" "[I", Cond.arrayClass .boolean, Cond.fieldLink RX1 16 "SkewMeldsModel" "told" "[Z", Cond.methodLink RL 13 yX0_heap, Cond.instanceMethod yX0_heap, Cond.selects RX0 yX0_heap yX0_heap, Cond.code yX0_heap cX0_heap 1 (some .int), Cond.fieldLink RX0 33 "SkewMelds" "heaps" "I", Cond.methodLink RL 17 yX1_heap, Cond.instanceMethod yX1_heap, Cond.selects RX1 yX1_heap yX1_heap, Cond.code yX1_heap cX1_heap 1 (some .int)]
def wsL_law_r3 : List Cond := [Cond.fieldLink RX1 20 "SkewMeldsModel" "heaps" "I", Cond.methodLink RL 18 yX0_add, Cond.instanceMethod yX0_add, Cond.selects RX0 yX0_add yX0_add, Cond.code yX0_add cX0_add 3 (some .int), Cond.methodLink RX0 36 yX0_exists, Cond.instanceMethod yX0_exists, Cond.selects RX0 yX0_exists yX0_exists, Cond.code yX0_exists cX0_exists 2 (some .boolean), Cond.methodLink RX0 40 yX0_newCell, Cond.instanceMethod yX0_newCell, Cond.selects RX0 yX0_newCell yX0_newCell, Cond.code yX0_newCell cX0_newCell 3 (some .int), Cond.methodLink RX0 47 yX0_read, Cond.instanceMethod yX0_read, Cond.selects RX0 yX0_read yX0_read, Cond.code yX0_read cX0_read 2 (some .int), Cond.methodLink RX0 44 yX0_insertCell, Cond.instanceMethod yX0_insertCell, Cond.selects RX0 yX0_insertCell yX0_insertCell, Cond.code yX0_insertCell cX0_insertCell 6 none, Cond.methodLink RX0 71 yX0_cutTwin, Cond.instanceMethod yX0_cutTwin, Cond.selects RX0 yX0_cutTwin yX0_cutTwin]
def wsL_law_r4 : List Cond := [Cond.code yX0_cutTwin cX0_cutTwin 3 (some .int), Cond.methodLink RX0 77 yX0_cutTop, Cond.instanceMethod yX0_cutTop, Cond.selects RX0 yX0_cutTop yX0_cutTop, Cond.code yX0_cutTop cX0_cutTop 4 (some .int), Cond.methodLink RX0 105 yX0_topAt, Cond.static yX0_topAt, Cond.code yX0_topAt cX0_topAt 2 (some .int), Cond.methodLink RX0 108 yX0_link, Cond.instanceMethod yX0_link, Cond.selects RX0 yX0_link yX0_link, Cond.code yX0_link cX0_link 5 (some .int), Cond.methodLink RX0 114 yX0_hangTree, Cond.instanceMethod yX0_hangTree, Cond.selects RX0 yX0_hangTree yX0_hangTree, Cond.code yX0_hangTree cX0_hangTree 3 none, Cond.methodLink RX0 111 yX0_hangKey, Cond.instanceMethod yX0_hangKey, Cond.selects RX0 yX0_hangKey yX0_hangKey, Cond.code yX0_hangKey cX0_hangKey 5 none, Cond.methodLink RX0 50 yX0_resize, Cond.instanceMethod yX0_resize, Cond.selects RX0 yX0_resize yX0_resize, Cond.code yX0_resize cX0_resize 3 (some .int)]
def wsL_law_r5 : List Cond := [Cond.methodLink RL 22 yX1_add, Cond.instanceMethod yX1_add, Cond.selects RX1 yX1_add yX1_add, Cond.code yX1_add cX1_add 3 (some .int), Cond.fieldLink RX1 24 "SkewMeldsModel" "used" "I", Cond.methodLink RX1 27 yX1_isHeap, Cond.instanceMethod yX1_isHeap, Cond.selects RX1 yX1_isHeap yX1_isHeap, Cond.code yX1_isHeap cX1_isHeap 2 (some .boolean), Cond.methodLink RX1 31 yX1_sizeOf, Cond.instanceMethod yX1_sizeOf, Cond.selects RX1 yX1_sizeOf yX1_sizeOf, Cond.code yX1_sizeOf cX1_sizeOf 4 (some .int), Cond.methodLink RL 23 yX0_least, Cond.instanceMethod yX0_least, Cond.selects RX0 yX0_least yX0_least, Cond.code yX0_least cX0_least 3 (some .long), Cond.constantLong RX0 60 (-9223372036854775808), Cond.methodLink RX0 54 yX0_beginOn, Cond.instanceMethod yX0_beginOn, Cond.selects RX0 yX0_beginOn yX0_beginOn, Cond.code yX0_beginOn cX0_beginOn 2 none, Cond.methodLink RX0 80 yX0_keysIn, Cond.instanceMethod yX0_keysIn]
def wsL_law_r6 : List Cond := [Cond.selects RX0 yX0_keysIn yX0_keysIn, Cond.code yX0_keysIn cX0_keysIn 2 (some .int), Cond.methodLink RX0 102 yX0_limitFor, Cond.static yX0_limitFor, Cond.code yX0_limitFor cX0_limitFor 2 (some .int), Cond.methodLink RX0 57 yX0_leastRoot, Cond.instanceMethod yX0_leastRoot, Cond.selects RX0 yX0_leastRoot yX0_leastRoot, Cond.code yX0_leastRoot cX0_leastRoot 4 (some .int), Cond.methodLink RX0 117 yX0_lesserRoot, Cond.instanceMethod yX0_lesserRoot, Cond.selects RX0 yX0_lesserRoot yX0_lesserRoot, Cond.code yX0_lesserRoot cX0_lesserRoot 3 (some .int), Cond.methodLink RL 27 yX1_least, Cond.instanceMethod yX1_least, Cond.selects RX1 yX1_least yX1_least, Cond.code yX1_least cX1_least 3 (some .long), Cond.constantLong RX1 41 (-9223372036854775808), Cond.methodLink RX1 35 yX1_untell, Cond.instanceMethod yX1_untell, Cond.selects RX1 yX1_untell yX1_untell, Cond.code yX1_untell cX1_untell 2 none, Cond.methodLink RX1 38 yX1_placeOf, Cond.instanceMethod yX1_placeOf]
def wsL_law_r7 : List Cond := [Cond.selects RX1 yX1_placeOf yX1_placeOf, Cond.code yX1_placeOf cX1_placeOf 4 (some .int), Cond.methodLink RL 28 yX0_take, Cond.instanceMethod yX0_take, Cond.selects RX0 yX0_take yX0_take, Cond.code yX0_take cX0_take 5 (some .long), Cond.methodLink RX0 62 yX0_cutRoot, Cond.instanceMethod yX0_cutRoot, Cond.selects RX0 yX0_cutRoot yX0_cutRoot, Cond.code yX0_cutRoot cX0_cutRoot 4 none, Cond.methodLink RX0 74 yX0_place, Cond.instanceMethod yX0_place, Cond.selects RX0 yX0_place yX0_place, Cond.code yX0_place cX0_place 6 none, Cond.methodLink RX0 65 yX0_placeChildren, Cond.instanceMethod yX0_placeChildren, Cond.selects RX0 yX0_placeChildren yX0_placeChildren, Cond.code yX0_placeChildren cX0_placeChildren 6 none, Cond.methodLink RL 31 yX1_take, Cond.instanceMethod yX1_take, Cond.selects RX1 yX1_take yX1_take, Cond.code yX1_take cX1_take 5 (some .long), Cond.methodLink RL 32 yX0_meld, Cond.instanceMethod yX0_meld]
def wsL_law_r8 : List Cond := [Cond.selects RX0 yX0_meld yX0_meld, Cond.code yX0_meld cX0_meld 4 (some .int), Cond.methodLink RX0 68 yX0_beginOnBoth, Cond.instanceMethod yX0_beginOnBoth, Cond.selects RX0 yX0_beginOnBoth yX0_beginOnBoth, Cond.code yX0_beginOnBoth cX0_beginOnBoth 3 none, Cond.methodLink RL 35 yX1_meld, Cond.instanceMethod yX1_meld, Cond.selects RX1 yX1_meld yX1_meld, Cond.code yX1_meld cX1_meld 4 (some .int), Cond.methodLink RL 36 yX0_size, Cond.instanceMethod yX0_size, Cond.selects RX0 yX0_size yX0_size, Cond.code yX0_size cX0_size 2 (some .int), Cond.methodLink RL 40 yX1_size, Cond.instanceMethod yX1_size, Cond.selects RX1 yX1_size yX1_size, Cond.code yX1_size cX1_size 2 (some .int), Cond.methodLink RL 41 yX0_key, Cond.instanceMethod yX0_key, Cond.selects RX0 yX0_key yX0_key, Cond.code yX0_key cX0_key 3 (some .long), Cond.methodLink RX0 83 yX0_listCells, Cond.instanceMethod yX0_listCells]
def wsL_law_r9 : List Cond := [Cond.selects RX0 yX0_listCells yX0_listCells, Cond.code yX0_listCells cX0_listCells 4 (some .int), Cond.methodLink RX0 120 yX0_listChain, Cond.instanceMethod yX0_listChain, Cond.selects RX0 yX0_listChain yX0_listChain, Cond.code yX0_listChain cX0_listChain 7 (some .int), Cond.methodLink RX0 86 yX0_kthListed, Cond.instanceMethod yX0_kthListed, Cond.selects RX0 yX0_kthListed yX0_kthListed, Cond.code yX0_kthListed cX0_kthListed 10 (some .long), Cond.constantLong RX0 124 (-2147483648), Cond.constantLong RX0 126 (2147483647), Cond.methodLink RX0 128 yX0_countUpTo, Cond.instanceMethod yX0_countUpTo, Cond.selects RX0 yX0_countUpTo yX0_countUpTo, Cond.code yX0_countUpTo cX0_countUpTo 6 (some .int), Cond.methodLink RX0 90 yX0_listedKey, Cond.instanceMethod yX0_listedKey, Cond.selects RX0 yX0_listedKey yX0_listedKey, Cond.code yX0_listedKey cX0_listedKey 2 (some .int), Cond.methodLink RL 45 yX1_key, Cond.instanceMethod yX1_key, Cond.selects RX1 yX1_key yX1_key, Cond.code yX1_key cX1_key 4 (some .long)]
def wsL_law_r10 : List Cond := [Cond.methodLink RL 46 yX0_sum, Cond.instanceMethod yX0_sum, Cond.selects RX0 yX0_sum yX0_sum, Cond.code yX0_sum cX0_sum 6 (some .long), Cond.methodLink RL 49 yX1_sum, Cond.instanceMethod yX1_sum, Cond.selects RX1 yX1_sum yX1_sum, Cond.code yX1_sum cX1_sum 5 (some .long), Cond.methodLink RL 50 yX0_free, Cond.instanceMethod yX0_free, Cond.selects RX0 yX0_free yX0_free, Cond.code yX0_free cX0_free 1 (some .int), Cond.methodLink RL 53 yX1_free, Cond.instanceMethod yX1_free, Cond.selects RX1 yX1_free yX1_free, Cond.code yX1_free cX1_free 1 (some .int), Cond.methodLink RL 54 yX0_few, Cond.instanceMethod yX0_few, Cond.selects RX0 yX0_few yX0_few, Cond.code yX0_few cX0_few 2 (some .boolean), Cond.methodLink RL 58 yX1_few, Cond.instanceMethod yX1_few, Cond.selects RX1 yX1_few yX1_few, Cond.code yX1_few cX1_few 1 (some .boolean)]
def wsL_law : List Cond := (wsL_law_r1 ++ (wsL_law_r2 ++ (wsL_law_r3 ++ (wsL_law_r4 ++ (wsL_law_r5 ++ (wsL_law_r6 ++ (wsL_law_r7 ++ (wsL_law_r8 ++ (wsL_law_r9 ++ wsL_law_r10))))))))) ++ wsX00 ++ wsX10 ++ ([] : List Cond)
set_option maxRecDepth 20000 in
theorem wsL_law_in : ∀ w ∈ wsL_law, w ∈ lw_tbl := fun w h => (goodIn_p wsL_law [37, 40, 44, 48, 53, 219, 77, 241, 81, 85, 89, 93, 97, 101, 105, 108, 112, 116, 120, 124, 245, 249, 253, 128, 132, 136, 139, 143, 147, 257, 261, 265, 152, 156, 160, 164, 270, 168, 172, 274, 176, 278, 180, 184, 188, 192, 198, 202, 282, 206, 286, 210, 290, 214, 294] (by decide +kernel) (by decide +kernel) w h).1
theorem inlX0 : ∀ w ∈ wsX00, w ∈ wsL_law := fun _ h => List.mem_append_left _ (List.mem_append_left _ (List.mem_append_right _ h))
theorem inX0 : ∀ w ∈ wsX00, w ∈ lw_tbl := fun w h => wsL_law_in w (inlX0 w h)
theorem inlX1 : ∀ w ∈ wsX10, w ∈ wsL_law := fun _ h => List.mem_append_left _ (List.mem_append_right _ h)
theorem inX1 : ∀ w ∈ wsX10, w ∈ lw_tbl := fun w h => wsL_law_in w (inlX1 w h)
set_option maxRecDepth 20000 in
theorem ggX0_init_X0_write : GoodIn wsX0_init wsX0_write := goodIn_r _ [12, 5, 13, 24, 25, 26, 27, 28, 29] (by decide +kernel) (by decide +kernel)
set_option maxRecDepth 20000 in
theorem gX0_init_X0_write : GoodIn wsX0_init (wsV RX0 17 RX0 yX0_write wsX0_write) := goodIn_app (goodIn_of _ (by decide +kernel)) ggX0_init_X0_write
set_option maxRecDepth 20000 in
theorem ggX0_init_X0_giveBack : GoodIn wsX0_init wsX0_giveBack := goodIn_r _ [17, 6, 18, 8, 9, 10, 11, 12, 5, 13, 24, 25, 26, 27, 28, 29] (by decide +kernel) (by decide +kernel)
set_option maxRecDepth 20000 in
theorem gX0_init_X0_giveBack : GoodIn wsX0_init (wsV RX0 25 RX0 yX0_giveBack wsX0_giveBack) := goodIn_app (goodIn_of _ (by decide +kernel)) ggX0_init_X0_giveBack
set_option maxRecDepth 20000 in
theorem ggX0_init_X0_begin : GoodIn wsX0_init wsX0_begin := goodIn_r _ [22, 13, 23, 24, 25, 26, 27, 28, 29] (by decide +kernel) (by decide +kernel)
set_option maxRecDepth 20000 in
theorem gX0_init_X0_begin : GoodIn wsX0_init (wsV RX0 30 RX0 yX0_begin wsX0_begin) := goodIn_app (goodIn_of _ (by decide +kernel)) ggX0_init_X0_begin
theorem dX0_init_0 : decode cX0_init 0 = .ok (.aload_n 0, 1) := by decide +kernel
theorem dX0_init_1 : decode cX0_init 1 = .ok (.invokespecial 7, 3) := by decide +kernel
theorem dX0_init_4 : decode cX0_init 4 = .ok (.aload_n 0, 1) := by decide +kernel
theorem dX0_init_5 : decode cX0_init 5 = .ok (.sipush 1080, 3) := by decide +kernel
theorem dX0_init_8 : decode cX0_init 8 = .ok (.newarray .int, 2) := by decide +kernel
theorem dX0_init_10 : decode cX0_init 10 = .ok (.putfield 13, 3) := by decide +kernel
theorem dX0_init_13 : decode cX0_init 13 = .ok (.sipush 1000, 3) := by decide +kernel
theorem dX0_init_16 : decode cX0_init 16 = .ok (.istore_n 1, 1) := by decide +kernel
theorem dX0_init_17 : decode cX0_init 17 = .ok (.iload_n 1, 1) := by decide +kernel
theorem dX0_init_18 : decode cX0_init 18 = .ok (.sipush 1072, 3) := by decide +kernel
theorem dX0_init_21 : decode cX0_init 21 = .ok (.if_icmp .ge 15, 3) := by decide +kernel
theorem dX0_init_24 : decode cX0_init 24 = .ok (.aload_n 0, 1) := by decide +kernel
theorem dX0_init_25 : decode cX0_init 25 = .ok (.iload_n 1, 1) := by decide +kernel
theorem dX0_init_26 : decode cX0_init 26 = .ok (.iconst (-1), 1) := by decide +kernel
theorem dX0_init_27 : decode cX0_init 27 = .ok (.invokevirtual 17, 3) := by decide +kernel
theorem dX0_init_30 : decode cX0_init 30 = .ok (.iinc 1 1, 3) := by decide +kernel
theorem dX0_init_33 : decode cX0_init 33 = .ok (.goto (-16), 3) := by decide +kernel
theorem dX0_init_36 : decode cX0_init 36 = .ok (.aload_n 0, 1) := by decide +kernel
theorem dX0_init_37 : decode cX0_init 37 = .ok (.iconst (-1), 1) := by decide +kernel
theorem dX0_init_38 : decode cX0_init 38 = .ok (.putfield 21, 3) := by decide +kernel
theorem dX0_init_41 : decode cX0_init 41 = .ok (.sipush 199, 3) := by decide +kernel
theorem dX0_init_44 : decode cX0_init 44 = .ok (.istore_n 1, 1) := by decide +kernel
theorem dX0_init_45 : decode cX0_init 45 = .ok (.iload_n 1, 1) := by decide +kernel
theorem dX0_init_46 : decode cX0_init 46 = .ok (.ifCond .lt 14, 3) := by decide +kernel
theorem dX0_init_49 : decode cX0_init 49 = .ok (.aload_n 0, 1) := by decide +kernel
theorem dX0_init_50 : decode cX0_init 50 = .ok (.iload_n 1, 1) := by decide +kernel
theorem dX0_init_51 : decode cX0_init 51 = .ok (.invokevirtual 25, 3) := by decide +kernel
theorem dX0_init_54 : decode cX0_init 54 = .ok (.iinc 1 (-1), 3) := by decide +kernel
theorem dX0_init_57 : decode cX0_init 57 = .ok (.goto (-12), 3) := by decide +kernel
theorem dX0_init_60 : decode cX0_init 60 = .ok (.aload_n 0, 1) := by decide +kernel
theorem dX0_init_61 : decode cX0_init 61 = .ok (.ldc 29, 2) := by decide +kernel
theorem dX0_init_63 : decode cX0_init 63 = .ok (.invokevirtual 30, 3) := by decide +kernel
theorem dX0_init_66 : decode cX0_init 66 = .ok (.return_, 1) := by decide +kernel
set_option maxRecDepth 20000 in
theorem ggX0_heap_X0_begin : GoodIn wsX0_heap wsX0_begin := goodIn_r _ [7, 8, 9, 10, 11, 12, 13, 14, 15] (by decide +kernel) (by decide +kernel)
set_option maxRecDepth 20000 in
theorem gX0_heap_X0_begin : GoodIn wsX0_heap (wsV RX0 30 RX0 yX0_begin wsX0_begin) := goodIn_app (goodIn_of _ (by decide +kernel)) ggX0_heap_X0_begin
theorem dX0_heap_0 : decode cX0_heap 0 = .ok (.aload_n 0, 1) := by decide +kernel
theorem dX0_heap_1 : decode cX0_heap 1 = .ok (.ldc 29, 2) := by decide +kernel
theorem dX0_heap_3 : decode cX0_heap 3 = .ok (.invokevirtual 30, 3) := by decide +kernel
theorem dX0_heap_6 : decode cX0_heap 6 = .ok (.aload_n 0, 1) := by decide +kernel
theorem dX0_heap_7 : decode cX0_heap 7 = .ok (.getfield 33, 3) := by decide +kernel
theorem dX0_heap_10 : decode cX0_heap 10 = .ok (.bipush 8, 2) := by decide +kernel
theorem dX0_heap_12 : decode cX0_heap 12 = .ok (.if_icmp .lt 5, 3) := by decide +kernel
theorem dX0_heap_15 : decode cX0_heap 15 = .ok (.iconst (-1), 1) := by decide +kernel
theorem dX0_heap_16 : decode cX0_heap 16 = .ok (.ireturn, 1) := by decide +kernel
theorem dX0_heap_17 : decode cX0_heap 17 = .ok (.aload_n 0, 1) := by decide +kernel
theorem dX0_heap_18 : decode cX0_heap 18 = .ok (.dup, 1) := by decide +kernel
theorem dX0_heap_19 : decode cX0_heap 19 = .ok (.getfield 33, 3) := by decide +kernel
theorem dX0_heap_22 : decode cX0_heap 22 = .ok (.iconst 1, 1) := by decide +kernel
theorem dX0_heap_23 : decode cX0_heap 23 = .ok (.iadd, 1) := by decide +kernel
theorem dX0_heap_24 : decode cX0_heap 24 = .ok (.putfield 33, 3) := by decide +kernel
theorem dX0_heap_27 : decode cX0_heap 27 = .ok (.aload_n 0, 1) := by decide +kernel
theorem dX0_heap_28 : decode cX0_heap 28 = .ok (.getfield 33, 3) := by decide +kernel
theorem dX0_heap_31 : decode cX0_heap 31 = .ok (.iconst 1, 1) := by decide +kernel
theorem dX0_heap_32 : decode cX0_heap 32 = .ok (.isub, 1) := by decide +kernel
theorem dX0_heap_33 : decode cX0_heap 33 = .ok (.ireturn, 1) := by decide +kernel
set_option maxRecDepth 20000 in
theorem ggX0_add_X0_begin : GoodIn wsX0_add wsX0_begin := goodIn_r _ [6, 7, 8, 59, 60, 61, 62, 63, 64] (by decide +kernel) (by decide +kernel)
set_option maxRecDepth 20000 in
theorem gX0_add_X0_begin : GoodIn wsX0_add (wsV RX0 30 RX0 yX0_begin wsX0_begin) := goodIn_app (goodIn_of _ (by decide +kernel)) ggX0_add_X0_begin
set_option maxRecDepth 20000 in
theorem ggX0_add_X0_exists : GoodIn wsX0_add wsX0_exists := goodIn_r _ [12, 13, 59, 60, 61, 62, 63, 64] (by decide +kernel) (by decide +kernel)
set_option maxRecDepth 20000 in
theorem gX0_add_X0_exists : GoodIn wsX0_add (wsV RX0 36 RX0 yX0_exists wsX0_exists) := goodIn_app (goodIn_of _ (by decide +kernel)) ggX0_add_X0_exists
set_option maxRecDepth 20000 in
theorem ggX0_add_X0_newCell : GoodIn wsX0_add wsX0_newCell := goodIn_r _ [17, 1, 18, 19, 20, 21, 5, 22, 23, 7, 24, 25, 26, 27, 59, 60, 61, 62, 63, 64] (by decide +kernel) (by decide +kernel)
set_option maxRecDepth 20000 in
theorem gX0_add_X0_newCell : GoodIn wsX0_add (wsV RX0 40 RX0 yX0_newCell wsX0_newCell) := goodIn_app (goodIn_of _ (by decide +kernel)) ggX0_add_X0_newCell
set_option maxRecDepth 20000 in
theorem ggX0_add_X0_insertCell : GoodIn wsX0_add wsX0_insertCell := goodIn_r _ [31, 32, 33, 34, 5, 35, 19, 20, 21, 22, 23, 7, 24, 25, 26, 27, 36, 37, 38, 39, 40, 41, 42, 43, 44, 45, 46, 47, 48, 49, 50, 51, 52, 53, 54, 59, 60, 61, 62, 63, 64] (by decide +kernel) (by decide +kernel)
set_option maxRecDepth 20000 in
theorem gX0_add_X0_insertCell : GoodIn wsX0_add (wsV RX0 44 RX0 yX0_insertCell wsX0_insertCell) := goodIn_app (goodIn_of _ (by decide +kernel)) ggX0_add_X0_insertCell
set_option maxRecDepth 20000 in
theorem ggX0_add_X0_read : GoodIn wsX0_add wsX0_read := goodIn_r _ [22, 23, 7, 59, 60, 61, 62, 63, 64] (by decide +kernel) (by decide +kernel)
set_option maxRecDepth 20000 in
theorem gX0_add_X0_read : GoodIn wsX0_add (wsV RX0 47 RX0 yX0_read wsX0_read) := goodIn_app (goodIn_of _ (by decide +kernel)) ggX0_add_X0_read
set_option maxRecDepth 20000 in
theorem ggX0_add_X0_resize : GoodIn wsX0_add wsX0_resize := goodIn_r _ [58, 24, 25, 26, 5, 27, 23, 7, 59, 60, 61, 62, 63, 64] (by decide +kernel) (by decide +kernel)
set_option maxRecDepth 20000 in
theorem gX0_add_X0_resize : GoodIn wsX0_add (wsV RX0 50 RX0 yX0_resize wsX0_resize) := goodIn_app (goodIn_of _ (by decide +kernel)) ggX0_add_X0_resize
theorem dX0_add_0 : decode cX0_add 0 = .ok (.aload_n 0, 1) := by decide +kernel
theorem dX0_add_1 : decode cX0_add 1 = .ok (.bipush 100, 2) := by decide +kernel
theorem dX0_add_3 : decode cX0_add 3 = .ok (.invokevirtual 30, 3) := by decide +kernel
theorem dX0_add_6 : decode cX0_add 6 = .ok (.aload_n 0, 1) := by decide +kernel
theorem dX0_add_7 : decode cX0_add 7 = .ok (.iload_n 1, 1) := by decide +kernel
theorem dX0_add_8 : decode cX0_add 8 = .ok (.invokevirtual 36, 3) := by decide +kernel
theorem dX0_add_11 : decode cX0_add 11 = .ok (.ifCond .ne 5, 3) := by decide +kernel
theorem dX0_add_14 : decode cX0_add 14 = .ok (.iconst (-1), 1) := by decide +kernel
theorem dX0_add_15 : decode cX0_add 15 = .ok (.ireturn, 1) := by decide +kernel
theorem dX0_add_16 : decode cX0_add 16 = .ok (.aload_n 0, 1) := by decide +kernel
theorem dX0_add_17 : decode cX0_add 17 = .ok (.getfield 21, 3) := by decide +kernel
theorem dX0_add_20 : decode cX0_add 20 = .ok (.iconst (-1), 1) := by decide +kernel
theorem dX0_add_21 : decode cX0_add 21 = .ok (.if_icmp .ne 6, 3) := by decide +kernel
theorem dX0_add_24 : decode cX0_add 24 = .ok (.bipush (-2), 2) := by decide +kernel
theorem dX0_add_26 : decode cX0_add 26 = .ok (.ireturn, 1) := by decide +kernel
theorem dX0_add_27 : decode cX0_add 27 = .ok (.aload_n 0, 1) := by decide +kernel
theorem dX0_add_28 : decode cX0_add 28 = .ok (.iload_n 1, 1) := by decide +kernel
theorem dX0_add_29 : decode cX0_add 29 = .ok (.aload_n 0, 1) := by decide +kernel
theorem dX0_add_30 : decode cX0_add 30 = .ok (.iload_n 2, 1) := by decide +kernel
theorem dX0_add_31 : decode cX0_add 31 = .ok (.invokevirtual 40, 3) := by decide +kernel
theorem dX0_add_34 : decode cX0_add 34 = .ok (.invokevirtual 44, 3) := by decide +kernel
theorem dX0_add_37 : decode cX0_add 37 = .ok (.aload_n 0, 1) := by decide +kernel
theorem dX0_add_38 : decode cX0_add 38 = .ok (.iload_n 1, 1) := by decide +kernel
theorem dX0_add_39 : decode cX0_add 39 = .ok (.aload_n 0, 1) := by decide +kernel
theorem dX0_add_40 : decode cX0_add 40 = .ok (.sipush 1072, 3) := by decide +kernel
theorem dX0_add_43 : decode cX0_add 43 = .ok (.iload_n 1, 1) := by decide +kernel
theorem dX0_add_44 : decode cX0_add 44 = .ok (.iadd, 1) := by decide +kernel
theorem dX0_add_45 : decode cX0_add 45 = .ok (.invokevirtual 47, 3) := by decide +kernel
theorem dX0_add_48 : decode cX0_add 48 = .ok (.iconst 1, 1) := by decide +kernel
theorem dX0_add_49 : decode cX0_add 49 = .ok (.iadd, 1) := by decide +kernel
theorem dX0_add_50 : decode cX0_add 50 = .ok (.invokevirtual 50, 3) := by decide +kernel
theorem dX0_add_53 : decode cX0_add 53 = .ok (.ireturn, 1) := by decide +kernel
set_option maxRecDepth 20000 in
theorem ggX0_least_X0_beginOn : GoodIn wsX0_least wsX0_beginOn := goodIn_r _ [6, 7, 8, 9, 10, 11, 5, 12, 13, 14, 15, 16, 17, 18, 19, 20, 21, 22, 23, 24, 25, 37, 38, 39, 40, 41, 42] (by decide +kernel) (by decide +kernel)
set_option maxRecDepth 20000 in
theorem gX0_least_X0_beginOn : GoodIn wsX0_least (wsV RX0 54 RX0 yX0_beginOn wsX0_beginOn) := goodIn_app (goodIn_of _ (by decide +kernel)) ggX0_least_X0_beginOn
set_option maxRecDepth 20000 in
theorem ggX0_least_X0_leastRoot : GoodIn wsX0_least wsX0_leastRoot := goodIn_r _ [29, 13, 14, 15, 5, 16, 17, 18, 19, 20, 21, 22, 7, 30, 31, 32, 33, 34, 35, 36, 37, 38, 39, 40, 41, 42] (by decide +kernel) (by decide +kernel)
set_option maxRecDepth 20000 in
theorem gX0_least_X0_leastRoot : GoodIn wsX0_least (wsV RX0 57 RX0 yX0_leastRoot wsX0_leastRoot) := goodIn_app (goodIn_of _ (by decide +kernel)) ggX0_least_X0_leastRoot
set_option maxRecDepth 20000 in
theorem ggX0_least_X0_read : GoodIn wsX0_least wsX0_read := goodIn_r _ [21, 22, 7, 37, 38, 39, 40, 41, 42] (by decide +kernel) (by decide +kernel)
set_option maxRecDepth 20000 in
theorem gX0_least_X0_read : GoodIn wsX0_least (wsV RX0 47 RX0 yX0_read wsX0_read) := goodIn_app (goodIn_of _ (by decide +kernel)) ggX0_least_X0_read
theorem dX0_least_0 : decode cX0_least 0 = .ok (.aload_n 0, 1) := by decide +kernel
theorem dX0_least_1 : decode cX0_least 1 = .ok (.iload_n 1, 1) := by decide +kernel
theorem dX0_least_2 : decode cX0_least 2 = .ok (.invokevirtual 54, 3) := by decide +kernel
theorem dX0_least_5 : decode cX0_least 5 = .ok (.aload_n 0, 1) := by decide +kernel
theorem dX0_least_6 : decode cX0_least 6 = .ok (.iload_n 1, 1) := by decide +kernel
theorem dX0_least_7 : decode cX0_least 7 = .ok (.invokevirtual 57, 3) := by decide +kernel
theorem dX0_least_10 : decode cX0_least 10 = .ok (.istore_n 2, 1) := by decide +kernel
theorem dX0_least_11 : decode cX0_least 11 = .ok (.iload_n 2, 1) := by decide +kernel
theorem dX0_least_12 : decode cX0_least 12 = .ok (.iconst (-1), 1) := by decide +kernel
theorem dX0_least_13 : decode cX0_least 13 = .ok (.if_icmp .ne 9, 3) := by decide +kernel
theorem dX0_least_16 : decode cX0_least 16 = .ok (.ldc2_w 60, 3) := by decide +kernel
theorem dX0_least_19 : decode cX0_least 19 = .ok (.goto 11, 3) := by decide +kernel
theorem dX0_least_22 : decode cX0_least 22 = .ok (.aload_n 0, 1) := by decide +kernel
theorem dX0_least_23 : decode cX0_least 23 = .ok (.iconst 0, 1) := by decide +kernel
theorem dX0_least_24 : decode cX0_least 24 = .ok (.iload_n 2, 1) := by decide +kernel
theorem dX0_least_25 : decode cX0_least 25 = .ok (.iadd, 1) := by decide +kernel
theorem dX0_least_26 : decode cX0_least 26 = .ok (.invokevirtual 47, 3) := by decide +kernel
theorem dX0_least_29 : decode cX0_least 29 = .ok (.i2l, 1) := by decide +kernel
theorem dX0_least_30 : decode cX0_least 30 = .ok (.lreturn, 1) := by decide +kernel
set_option maxRecDepth 20000 in
theorem ggX0_take_X0_beginOn : GoodIn wsX0_take wsX0_beginOn := goodIn_r _ [6, 7, 8, 9, 10, 11, 5, 12, 13, 14, 15, 16, 17, 18, 19, 20, 21, 22, 23, 24, 25, 79, 80, 81, 82, 83, 84] (by decide +kernel) (by decide +kernel)
set_option maxRecDepth 20000 in
theorem gX0_take_X0_beginOn : GoodIn wsX0_take (wsV RX0 54 RX0 yX0_beginOn wsX0_beginOn) := goodIn_app (goodIn_of _ (by decide +kernel)) ggX0_take_X0_beginOn
set_option maxRecDepth 20000 in
theorem ggX0_take_X0_leastRoot : GoodIn wsX0_take wsX0_leastRoot := goodIn_r _ [29, 13, 14, 15, 5, 16, 17, 18, 19, 20, 21, 22, 7, 30, 31, 32, 33, 34, 35, 36, 79, 80, 81, 82, 83, 84] (by decide +kernel) (by decide +kernel)
set_option maxRecDepth 20000 in
theorem gX0_take_X0_leastRoot : GoodIn wsX0_take (wsV RX0 57 RX0 yX0_leastRoot wsX0_leastRoot) := goodIn_app (goodIn_of _ (by decide +kernel)) ggX0_take_X0_leastRoot
set_option maxRecDepth 20000 in
theorem ggX0_take_X0_read : GoodIn wsX0_take wsX0_read := goodIn_r _ [21, 22, 7, 79, 80, 81, 82, 83, 84] (by decide +kernel) (by decide +kernel)
set_option maxRecDepth 20000 in
theorem gX0_take_X0_read : GoodIn wsX0_take (wsV RX0 47 RX0 yX0_read wsX0_read) := goodIn_app (goodIn_of _ (by decide +kernel)) ggX0_take_X0_read
set_option maxRecDepth 20000 in
theorem ggX0_take_X0_cutRoot : GoodIn wsX0_take wsX0_cutRoot := goodIn_r _ [40, 41, 42, 43, 5, 44, 18, 19, 20, 21, 22, 7, 45, 46, 47, 48, 49, 50, 51, 52, 30, 31, 32, 53, 54, 55, 56, 57, 58, 59, 60, 61, 62, 63, 64, 79, 80, 81, 82, 83, 84] (by decide +kernel) (by decide +kernel)
set_option maxRecDepth 20000 in
theorem gX0_take_X0_cutRoot : GoodIn wsX0_take (wsV RX0 62 RX0 yX0_cutRoot wsX0_cutRoot) := goodIn_app (goodIn_of _ (by decide +kernel)) ggX0_take_X0_cutRoot
set_option maxRecDepth 20000 in
theorem ggX0_take_X0_placeChildren : GoodIn wsX0_take wsX0_placeChildren := goodIn_r _ [68, 18, 19, 20, 5, 21, 22, 7, 53, 54, 55, 56, 49, 50, 51, 52, 30, 31, 32, 45, 46, 47, 48, 57, 58, 59, 60, 61, 62, 63, 64, 79, 80, 81, 82, 83, 84] (by decide +kernel) (by decide +kernel)
set_option maxRecDepth 20000 in
theorem gX0_take_X0_placeChildren : GoodIn wsX0_take (wsV RX0 65 RX0 yX0_placeChildren wsX0_placeChildren) := goodIn_app (goodIn_of _ (by decide +kernel)) ggX0_take_X0_placeChildren
set_option maxRecDepth 20000 in
theorem ggX0_take_X0_giveBack : GoodIn wsX0_take wsX0_giveBack := goodIn_r _ [72, 73, 74, 45, 46, 47, 5, 48, 22, 7, 79, 80, 81, 82, 83, 84] (by decide +kernel) (by decide +kernel)
set_option maxRecDepth 20000 in
theorem gX0_take_X0_giveBack : GoodIn wsX0_take (wsV RX0 25 RX0 yX0_giveBack wsX0_giveBack) := goodIn_app (goodIn_of _ (by decide +kernel)) ggX0_take_X0_giveBack
set_option maxRecDepth 20000 in
theorem ggX0_take_X0_resize : GoodIn wsX0_take wsX0_resize := goodIn_r _ [78, 45, 46, 47, 5, 48, 22, 7, 79, 80, 81, 82, 83, 84] (by decide +kernel) (by decide +kernel)
set_option maxRecDepth 20000 in
theorem gX0_take_X0_resize : GoodIn wsX0_take (wsV RX0 50 RX0 yX0_resize wsX0_resize) := goodIn_app (goodIn_of _ (by decide +kernel)) ggX0_take_X0_resize
theorem dX0_take_0 : decode cX0_take 0 = .ok (.aload_n 0, 1) := by decide +kernel
theorem dX0_take_1 : decode cX0_take 1 = .ok (.iload_n 1, 1) := by decide +kernel
theorem dX0_take_2 : decode cX0_take 2 = .ok (.invokevirtual 54, 3) := by decide +kernel
theorem dX0_take_5 : decode cX0_take 5 = .ok (.aload_n 0, 1) := by decide +kernel
theorem dX0_take_6 : decode cX0_take 6 = .ok (.iload_n 1, 1) := by decide +kernel
theorem dX0_take_7 : decode cX0_take 7 = .ok (.invokevirtual 57, 3) := by decide +kernel
theorem dX0_take_10 : decode cX0_take 10 = .ok (.istore_n 2, 1) := by decide +kernel
theorem dX0_take_11 : decode cX0_take 11 = .ok (.iload_n 2, 1) := by decide +kernel
theorem dX0_take_12 : decode cX0_take 12 = .ok (.iconst (-1), 1) := by decide +kernel
theorem dX0_take_13 : decode cX0_take 13 = .ok (.if_icmp .ne 7, 3) := by decide +kernel
theorem dX0_take_16 : decode cX0_take 16 = .ok (.ldc2_w 60, 3) := by decide +kernel
theorem dX0_take_19 : decode cX0_take 19 = .ok (.lreturn, 1) := by decide +kernel
theorem dX0_take_20 : decode cX0_take 20 = .ok (.aload_n 0, 1) := by decide +kernel
theorem dX0_take_21 : decode cX0_take 21 = .ok (.iconst 0, 1) := by decide +kernel
theorem dX0_take_22 : decode cX0_take 22 = .ok (.iload_n 2, 1) := by decide +kernel
theorem dX0_take_23 : decode cX0_take 23 = .ok (.iadd, 1) := by decide +kernel
theorem dX0_take_24 : decode cX0_take 24 = .ok (.invokevirtual 47, 3) := by decide +kernel
theorem dX0_take_27 : decode cX0_take 27 = .ok (.i2l, 1) := by decide +kernel
theorem dX0_take_28 : decode cX0_take 28 = .ok (.lstore_n 3, 1) := by decide +kernel
theorem dX0_take_29 : decode cX0_take 29 = .ok (.aload_n 0, 1) := by decide +kernel
theorem dX0_take_30 : decode cX0_take 30 = .ok (.iload_n 1, 1) := by decide +kernel
theorem dX0_take_31 : decode cX0_take 31 = .ok (.iload_n 2, 1) := by decide +kernel
theorem dX0_take_32 : decode cX0_take 32 = .ok (.invokevirtual 62, 3) := by decide +kernel
theorem dX0_take_35 : decode cX0_take 35 = .ok (.aload_n 0, 1) := by decide +kernel
theorem dX0_take_36 : decode cX0_take 36 = .ok (.iload_n 1, 1) := by decide +kernel
theorem dX0_take_37 : decode cX0_take 37 = .ok (.iload_n 2, 1) := by decide +kernel
theorem dX0_take_38 : decode cX0_take 38 = .ok (.invokevirtual 65, 3) := by decide +kernel
theorem dX0_take_41 : decode cX0_take 41 = .ok (.aload_n 0, 1) := by decide +kernel
theorem dX0_take_42 : decode cX0_take 42 = .ok (.iload_n 2, 1) := by decide +kernel
theorem dX0_take_43 : decode cX0_take 43 = .ok (.invokevirtual 25, 3) := by decide +kernel
theorem dX0_take_46 : decode cX0_take 46 = .ok (.aload_n 0, 1) := by decide +kernel
theorem dX0_take_47 : decode cX0_take 47 = .ok (.iload_n 1, 1) := by decide +kernel
theorem dX0_take_48 : decode cX0_take 48 = .ok (.aload_n 0, 1) := by decide +kernel
theorem dX0_take_49 : decode cX0_take 49 = .ok (.sipush 1072, 3) := by decide +kernel
theorem dX0_take_52 : decode cX0_take 52 = .ok (.iload_n 1, 1) := by decide +kernel
theorem dX0_take_53 : decode cX0_take 53 = .ok (.iadd, 1) := by decide +kernel
theorem dX0_take_54 : decode cX0_take 54 = .ok (.invokevirtual 47, 3) := by decide +kernel
theorem dX0_take_57 : decode cX0_take 57 = .ok (.iconst 1, 1) := by decide +kernel
theorem dX0_take_58 : decode cX0_take 58 = .ok (.isub, 1) := by decide +kernel
theorem dX0_take_59 : decode cX0_take 59 = .ok (.invokevirtual 50, 3) := by decide +kernel
theorem dX0_take_62 : decode cX0_take 62 = .ok (.pop, 1) := by decide +kernel
theorem dX0_take_63 : decode cX0_take 63 = .ok (.lload_n 3, 1) := by decide +kernel
theorem dX0_take_64 : decode cX0_take 64 = .ok (.lreturn, 1) := by decide +kernel
set_option maxRecDepth 20000 in
theorem ggX0_meld_X0_beginOnBoth : GoodIn wsX0_meld wsX0_beginOnBoth := goodIn_r _ [5, 6, 7, 8, 9, 10, 4, 11, 12, 13, 14, 15, 16, 17, 18, 19, 20, 21, 22, 23, 24, 56, 57, 58, 59, 60, 61] (by decide +kernel) (by decide +kernel)
set_option maxRecDepth 20000 in
theorem gX0_meld_X0_beginOnBoth : GoodIn wsX0_meld (wsV RX0 68 RX0 yX0_beginOnBoth wsX0_beginOnBoth) := goodIn_app (goodIn_of _ (by decide +kernel)) ggX0_meld_X0_beginOnBoth
set_option maxRecDepth 20000 in
theorem ggX0_meld_X0_exists : GoodIn wsX0_meld wsX0_exists := goodIn_r _ [15, 16, 56, 57, 58, 59, 60, 61] (by decide +kernel) (by decide +kernel)
set_option maxRecDepth 20000 in
theorem gX0_meld_X0_exists : GoodIn wsX0_meld (wsV RX0 36 RX0 yX0_exists wsX0_exists) := goodIn_app (goodIn_of _ (by decide +kernel)) ggX0_meld_X0_exists
set_option maxRecDepth 20000 in
theorem ggX0_meld_X0_cutTwin : GoodIn wsX0_meld wsX0_cutTwin := goodIn_r _ [28, 17, 18, 19, 4, 20, 21, 6, 29, 30, 31, 32, 56, 57, 58, 59, 60, 61] (by decide +kernel) (by decide +kernel)
set_option maxRecDepth 20000 in
theorem gX0_meld_X0_cutTwin : GoodIn wsX0_meld (wsV RX0 71 RX0 yX0_cutTwin wsX0_cutTwin) := goodIn_app (goodIn_of _ (by decide +kernel)) ggX0_meld_X0_cutTwin
set_option maxRecDepth 20000 in
theorem ggX0_meld_X0_place : GoodIn wsX0_meld wsX0_place := goodIn_r _ [36, 17, 18, 19, 4, 20, 21, 6, 37, 38, 39, 40, 41, 42, 43, 29, 30, 31, 32, 44, 45, 46, 47, 48, 49, 50, 51, 56, 57, 58, 59, 60, 61] (by decide +kernel) (by decide +kernel)
set_option maxRecDepth 20000 in
theorem gX0_meld_X0_place : GoodIn wsX0_meld (wsV RX0 74 RX0 yX0_place wsX0_place) := goodIn_app (goodIn_of _ (by decide +kernel)) ggX0_meld_X0_place
set_option maxRecDepth 20000 in
theorem ggX0_meld_X0_cutTop : GoodIn wsX0_meld wsX0_cutTop := goodIn_r _ [40, 41, 42, 4, 43, 17, 18, 19, 20, 21, 6, 29, 30, 31, 32, 56, 57, 58, 59, 60, 61] (by decide +kernel) (by decide +kernel)
set_option maxRecDepth 20000 in
theorem gX0_meld_X0_cutTop : GoodIn wsX0_meld (wsV RX0 77 RX0 yX0_cutTop wsX0_cutTop) := goodIn_app (goodIn_of _ (by decide +kernel)) ggX0_meld_X0_cutTop
set_option maxRecDepth 20000 in
theorem ggX0_meld_X0_read : GoodIn wsX0_meld wsX0_read := goodIn_r _ [20, 21, 6, 56, 57, 58, 59, 60, 61] (by decide +kernel) (by decide +kernel)
set_option maxRecDepth 20000 in
theorem gX0_meld_X0_read : GoodIn wsX0_meld (wsV RX0 47 RX0 yX0_read wsX0_read) := goodIn_app (goodIn_of _ (by decide +kernel)) ggX0_meld_X0_read
set_option maxRecDepth 20000 in
theorem ggX0_meld_X0_resize : GoodIn wsX0_meld wsX0_resize := goodIn_r _ [55, 29, 30, 31, 4, 32, 21, 6, 56, 57, 58, 59, 60, 61] (by decide +kernel) (by decide +kernel)
set_option maxRecDepth 20000 in
theorem gX0_meld_X0_resize : GoodIn wsX0_meld (wsV RX0 50 RX0 yX0_resize wsX0_resize) := goodIn_app (goodIn_of _ (by decide +kernel)) ggX0_meld_X0_resize
theorem dX0_meld_0 : decode cX0_meld 0 = .ok (.aload_n 0, 1) := by decide +kernel
theorem dX0_meld_1 : decode cX0_meld 1 = .ok (.iload_n 1, 1) := by decide +kernel
theorem dX0_meld_2 : decode cX0_meld 2 = .ok (.iload_n 2, 1) := by decide +kernel
theorem dX0_meld_3 : decode cX0_meld 3 = .ok (.invokevirtual 68, 3) := by decide +kernel
theorem dX0_meld_6 : decode cX0_meld 6 = .ok (.aload_n 0, 1) := by decide +kernel
theorem dX0_meld_7 : decode cX0_meld 7 = .ok (.iload_n 1, 1) := by decide +kernel
theorem dX0_meld_8 : decode cX0_meld 8 = .ok (.invokevirtual 36, 3) := by decide +kernel
theorem dX0_meld_11 : decode cX0_meld 11 = .ok (.ifCond .eq 16, 3) := by decide +kernel
theorem dX0_meld_14 : decode cX0_meld 14 = .ok (.aload_n 0, 1) := by decide +kernel
theorem dX0_meld_15 : decode cX0_meld 15 = .ok (.iload_n 2, 1) := by decide +kernel
theorem dX0_meld_16 : decode cX0_meld 16 = .ok (.invokevirtual 36, 3) := by decide +kernel
theorem dX0_meld_19 : decode cX0_meld 19 = .ok (.ifCond .eq 8, 3) := by decide +kernel
theorem dX0_meld_22 : decode cX0_meld 22 = .ok (.iload_n 1, 1) := by decide +kernel
theorem dX0_meld_23 : decode cX0_meld 23 = .ok (.iload_n 2, 1) := by decide +kernel
theorem dX0_meld_24 : decode cX0_meld 24 = .ok (.if_icmp .ne 5, 3) := by decide +kernel
theorem dX0_meld_27 : decode cX0_meld 27 = .ok (.iconst (-1), 1) := by decide +kernel
theorem dX0_meld_28 : decode cX0_meld 28 = .ok (.ireturn, 1) := by decide +kernel
theorem dX0_meld_29 : decode cX0_meld 29 = .ok (.aload_n 0, 1) := by decide +kernel
theorem dX0_meld_30 : decode cX0_meld 30 = .ok (.iload_n 1, 1) := by decide +kernel
theorem dX0_meld_31 : decode cX0_meld 31 = .ok (.aload_n 0, 1) := by decide +kernel
theorem dX0_meld_32 : decode cX0_meld 32 = .ok (.iload_n 1, 1) := by decide +kernel
theorem dX0_meld_33 : decode cX0_meld 33 = .ok (.invokevirtual 71, 3) := by decide +kernel
theorem dX0_meld_36 : decode cX0_meld 36 = .ok (.invokevirtual 74, 3) := by decide +kernel
theorem dX0_meld_39 : decode cX0_meld 39 = .ok (.aload_n 0, 1) := by decide +kernel
theorem dX0_meld_40 : decode cX0_meld 40 = .ok (.iload_n 1, 1) := by decide +kernel
theorem dX0_meld_41 : decode cX0_meld 41 = .ok (.aload_n 0, 1) := by decide +kernel
theorem dX0_meld_42 : decode cX0_meld 42 = .ok (.iload_n 2, 1) := by decide +kernel
theorem dX0_meld_43 : decode cX0_meld 43 = .ok (.invokevirtual 71, 3) := by decide +kernel
theorem dX0_meld_46 : decode cX0_meld 46 = .ok (.invokevirtual 74, 3) := by decide +kernel
theorem dX0_meld_49 : decode cX0_meld 49 = .ok (.iconst 0, 1) := by decide +kernel
theorem dX0_meld_50 : decode cX0_meld 50 = .ok (.istore_n 3, 1) := by decide +kernel
theorem dX0_meld_51 : decode cX0_meld 51 = .ok (.iload_n 3, 1) := by decide +kernel
theorem dX0_meld_52 : decode cX0_meld 52 = .ok (.bipush 8, 2) := by decide +kernel
theorem dX0_meld_54 : decode cX0_meld 54 = .ok (.if_icmp .ge 20, 3) := by decide +kernel
theorem dX0_meld_57 : decode cX0_meld 57 = .ok (.aload_n 0, 1) := by decide +kernel
theorem dX0_meld_58 : decode cX0_meld 58 = .ok (.iload_n 1, 1) := by decide +kernel
theorem dX0_meld_59 : decode cX0_meld 59 = .ok (.aload_n 0, 1) := by decide +kernel
theorem dX0_meld_60 : decode cX0_meld 60 = .ok (.iload_n 2, 1) := by decide +kernel
theorem dX0_meld_61 : decode cX0_meld 61 = .ok (.iload_n 3, 1) := by decide +kernel
theorem dX0_meld_62 : decode cX0_meld 62 = .ok (.invokevirtual 77, 3) := by decide +kernel
theorem dX0_meld_65 : decode cX0_meld 65 = .ok (.invokevirtual 74, 3) := by decide +kernel
theorem dX0_meld_68 : decode cX0_meld 68 = .ok (.iinc 3 1, 3) := by decide +kernel
theorem dX0_meld_71 : decode cX0_meld 71 = .ok (.goto (-20), 3) := by decide +kernel
theorem dX0_meld_74 : decode cX0_meld 74 = .ok (.aload_n 0, 1) := by decide +kernel
theorem dX0_meld_75 : decode cX0_meld 75 = .ok (.sipush 1072, 3) := by decide +kernel
theorem dX0_meld_78 : decode cX0_meld 78 = .ok (.iload_n 2, 1) := by decide +kernel
theorem dX0_meld_79 : decode cX0_meld 79 = .ok (.iadd, 1) := by decide +kernel
theorem dX0_meld_80 : decode cX0_meld 80 = .ok (.invokevirtual 47, 3) := by decide +kernel
theorem dX0_meld_83 : decode cX0_meld 83 = .ok (.istore_n 3, 1) := by decide +kernel
theorem dX0_meld_84 : decode cX0_meld 84 = .ok (.aload_n 0, 1) := by decide +kernel
theorem dX0_meld_85 : decode cX0_meld 85 = .ok (.iload_n 2, 1) := by decide +kernel
theorem dX0_meld_86 : decode cX0_meld 86 = .ok (.iconst 0, 1) := by decide +kernel
theorem dX0_meld_87 : decode cX0_meld 87 = .ok (.invokevirtual 50, 3) := by decide +kernel
theorem dX0_meld_90 : decode cX0_meld 90 = .ok (.pop, 1) := by decide +kernel
theorem dX0_meld_91 : decode cX0_meld 91 = .ok (.aload_n 0, 1) := by decide +kernel
theorem dX0_meld_92 : decode cX0_meld 92 = .ok (.iload_n 1, 1) := by decide +kernel
theorem dX0_meld_93 : decode cX0_meld 93 = .ok (.aload_n 0, 1) := by decide +kernel
theorem dX0_meld_94 : decode cX0_meld 94 = .ok (.sipush 1072, 3) := by decide +kernel
theorem dX0_meld_97 : decode cX0_meld 97 = .ok (.iload_n 1, 1) := by decide +kernel
theorem dX0_meld_98 : decode cX0_meld 98 = .ok (.iadd, 1) := by decide +kernel
theorem dX0_meld_99 : decode cX0_meld 99 = .ok (.invokevirtual 47, 3) := by decide +kernel
theorem dX0_meld_102 : decode cX0_meld 102 = .ok (.iload_n 3, 1) := by decide +kernel
theorem dX0_meld_103 : decode cX0_meld 103 = .ok (.iadd, 1) := by decide +kernel
theorem dX0_meld_104 : decode cX0_meld 104 = .ok (.invokevirtual 50, 3) := by decide +kernel
theorem dX0_meld_107 : decode cX0_meld 107 = .ok (.ireturn, 1) := by decide +kernel
set_option maxRecDepth 20000 in
theorem ggX0_size_X0_begin : GoodIn wsX0_size wsX0_begin := goodIn_r _ [6, 7, 8, 19, 20, 21, 22, 23, 24] (by decide +kernel) (by decide +kernel)
set_option maxRecDepth 20000 in
theorem gX0_size_X0_begin : GoodIn wsX0_size (wsV RX0 30 RX0 yX0_begin wsX0_begin) := goodIn_app (goodIn_of _ (by decide +kernel)) ggX0_size_X0_begin
set_option maxRecDepth 20000 in
theorem ggX0_size_X0_exists : GoodIn wsX0_size wsX0_exists := goodIn_r _ [12, 13, 19, 20, 21, 22, 23, 24] (by decide +kernel) (by decide +kernel)
set_option maxRecDepth 20000 in
theorem gX0_size_X0_exists : GoodIn wsX0_size (wsV RX0 36 RX0 yX0_exists wsX0_exists) := goodIn_app (goodIn_of _ (by decide +kernel)) ggX0_size_X0_exists
set_option maxRecDepth 20000 in
theorem ggX0_size_X0_read : GoodIn wsX0_size wsX0_read := goodIn_r _ [17, 18, 7, 19, 20, 21, 22, 23, 24] (by decide +kernel) (by decide +kernel)
set_option maxRecDepth 20000 in
theorem gX0_size_X0_read : GoodIn wsX0_size (wsV RX0 47 RX0 yX0_read wsX0_read) := goodIn_app (goodIn_of _ (by decide +kernel)) ggX0_size_X0_read
theorem dX0_size_0 : decode cX0_size 0 = .ok (.aload_n 0, 1) := by decide +kernel
theorem dX0_size_1 : decode cX0_size 1 = .ok (.ldc 29, 2) := by decide +kernel
theorem dX0_size_3 : decode cX0_size 3 = .ok (.invokevirtual 30, 3) := by decide +kernel
theorem dX0_size_6 : decode cX0_size 6 = .ok (.aload_n 0, 1) := by decide +kernel
theorem dX0_size_7 : decode cX0_size 7 = .ok (.iload_n 1, 1) := by decide +kernel
theorem dX0_size_8 : decode cX0_size 8 = .ok (.invokevirtual 36, 3) := by decide +kernel
theorem dX0_size_11 : decode cX0_size 11 = .ok (.ifCond .eq 15, 3) := by decide +kernel
theorem dX0_size_14 : decode cX0_size 14 = .ok (.aload_n 0, 1) := by decide +kernel
theorem dX0_size_15 : decode cX0_size 15 = .ok (.sipush 1072, 3) := by decide +kernel
theorem dX0_size_18 : decode cX0_size 18 = .ok (.iload_n 1, 1) := by decide +kernel
theorem dX0_size_19 : decode cX0_size 19 = .ok (.iadd, 1) := by decide +kernel
theorem dX0_size_20 : decode cX0_size 20 = .ok (.invokevirtual 47, 3) := by decide +kernel
theorem dX0_size_23 : decode cX0_size 23 = .ok (.goto 4, 3) := by decide +kernel
theorem dX0_size_26 : decode cX0_size 26 = .ok (.iconst (-1), 1) := by decide +kernel
theorem dX0_size_27 : decode cX0_size 27 = .ok (.ireturn, 1) := by decide +kernel
set_option maxRecDepth 20000 in
theorem ggX0_key_X0_begin : GoodIn wsX0_key wsX0_begin := goodIn_r _ [7, 8, 9, 53, 54, 55, 56, 57, 58] (by decide +kernel) (by decide +kernel)
set_option maxRecDepth 20000 in
theorem gX0_key_X0_begin : GoodIn wsX0_key (wsV RX0 30 RX0 yX0_begin wsX0_begin) := goodIn_app (goodIn_of _ (by decide +kernel)) ggX0_key_X0_begin
set_option maxRecDepth 20000 in
theorem ggX0_key_X0_keysIn : GoodIn wsX0_key wsX0_keysIn := goodIn_r _ [13, 14, 15, 16, 6, 17, 18, 19, 20, 21, 22, 23, 8, 53, 54, 55, 56, 57, 58] (by decide +kernel) (by decide +kernel)
set_option maxRecDepth 20000 in
theorem gX0_key_X0_keysIn : GoodIn wsX0_key (wsV RX0 80 RX0 yX0_keysIn wsX0_keysIn) := goodIn_app (goodIn_of _ (by decide +kernel)) ggX0_key_X0_keysIn
set_option maxRecDepth 20000 in
theorem ggX0_key_X0_listCells : GoodIn wsX0_key wsX0_listCells := goodIn_r _ [27, 19, 20, 21, 6, 22, 23, 8, 28, 29, 30, 31, 32, 33, 34, 35, 36, 37, 38, 53, 54, 55, 56, 57, 58] (by decide +kernel) (by decide +kernel)
set_option maxRecDepth 20000 in
theorem gX0_key_X0_listCells : GoodIn wsX0_key (wsV RX0 83 RX0 yX0_listCells wsX0_listCells) := goodIn_app (goodIn_of _ (by decide +kernel)) ggX0_key_X0_listCells
set_option maxRecDepth 20000 in
theorem ggX0_key_X0_kthListed : GoodIn wsX0_key wsX0_kthListed := goodIn_r _ [42, 43, 44, 45, 46, 47, 6, 48, 49, 50, 51, 52, 19, 20, 21, 22, 23, 8, 53, 54, 55, 56, 57, 58] (by decide +kernel) (by decide +kernel)
set_option maxRecDepth 20000 in
theorem gX0_key_X0_kthListed : GoodIn wsX0_key (wsV RX0 86 RX0 yX0_kthListed wsX0_kthListed) := goodIn_app (goodIn_of _ (by decide +kernel)) ggX0_key_X0_kthListed
theorem dX0_key_0 : decode cX0_key 0 = .ok (.aload_n 0, 1) := by decide +kernel
theorem dX0_key_1 : decode cX0_key 1 = .ok (.ldc 29, 2) := by decide +kernel
theorem dX0_key_3 : decode cX0_key 3 = .ok (.invokevirtual 30, 3) := by decide +kernel
theorem dX0_key_6 : decode cX0_key 6 = .ok (.iload_n 2, 1) := by decide +kernel
theorem dX0_key_7 : decode cX0_key 7 = .ok (.ifCond .lt 12, 3) := by decide +kernel
theorem dX0_key_10 : decode cX0_key 10 = .ok (.iload_n 2, 1) := by decide +kernel
theorem dX0_key_11 : decode cX0_key 11 = .ok (.aload_n 0, 1) := by decide +kernel
theorem dX0_key_12 : decode cX0_key 12 = .ok (.iload_n 1, 1) := by decide +kernel
theorem dX0_key_13 : decode cX0_key 13 = .ok (.invokevirtual 80, 3) := by decide +kernel
theorem dX0_key_16 : decode cX0_key 16 = .ok (.if_icmp .lt 7, 3) := by decide +kernel
theorem dX0_key_19 : decode cX0_key 19 = .ok (.ldc2_w 60, 3) := by decide +kernel
theorem dX0_key_22 : decode cX0_key 22 = .ok (.lreturn, 1) := by decide +kernel
theorem dX0_key_23 : decode cX0_key 23 = .ok (.aload_n 0, 1) := by decide +kernel
theorem dX0_key_24 : decode cX0_key 24 = .ok (.aload_n 0, 1) := by decide +kernel
theorem dX0_key_25 : decode cX0_key 25 = .ok (.iload_n 1, 1) := by decide +kernel
theorem dX0_key_26 : decode cX0_key 26 = .ok (.invokevirtual 83, 3) := by decide +kernel
theorem dX0_key_29 : decode cX0_key 29 = .ok (.iload_n 2, 1) := by decide +kernel
theorem dX0_key_30 : decode cX0_key 30 = .ok (.invokevirtual 86, 3) := by decide +kernel
theorem dX0_key_33 : decode cX0_key 33 = .ok (.lreturn, 1) := by decide +kernel
set_option maxRecDepth 20000 in
theorem ggX0_sum_X0_begin : GoodIn wsX0_sum wsX0_begin := goodIn_r _ [6, 7, 8, 38, 39, 40, 41, 42, 43] (by decide +kernel) (by decide +kernel)
set_option maxRecDepth 20000 in
theorem gX0_sum_X0_begin : GoodIn wsX0_sum (wsV RX0 30 RX0 yX0_begin wsX0_begin) := goodIn_app (goodIn_of _ (by decide +kernel)) ggX0_sum_X0_begin
set_option maxRecDepth 20000 in
theorem ggX0_sum_X0_exists : GoodIn wsX0_sum wsX0_exists := goodIn_r _ [12, 13, 38, 39, 40, 41, 42, 43] (by decide +kernel) (by decide +kernel)
set_option maxRecDepth 20000 in
theorem gX0_sum_X0_exists : GoodIn wsX0_sum (wsV RX0 36 RX0 yX0_exists wsX0_exists) := goodIn_app (goodIn_of _ (by decide +kernel)) ggX0_sum_X0_exists
set_option maxRecDepth 20000 in
theorem ggX0_sum_X0_listCells : GoodIn wsX0_sum wsX0_listCells := goodIn_r _ [17, 18, 19, 20, 5, 21, 22, 7, 23, 24, 25, 26, 27, 28, 29, 30, 31, 32, 33, 38, 39, 40, 41, 42, 43] (by decide +kernel) (by decide +kernel)
set_option maxRecDepth 20000 in
theorem gX0_sum_X0_listCells : GoodIn wsX0_sum (wsV RX0 83 RX0 yX0_listCells wsX0_listCells) := goodIn_app (goodIn_of _ (by decide +kernel)) ggX0_sum_X0_listCells
set_option maxRecDepth 20000 in
theorem ggX0_sum_X0_listedKey : GoodIn wsX0_sum wsX0_listedKey := goodIn_r _ [37, 18, 19, 20, 5, 21, 22, 7, 38, 39, 40, 41, 42, 43] (by decide +kernel) (by decide +kernel)
set_option maxRecDepth 20000 in
theorem gX0_sum_X0_listedKey : GoodIn wsX0_sum (wsV RX0 90 RX0 yX0_listedKey wsX0_listedKey) := goodIn_app (goodIn_of _ (by decide +kernel)) ggX0_sum_X0_listedKey
theorem dX0_sum_0 : decode cX0_sum 0 = .ok (.aload_n 0, 1) := by decide +kernel
theorem dX0_sum_1 : decode cX0_sum 1 = .ok (.ldc 29, 2) := by decide +kernel
theorem dX0_sum_3 : decode cX0_sum 3 = .ok (.invokevirtual 30, 3) := by decide +kernel
theorem dX0_sum_6 : decode cX0_sum 6 = .ok (.aload_n 0, 1) := by decide +kernel
theorem dX0_sum_7 : decode cX0_sum 7 = .ok (.iload_n 1, 1) := by decide +kernel
theorem dX0_sum_8 : decode cX0_sum 8 = .ok (.invokevirtual 36, 3) := by decide +kernel
theorem dX0_sum_11 : decode cX0_sum 11 = .ok (.ifCond .ne 5, 3) := by decide +kernel
theorem dX0_sum_14 : decode cX0_sum 14 = .ok (.lconst 0, 1) := by decide +kernel
theorem dX0_sum_15 : decode cX0_sum 15 = .ok (.lreturn, 1) := by decide +kernel
theorem dX0_sum_16 : decode cX0_sum 16 = .ok (.aload_n 0, 1) := by decide +kernel
theorem dX0_sum_17 : decode cX0_sum 17 = .ok (.iload_n 1, 1) := by decide +kernel
theorem dX0_sum_18 : decode cX0_sum 18 = .ok (.invokevirtual 83, 3) := by decide +kernel
theorem dX0_sum_21 : decode cX0_sum 21 = .ok (.istore_n 2, 1) := by decide +kernel
theorem dX0_sum_22 : decode cX0_sum 22 = .ok (.lconst 0, 1) := by decide +kernel
theorem dX0_sum_23 : decode cX0_sum 23 = .ok (.lstore_n 3, 1) := by decide +kernel
theorem dX0_sum_24 : decode cX0_sum 24 = .ok (.iconst 0, 1) := by decide +kernel
theorem dX0_sum_25 : decode cX0_sum 25 = .ok (.istore 5, 2) := by decide +kernel
theorem dX0_sum_27 : decode cX0_sum 27 = .ok (.iload 5, 2) := by decide +kernel
theorem dX0_sum_29 : decode cX0_sum 29 = .ok (.iload_n 2, 1) := by decide +kernel
theorem dX0_sum_30 : decode cX0_sum 30 = .ok (.if_icmp .ge 19, 3) := by decide +kernel
theorem dX0_sum_33 : decode cX0_sum 33 = .ok (.lload_n 3, 1) := by decide +kernel
theorem dX0_sum_34 : decode cX0_sum 34 = .ok (.aload_n 0, 1) := by decide +kernel
theorem dX0_sum_35 : decode cX0_sum 35 = .ok (.iload 5, 2) := by decide +kernel
theorem dX0_sum_37 : decode cX0_sum 37 = .ok (.invokevirtual 90, 3) := by decide +kernel
theorem dX0_sum_40 : decode cX0_sum 40 = .ok (.i2l, 1) := by decide +kernel
theorem dX0_sum_41 : decode cX0_sum 41 = .ok (.ladd, 1) := by decide +kernel
theorem dX0_sum_42 : decode cX0_sum 42 = .ok (.lstore_n 3, 1) := by decide +kernel
theorem dX0_sum_43 : decode cX0_sum 43 = .ok (.iinc 5 1, 3) := by decide +kernel
theorem dX0_sum_46 : decode cX0_sum 46 = .ok (.goto (-19), 3) := by decide +kernel
theorem dX0_sum_49 : decode cX0_sum 49 = .ok (.lload_n 3, 1) := by decide +kernel
theorem dX0_sum_50 : decode cX0_sum 50 = .ok (.lreturn, 1) := by decide +kernel
set_option maxRecDepth 20000 in
theorem ggX0_free_X0_begin : GoodIn wsX0_free wsX0_begin := goodIn_r _ [7, 8, 9, 10, 11, 12, 13, 14, 15] (by decide +kernel) (by decide +kernel)
set_option maxRecDepth 20000 in
theorem gX0_free_X0_begin : GoodIn wsX0_free (wsV RX0 30 RX0 yX0_begin wsX0_begin) := goodIn_app (goodIn_of _ (by decide +kernel)) ggX0_free_X0_begin
theorem dX0_free_0 : decode cX0_free 0 = .ok (.aload_n 0, 1) := by decide +kernel
theorem dX0_free_1 : decode cX0_free 1 = .ok (.ldc 29, 2) := by decide +kernel
theorem dX0_free_3 : decode cX0_free 3 = .ok (.invokevirtual 30, 3) := by decide +kernel
theorem dX0_free_6 : decode cX0_free 6 = .ok (.aload_n 0, 1) := by decide +kernel
theorem dX0_free_7 : decode cX0_free 7 = .ok (.getfield 93, 3) := by decide +kernel
theorem dX0_free_10 : decode cX0_free 10 = .ok (.ireturn, 1) := by decide +kernel
set_option maxRecDepth 20000 in
theorem ggX0_few_X0_begin : GoodIn wsX0_few wsX0_begin := goodIn_r _ [8, 1, 2, 9, 10, 11, 12, 13, 14] (by decide +kernel) (by decide +kernel)
set_option maxRecDepth 20000 in
theorem gX0_few_X0_begin : GoodIn wsX0_few (wsV RX0 30 RX0 yX0_begin wsX0_begin) := goodIn_app (goodIn_of _ (by decide +kernel)) ggX0_few_X0_begin
theorem dX0_few_0 : decode cX0_few 0 = .ok (.aload_n 0, 1) := by decide +kernel
theorem dX0_few_1 : decode cX0_few 1 = .ok (.getfield 96, 3) := by decide +kernel
theorem dX0_few_4 : decode cX0_few 4 = .ok (.aload_n 0, 1) := by decide +kernel
