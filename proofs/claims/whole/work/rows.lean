section
-- ===== PART A: goes FIRST, ahead of the names: the tables' words, and 'selects' of the private methods out of them =====
/-- a private method of a class that the tables say can be made, by its rows of tables_1 -/
def lw_okq (q : MethodName × Nat) : Prop := (q.1.cls ≠ "java/lang/invoke/MethodHandle" ∧ q.1.cls ≠ "java/lang/invoke/VarHandle") ∧ Cond.instantiable q.1.cls q.2 ∈ tables_1 ∧ Cond.privateMethod q.1 ∈ tables_1 ∧ Cond.instanceMethod q.1 ∈ tables_1
theorem lw_p0 : lw_okq (⟨"TransformProduct", "rowOf", "(I)LTransformProduct$Row;"⟩, 10) := ⟨⟨by decide +kernel, by decide +kernel⟩, List.mem_of_getElem? (i := 10) (by decide +kernel), List.mem_of_getElem? (i := 161) (by decide +kernel), List.mem_of_getElem? (i := 162) (by decide +kernel)⟩
theorem lw_p1 : lw_okq (⟨"TransformProduct$PrimeTransform", "toSpectrum", "([I)V"⟩, 6) := ⟨⟨by decide +kernel, by decide +kernel⟩, List.mem_of_getElem? (i := 35) (by decide +kernel), List.mem_of_getElem? (i := 184) (by decide +kernel), List.mem_of_getElem? (i := 185) (by decide +kernel)⟩
theorem lw_p2 : lw_okq (⟨"TransformProduct$PrimeTransform", "splitBlock", "([III)V"⟩, 6) := ⟨⟨by decide +kernel, by decide +kernel⟩, List.mem_of_getElem? (i := 35) (by decide +kernel), List.mem_of_getElem? (i := 188) (by decide +kernel), List.mem_of_getElem? (i := 189) (by decide +kernel)⟩
theorem lw_p3 : lw_okq (⟨"TransformProduct$PrimeTransform", "multiplyEach", "([I)V"⟩, 6) := ⟨⟨by decide +kernel, by decide +kernel⟩, List.mem_of_getElem? (i := 35) (by decide +kernel), List.mem_of_getElem? (i := 192) (by decide +kernel), List.mem_of_getElem? (i := 193) (by decide +kernel)⟩
theorem lw_p4 : lw_okq (⟨"TransformProduct$PrimeTransform", "fromSpectrum", "([I)V"⟩, 6) := ⟨⟨by decide +kernel, by decide +kernel⟩, List.mem_of_getElem? (i := 35) (by decide +kernel), List.mem_of_getElem? (i := 196) (by decide +kernel), List.mem_of_getElem? (i := 197) (by decide +kernel)⟩
theorem lw_p5 : lw_okq (⟨"TransformProduct$PrimeTransform", "joinBlock", "([III)V"⟩, 6) := ⟨⟨by decide +kernel, by decide +kernel⟩, List.mem_of_getElem? (i := 35) (by decide +kernel), List.mem_of_getElem? (i := 200) (by decide +kernel), List.mem_of_getElem? (i := 201) (by decide +kernel)⟩
theorem lw_p6 : lw_okq (⟨"TransformProduct", "carryInto", "(I)V"⟩, 10) := ⟨⟨by decide +kernel, by decide +kernel⟩, List.mem_of_getElem? (i := 10) (by decide +kernel), List.mem_of_getElem? (i := 204) (by decide +kernel), List.mem_of_getElem? (i := 205) (by decide +kernel)⟩
theorem lw_p7 : lw_okq (⟨"TransformProductModel", "by", "(II)V"⟩, 8) := ⟨⟨by decide +kernel, by decide +kernel⟩, List.mem_of_getElem? (i := 295) (by decide +kernel), List.mem_of_getElem? (i := 358) (by decide +kernel), List.mem_of_getElem? (i := 359) (by decide +kernel)⟩
theorem lw_p8 : lw_okq (⟨"TransformProductModel", "trim", "()V"⟩, 8) := ⟨⟨by decide +kernel, by decide +kernel⟩, List.mem_of_getElem? (i := 295) (by decide +kernel), List.mem_of_getElem? (i := 363) (by decide +kernel), List.mem_of_getElem? (i := 364) (by decide +kernel)⟩
theorem lw_p9 : lw_okq (⟨"TransformProductModel", "digitOf", "(II)I"⟩, 8) := ⟨⟨by decide +kernel, by decide +kernel⟩, List.mem_of_getElem? (i := 295) (by decide +kernel), List.mem_of_getElem? (i := 410) (by decide +kernel), List.mem_of_getElem? (i := 411) (by decide +kernel)⟩
def lw_privs_1 : List (MethodName × Nat) := [(⟨"TransformProduct", "rowOf", "(I)LTransformProduct$Row;"⟩, 10), (⟨"TransformProduct$PrimeTransform", "toSpectrum", "([I)V"⟩, 6), (⟨"TransformProduct$PrimeTransform", "splitBlock", "([III)V"⟩, 6), (⟨"TransformProduct$PrimeTransform", "multiplyEach", "([I)V"⟩, 6), (⟨"TransformProduct$PrimeTransform", "fromSpectrum", "([I)V"⟩, 6), (⟨"TransformProduct$PrimeTransform", "joinBlock", "([III)V"⟩, 6), (⟨"TransformProduct", "carryInto", "(I)V"⟩, 10), (⟨"TransformProductModel", "by", "(II)V"⟩, 8), (⟨"TransformProductModel", "trim", "()V"⟩, 8), (⟨"TransformProductModel", "digitOf", "(II)I"⟩, 8)]
theorem lw_r1 : ∀ q ∈ lw_privs_1, lw_okq q := List.forall_mem_cons.mpr ⟨lw_p0, List.forall_mem_cons.mpr ⟨lw_p1, List.forall_mem_cons.mpr ⟨lw_p2, List.forall_mem_cons.mpr ⟨lw_p3, List.forall_mem_cons.mpr ⟨lw_p4, List.forall_mem_cons.mpr ⟨lw_p5, List.forall_mem_cons.mpr ⟨lw_p6, List.forall_mem_cons.mpr ⟨lw_p7, List.forall_mem_cons.mpr ⟨lw_p8, List.forall_mem_cons.mpr ⟨lw_p9, fun _ h => absurd h List.not_mem_nil⟩⟩⟩⟩⟩⟩⟩⟩⟩⟩
def lw_privs : List (MethodName × Nat) := lw_privs_1
def lw_tbl : List Cond := k2_sels lw_privs ++ tables_1
theorem lw_privs_ok : ∀ q ∈ lw_privs, lw_okq q := lw_r1
end
section
/-! ===== BEGIN words of one list among another's, by their places ===== -/
theorem goodIn_r {big : List Cond} (ws : List Cond) (ps : List Nat) (hp : ws = ps.filterMap (fun i => big[i]?)) (h : ws.all goodWord = true) : GoodIn big ws := by
  intro w hw
  have h1 := List.all_eq_true.mp h w hw
  rw [hp] at hw
  obtain ⟨i, -, hi⟩ := List.mem_filterMap.mp hw
  have hm : w ∈ big := by first | exact List.mem_of_getElem? hi | exact List.getElem?_mem hi
  exact ⟨hm, good_of_word h1⟩
theorem goodIn_app {big a b : List Cond} (ha : GoodIn big a) (hb : GoodIn big b) : GoodIn big (a ++ b) := fun w h => (List.mem_append.mp h).elim (ha w) (hb w)
theorem goodIn_ca {big a b : List Cond} {c : Cond} (ha : GoodIn big (c :: a)) (hb : GoodIn big b) : GoodIn big (c :: (a ++ b)) := fun w h => (List.mem_cons.mp h).elim (fun e => ha w (List.mem_cons.mpr (Or.inl e))) (fun h => (List.mem_append.mp h).elim (fun h => ha w (List.mem_cons.mpr (Or.inr h))) (hb w))
theorem goodIn_sub {big ws : List Cond} (hm : ∀ w ∈ ws, w ∈ big) (h : ws.all goodWord = true) : GoodIn big ws := fun w hw => ⟨hm w hw, good_of_word (List.all_eq_true.mp h w hw)⟩
/-! ===== END ===== -/

/-! ===== BEGIN printed: names, fields, word lists, decode rows ===== -/
def RX0 : String := "TransformProduct$Joiner"
def TX0 : u_T := fun k => match k with
  | 0 => ("TransformProduct$Joiner", "firstInverse", "J", false)
  | _ => ("TransformProduct$Joiner", "bothInverse", "J", false)
def tyX0 : Nat → FieldType := fun k => match k with
  | 0 => .long
  | _ => .long
abbrev wsX00 : List Cond := u_ws RX0 TX0 2
theorem nmX0 : ∀ a, a < 2 → ∀ b, b < 2 → a ≠ b → (TX0 a).2.1 ≠ (TX0 b).2.1 := by decide +kernel
theorem tyX0_ok : ∀ k, k < 2 → parseFieldDescriptor (TX0 k).2.2.1 = some (tyX0 k) := by decide +kernel
abbrev cX0_init : ByteArray := prog_2_method_1_code
def yX0_init : MethodName := ⟨RX0, "<init>", "()V"⟩
abbrev cX0_prepare : ByteArray := prog_2_method_2_code
def yX0_prepare : MethodName := ⟨RX0, "prepare", "()V"⟩
abbrev cX0_join : ByteArray := prog_2_method_3_code
def yX0_join : MethodName := ⟨RX0, "join", "(JJJ)J"⟩
def RX1 : String := "TransformProduct$PrimeTransform"
def TX1 : u_T := fun k => match k with
  | 0 => ("TransformProduct$PrimeTransform", "prime", "I", true)
  | 1 => ("TransformProduct$PrimeTransform", "log", "I", true)
  | 2 => ("TransformProduct$PrimeTransform", "size", "I", true)
  | 3 => ("TransformProduct$PrimeTransform", "roots", "[I", true)
  | 4 => ("TransformProduct$PrimeTransform", "values", "[I", true)
  | _ => ("TransformProduct$PrimeTransform", "inverseSize", "J", false)
def tyX1 : Nat → FieldType := fun k => match k with
  | 0 => .int
  | 1 => .int
  | 2 => .int
  | 3 => .array .int
  | 4 => .array .int
  | _ => .long
abbrev wsX10 : List Cond := u_ws RX1 TX1 6
theorem nmX1 : ∀ a, a < 6 → ∀ b, b < 6 → a ≠ b → (TX1 a).2.1 ≠ (TX1 b).2.1 := by decide +kernel
theorem tyX1_ok : ∀ k, k < 6 → parseFieldDescriptor (TX1 k).2.2.1 = some (tyX1 k) := by decide +kernel
abbrev cX1_init : ByteArray := prog_3_method_1_code
def yX1_init : MethodName := ⟨RX1, "<init>", "(II)V"⟩
abbrev cX1_prepare : ByteArray := prog_3_method_2_code
def yX1_prepare : MethodName := ⟨RX1, "prepare", "()V"⟩
abbrev cX1_convolve : ByteArray := prog_3_method_3_code
def yX1_convolve : MethodName := ⟨RX1, "convolve", "(LTransformProduct$Row;LTransformProduct$Row;[I)V"⟩
abbrev cX1_convolveWithItself : ByteArray := prog_3_method_4_code
def yX1_convolveWithItself : MethodName := ⟨RX1, "convolveWithItself", "(LTransformProduct$Row;)V"⟩
abbrev cX1_coefficient : ByteArray := prog_3_method_5_code
def yX1_coefficient : MethodName := ⟨RX1, "coefficient", "(I)I"⟩
abbrev cX1_spectrumNumber : ByteArray := prog_3_method_6_code
def yX1_spectrumNumber : MethodName := ⟨RX1, "spectrumNumber", "(LTransformProduct$Row;I)I"⟩
abbrev cX1_multiplyEach : ByteArray := prog_3_method_7_code
def yX1_multiplyEach : MethodName := ⟨RX1, "multiplyEach", "([I)V"⟩
abbrev cX1_toSpectrum : ByteArray := prog_3_method_8_code
def yX1_toSpectrum : MethodName := ⟨RX1, "toSpectrum", "([I)V"⟩
abbrev cX1_fromSpectrum : ByteArray := prog_3_method_9_code
def yX1_fromSpectrum : MethodName := ⟨RX1, "fromSpectrum", "([I)V"⟩
abbrev cX1_splitBlock : ByteArray := prog_3_method_10_code
def yX1_splitBlock : MethodName := ⟨RX1, "splitBlock", "([III)V"⟩
abbrev cX1_joinBlock : ByteArray := prog_3_method_11_code
def yX1_joinBlock : MethodName := ⟨RX1, "joinBlock", "([III)V"⟩
def RX2 : String := "TransformProduct$Row"
def TX2 : u_T := fun k => match k with
  | 0 => ("TransformProduct$Row", "cells", "[I", true)
  | _ => ("TransformProduct$Row", "used", "I", false)
def tyX2 : Nat → FieldType := fun k => match k with
  | 0 => .array .int
  | _ => .int
abbrev wsX20 : List Cond := u_ws RX2 TX2 2
theorem nmX2 : ∀ a, a < 2 → ∀ b, b < 2 → a ≠ b → (TX2 a).2.1 ≠ (TX2 b).2.1 := by decide +kernel
theorem tyX2_ok : ∀ k, k < 2 → parseFieldDescriptor (TX2 k).2.2.1 = some (tyX2 k) := by decide +kernel
abbrev cX2_init : ByteArray := prog_4_method_1_code
def yX2_init : MethodName := ⟨RX2, "<init>", "(I)V"⟩
abbrev cX2_count : ByteArray := prog_4_method_2_code
def yX2_count : MethodName := ⟨RX2, "count", "()I"⟩
abbrev cX2_at : ByteArray := prog_4_method_3_code
def yX2_at : MethodName := ⟨RX2, "at", "(I)I"⟩
abbrev cX2_empty : ByteArray := prog_4_method_4_code
def yX2_empty : MethodName := ⟨RX2, "empty", "()V"⟩
abbrev cX2_append : ByteArray := prog_4_method_5_code
def yX2_append : MethodName := ⟨RX2, "append", "(II)Z"⟩
abbrev cX2_copyFrom : ByteArray := prog_4_method_6_code
def yX2_copyFrom : MethodName := ⟨RX2, "copyFrom", "(LTransformProduct$Row;)V"⟩
abbrev cX2_trim : ByteArray := prog_4_method_7_code
def yX2_trim : MethodName := ⟨RX2, "trim", "()V"⟩
abbrev cX2_significant : ByteArray := prog_4_method_8_code
def yX2_significant : MethodName := ⟨RX2, "significant", "()I"⟩
abbrev cX2_comparedTo : ByteArray := prog_4_method_9_code
def yX2_comparedTo : MethodName := ⟨RX2, "comparedTo", "(LTransformProduct$Row;)I"⟩
abbrev cX2_remainder : ByteArray := prog_4_method_10_code
def yX2_remainder : MethodName := ⟨RX2, "remainder", "(I)I"⟩
abbrev cX2_spreadInto : ByteArray := prog_4_method_11_code
def yX2_spreadInto : MethodName := ⟨RX2, "spreadInto", "([I)V"⟩
def RX3 : String := "TransformProduct"
def TX3 : u_T := fun k => match k with
  | 0 => ("TransformProduct", "size", "I", true)
  | 1 => ("TransformProduct", "transformButterflies", "I", true)
  | 2 => ("TransformProduct", "rowA", "LTransformProduct$Row;", true)
  | 3 => ("TransformProduct", "rowB", "LTransformProduct$Row;", true)
  | 4 => ("TransformProduct", "product", "LTransformProduct$Row;", true)
  | 5 => ("TransformProduct", "transforms", "[LTransformProduct$PrimeTransform;", true)
  | 6 => ("TransformProduct", "joiner", "LTransformProduct$Joiner;", true)
  | 7 => ("TransformProduct", "scratch", "[I", true)
  | 8 => ("TransformProduct", "ready", "Z", false)
  | _ => ("TransformProduct", "latestButterflies", "I", false)
def tyX3 : Nat → FieldType := fun k => match k with
  | 0 => .int
  | 1 => .int
  | 2 => .object "TransformProduct$Row"
  | 3 => .object "TransformProduct$Row"
  | 4 => .object "TransformProduct$Row"
  | 5 => .array (.object "TransformProduct$PrimeTransform")
  | 6 => .object "TransformProduct$Joiner"
  | 7 => .array .int
  | 8 => .boolean
  | _ => .int
abbrev wsX30 : List Cond := u_ws RX3 TX3 10
theorem nmX3 : ∀ a, a < 10 → ∀ b, b < 10 → a ≠ b → (TX3 a).2.1 ≠ (TX3 b).2.1 := by decide +kernel
theorem tyX3_ok : ∀ k, k < 10 → parseFieldDescriptor (TX3 k).2.2.1 = some (tyX3 k) := by decide +kernel
abbrev cX3_init : ByteArray := prog_1_method_1_code
def yX3_init : MethodName := ⟨RX3, "<init>", "(I)V"⟩
abbrev cX3_init_ : ByteArray := prog_1_method_2_code
def yX3_init_ : MethodName := ⟨RX3, "init", "()Z"⟩
abbrev cX3_clear : ByteArray := prog_1_method_3_code
def yX3_clear : MethodName := ⟨RX3, "clear", "()V"⟩
abbrev cX3_feedA : ByteArray := prog_1_method_4_code
def yX3_feedA : MethodName := ⟨RX3, "feedA", "(I)Z"⟩
abbrev cX3_feedB : ByteArray := prog_1_method_5_code
def yX3_feedB : MethodName := ⟨RX3, "feedB", "(I)Z"⟩
abbrev cX3_repeat : ByteArray := prog_1_method_6_code
def yX3_repeat : MethodName := ⟨RX3, "repeat", "(III)Z"⟩
abbrev cX3_multiply : ByteArray := prog_1_method_7_code
def yX3_multiply : MethodName := ⟨RX3, "multiply", "()Z"⟩
abbrev cX3_square : ByteArray := prog_1_method_8_code
def yX3_square : MethodName := ⟨RX3, "square", "()Z"⟩
abbrev cX3_length : ByteArray := prog_1_method_9_code
def yX3_length : MethodName := ⟨RX3, "length", "()I"⟩
abbrev cX3_digit : ByteArray := prog_1_method_10_code
def yX3_digit : MethodName := ⟨RX3, "digit", "(I)I"⟩
abbrev cX3_butterflies : ByteArray := prog_1_method_11_code
def yX3_butterflies : MethodName := ⟨RX3, "butterflies", "()I"⟩
abbrev cX3_spectrum : ByteArray := prog_1_method_12_code
def yX3_spectrum : MethodName := ⟨RX3, "spectrum", "(III)I"⟩
abbrev cX3_take : ByteArray := prog_1_method_13_code
def yX3_take : MethodName := ⟨RX3, "take", "(I)Z"⟩
abbrev cX3_give : ByteArray := prog_1_method_14_code
def yX3_give : MethodName := ⟨RX3, "give", "(I)Z"⟩
abbrev cX3_compare : ByteArray := prog_1_method_15_code
def yX3_compare : MethodName := ⟨RX3, "compare", "()I"⟩
abbrev cX3_rest : ByteArray := prog_1_method_16_code
def yX3_rest : MethodName := ⟨RX3, "rest", "(I)I"⟩
abbrev cX3_isRow : ByteArray := prog_1_method_17_code
def yX3_isRow : MethodName := ⟨RX3, "isRow", "(I)Z"⟩
abbrev cX3_rowOf : ByteArray := prog_1_method_18_code
def yX3_rowOf : MethodName := ⟨RX3, "rowOf", "(I)LTransformProduct$Row;"⟩
abbrev cX3_carryInto : ByteArray := prog_1_method_19_code
def yX3_carryInto : MethodName := ⟨RX3, "carryInto", "(I)V"⟩
abbrev cX3_power : ByteArray := prog_1_method_20_code
def yX3_power : MethodName := ⟨RX3, "power", "(JJJ)J"⟩
abbrev cX3_inverse : ByteArray := prog_1_method_21_code
def yX3_inverse : MethodName := ⟨RX3, "inverse", "(JJ)J"⟩
def RX4 : String := "TransformProductModel"
def TX4 : u_T := fun k => match k with
  | 0 => ("TransformProductModel", "log", "I", true)
  | 1 => ("TransformProductModel", "n", "I", true)
  | 2 => ("TransformProductModel", "isReady", "Z", false)
  | 3 => ("TransformProductModel", "digits", "[I", true)
  | 4 => ("TransformProductModel", "counts", "[I", true)
  | 5 => ("TransformProductModel", "product", "[I", true)
  | 6 => ("TransformProductModel", "length", "I", false)
  | _ => ("TransformProductModel", "taken", "I", false)
def tyX4 : Nat → FieldType := fun k => match k with
  | 0 => .int
  | 1 => .int
  | 2 => .boolean
  | 3 => .array .int
  | 4 => .array .int
  | 5 => .array .int
  | 6 => .int
  | _ => .int
abbrev wsX40 : List Cond := u_ws RX4 TX4 8
theorem nmX4 : ∀ a, a < 8 → ∀ b, b < 8 → a ≠ b → (TX4 a).2.1 ≠ (TX4 b).2.1 := by decide +kernel
theorem tyX4_ok : ∀ k, k < 8 → parseFieldDescriptor (TX4 k).2.2.1 = some (tyX4 k) := by decide +kernel
abbrev cX4_init : ByteArray := prog_6_method_1_code
def yX4_init : MethodName := ⟨RX4, "<init>", "(I)V"⟩
abbrev cX4_init_ : ByteArray := prog_6_method_3_code
def yX4_init_ : MethodName := ⟨RX4, "init", "()Z"⟩
abbrev cX4_clear : ByteArray := prog_6_method_4_code
def yX4_clear : MethodName := ⟨RX4, "clear", "()V"⟩
abbrev cX4_isDigit : ByteArray := prog_6_method_5_code
def yX4_isDigit : MethodName := ⟨RX4, "isDigit", "(I)Z"⟩
abbrev cX4_isRow : ByteArray := prog_6_method_6_code
def yX4_isRow : MethodName := ⟨RX4, "isRow", "(I)Z"⟩
abbrev cX4_repeat : ByteArray := prog_6_method_7_code
def yX4_repeat : MethodName := ⟨RX4, "repeat", "(III)Z"⟩
abbrev cX4_feedA : ByteArray := prog_6_method_8_code
def yX4_feedA : MethodName := ⟨RX4, "feedA", "(I)Z"⟩
abbrev cX4_feedB : ByteArray := prog_6_method_9_code
def yX4_feedB : MethodName := ⟨RX4, "feedB", "(I)Z"⟩
abbrev cX4_trim : ByteArray := prog_6_method_10_code
def yX4_trim : MethodName := ⟨RX4, "trim", "()V"⟩
abbrev cX4_by : ByteArray := prog_6_method_11_code
def yX4_by : MethodName := ⟨RX4, "by", "(II)V"⟩
abbrev cX4_multiply : ByteArray := prog_6_method_12_code
def yX4_multiply : MethodName := ⟨RX4, "multiply", "()Z"⟩
abbrev cX4_square : ByteArray := prog_6_method_13_code
def yX4_square : MethodName := ⟨RX4, "square", "()Z"⟩
abbrev cX4_length : ByteArray := prog_6_method_14_code
def yX4_length : MethodName := ⟨RX4, "length", "()I"⟩
abbrev cX4_digit : ByteArray := prog_6_method_15_code
def yX4_digit : MethodName := ⟨RX4, "digit", "(I)I"⟩
abbrev cX4_butterflies : ByteArray := prog_6_method_16_code
def yX4_butterflies : MethodName := ⟨RX4, "butterflies", "()I"⟩
abbrev cX4_primeOf : ByteArray := prog_6_method_17_code
def yX4_primeOf : MethodName := ⟨RX4, "primeOf", "(I)J"⟩
abbrev cX4_power : ByteArray := prog_6_method_18_code
def yX4_power : MethodName := ⟨RX4, "power", "(JJJ)J"⟩
abbrev cX4_spectrum : ByteArray := prog_6_method_19_code
def yX4_spectrum : MethodName := ⟨RX4, "spectrum", "(III)I"⟩
abbrev cX4_take : ByteArray := prog_6_method_20_code
def yX4_take : MethodName := ⟨RX4, "take", "(I)Z"⟩
abbrev cX4_give : ByteArray := prog_6_method_21_code
def yX4_give : MethodName := ⟨RX4, "give", "(I)Z"⟩
abbrev cX4_digitOf : ByteArray := prog_6_method_22_code
def yX4_digitOf : MethodName := ⟨RX4, "digitOf", "(II)I"⟩
abbrev cX4_compare : ByteArray := prog_6_method_23_code
def yX4_compare : MethodName := ⟨RX4, "compare", "()I"⟩
abbrev cX4_rest : ByteArray := prog_6_method_24_code
def yX4_rest : MethodName := ⟨RX4, "rest", "(I)I"⟩
def RJ9 : String := "java/lang/Math"
def TJ9 : u_T := fun k => match k with
  | _ => ("", "", "", false)
def tyJ9 : Nat → FieldType := fun k => match k with
  | _ => .int
abbrev wsJ90 : List Cond := u_ws RJ9 TJ9 0
theorem nmJ9 : ∀ a, a < 0 → ∀ b, b < 0 → a ≠ b → (TJ9 a).2.1 ≠ (TJ9 b).2.1 := by decide +kernel
theorem tyJ9_ok : ∀ k, k < 0 → parseFieldDescriptor (TJ9 k).2.2.1 = some (tyJ9 k) := by decide +kernel
abbrev cJ9_floorMod_f86c9 : ByteArray := prog_7_method_52_code
def yJ9_floorMod_f86c9 : MethodName := ⟨RJ9, "floorMod", "(JJ)J"⟩
def RJ10 : String := "java/lang/System"
def TJ10 : u_T := fun k => match k with
  | _ => ("", "", "", false)
def tyJ10 : Nat → FieldType := fun k => match k with
  | _ => .int
abbrev wsJ100 : List Cond := u_ws RJ10 TJ10 0
theorem nmJ10 : ∀ a, a < 0 → ∀ b, b < 0 → a ≠ b → (TJ10 a).2.1 ≠ (TJ10 b).2.1 := by decide +kernel
theorem tyJ10_ok : ∀ k, k < 0 → parseFieldDescriptor (TJ10 k).2.2.1 = some (tyJ10 k) := by decide +kernel
def RJ7 : String := "java/util/Arrays"
def TJ7 : u_T := fun k => match k with
  | _ => ("", "", "", false)
def tyJ7 : Nat → FieldType := fun k => match k with
  | _ => .int
abbrev wsJ70 : List Cond := u_ws RJ7 TJ7 0
theorem nmJ7 : ∀ a, a < 0 → ∀ b, b < 0 → a ≠ b → (TJ7 a).2.1 ≠ (TJ7 b).2.1 := by decide +kernel
theorem tyJ7_ok : ∀ k, k < 0 → parseFieldDescriptor (TJ7 k).2.2.1 = some (tyJ7 k) := by decide +kernel
abbrev cJ7_rangeCheck_23922 : ByteArray := prog_9_method_30_code
def yJ7_rangeCheck_23922 : MethodName := ⟨RJ7, "rangeCheck", "(III)V"⟩
abbrev cJ7_fill_fda19 : ByteArray := prog_9_method_104_code
def yJ7_fill_fda19 : MethodName := ⟨RJ7, "fill", "([IIII)V"⟩
def RL : String := "TransformProductLaw"
abbrev cL_cell : ByteArray := method_2_code
def yL_cell : MethodName := ⟨RL, "cell", "([II)I"⟩
abbrev cL_law : ByteArray := code
def yL_law : MethodName := ⟨RL, "law", "([I)Z"⟩
def wsX0_init : List Cond := .code yX0_init cX0_init 1 none :: ([.methodLink RX0 1 objectInit, .instanceMethod objectInit, .code objectInit ⟨#[0xb1]⟩ 1 none, .fieldLink RX0 7 "TransformProduct$Joiner" "firstInverse" "J", .fieldLink RX0 13 "TransformProduct$Joiner" "bothInverse" "J"] ++ wsX00)
def wsX3_power : List Cond := .code yX3_power cX3_power 11 (some .long) :: ([])
def wsX3_inverse : List Cond := .code yX3_inverse cX3_inverse 4 (some .long) :: ([.constantLong RX3 126 (2), .methodLink RX3 128 yX3_power, .static yX3_power, .initialized RX3, .code yX3_power cX3_power 11 (some .long)])
def wsX0_prepare : List Cond := .code yX0_prepare cX0_prepare 1 none :: ([.fieldLink RX0 7 "TransformProduct$Joiner" "firstInverse" "J", .fieldLink RX0 13 "TransformProduct$Joiner" "bothInverse" "J", .static yX3_inverse, .initialized RX3, .code yX3_inverse cX3_inverse 4 (some .long), .constantLong RX3 126 (2), .methodLink RX3 128 yX3_power, .static yX3_power, .code yX3_power cX3_power 11 (some .long)] ++ wsX00)
def wsJ9_floorMod_f86c9 : List Cond := .code yJ9_floorMod_f86c9 cJ9_floorMod_f86c9 6 (some .long) :: ([])
def wsX0_join : List Cond := .code yX0_join cX0_join 13 (some .long) :: ([.fieldLink RX0 7 "TransformProduct$Joiner" "firstInverse" "J", .fieldLink RX0 13 "TransformProduct$Joiner" "bothInverse" "J", .methodLink RX0 26 yJ9_floorMod_f86c9, .static yJ9_floorMod_f86c9, .initialized RJ9, .code yJ9_floorMod_f86c9 cJ9_floorMod_f86c9 6 (some .long)] ++ wsX00)
def wsX1_init : List Cond := .code yX1_init cX1_init 3 none :: ([.methodLink RX1 3 objectInit, .instanceMethod objectInit, .code objectInit ⟨#[0xb1]⟩ 1 none, .fieldLink RX1 9 "TransformProduct$PrimeTransform" "prime" "I", .fieldLink RX1 15 "TransformProduct$PrimeTransform" "log" "I", .fieldLink RX1 18 "TransformProduct$PrimeTransform" "size" "I", .arrayClass .int, .fieldLink RX1 21 "TransformProduct$PrimeTransform" "roots" "[I", .fieldLink RX1 25 "TransformProduct$PrimeTransform" "values" "[I", .fieldLink RX1 28 "TransformProduct$PrimeTransform" "inverseSize" "J"] ++ wsX10)
def wsX1_prepare : List Cond := .code yX1_prepare cX1_prepare 6 none :: ([.constantLong RX1 32 (3), .fieldLink RX1 9 "TransformProduct$PrimeTransform" "prime" "I", .fieldLink RX1 18 "TransformProduct$PrimeTransform" "size" "I", .fieldLink RX1 21 "TransformProduct$PrimeTransform" "roots" "[I", .fieldLink RX1 28 "TransformProduct$PrimeTransform" "inverseSize" "J", .static yX3_power, .initialized RX3, .code yX3_power cX3_power 11 (some .long), .static yX3_inverse, .code yX3_inverse cX3_inverse 4 (some .long), .constantLong RX3 126 (2), .methodLink RX3 128 yX3_power] ++ wsX10)
def wsJ7_rangeCheck_23922 : List Cond := .code yJ7_rangeCheck_23922 cJ7_rangeCheck_23922 3 none :: ([])
def wsJ7_fill_fda19 : List Cond := .code yJ7_fill_fda19 cJ7_fill_fda19 5 none :: ([.methodLink RJ7 13 yJ7_rangeCheck_23922, .static yJ7_rangeCheck_23922, .initialized RJ7, .code yJ7_rangeCheck_23922 cJ7_rangeCheck_23922 3 none])
def wsX2_spreadInto : List Cond := .code yX2_spreadInto cX2_spreadInto 2 none :: ([.fieldLink RX2 9 "TransformProduct$Row" "cells" "[I", .fieldLink RX2 15 "TransformProduct$Row" "used" "I", .methodLink RX2 26 arraycopyName, .native arraycopyName, .static arraycopyName, .initialized "java/lang/System", .methodLink RX2 20 yJ7_fill_fda19, .static yJ7_fill_fda19, .initialized RJ7, .code yJ7_fill_fda19 cJ7_fill_fda19 5 none, .methodLink RJ7 13 yJ7_rangeCheck_23922, .static yJ7_rangeCheck_23922, .code yJ7_rangeCheck_23922 cJ7_rangeCheck_23922 3 none] ++ wsX20)
def wsX1_splitBlock : List Cond := .code yX1_splitBlock cX1_splitBlock 12 none :: ([.fieldLink RX1 18 "TransformProduct$PrimeTransform" "size" "I", .fieldLink RX1 9 "TransformProduct$PrimeTransform" "prime" "I", .fieldLink RX1 21 "TransformProduct$PrimeTransform" "roots" "[I"] ++ wsX10)
def wsX1_toSpectrum : List Cond := .code yX1_toSpectrum cX1_toSpectrum 4 none :: ([.fieldLink RX1 15 "TransformProduct$PrimeTransform" "log" "I", .methodLink RX1 65 yX1_splitBlock, .instanceMethod yX1_splitBlock, .selects RX1 yX1_splitBlock yX1_splitBlock, .initialized RX1, .code yX1_splitBlock cX1_splitBlock 12 none, .fieldLink RX1 18 "TransformProduct$PrimeTransform" "size" "I", .fieldLink RX1 9 "TransformProduct$PrimeTransform" "prime" "I", .fieldLink RX1 21 "TransformProduct$PrimeTransform" "roots" "[I"] ++ wsX10)
def wsX1_multiplyEach : List Cond := .code yX1_multiplyEach cX1_multiplyEach 3 none :: ([.fieldLink RX1 18 "TransformProduct$PrimeTransform" "size" "I", .fieldLink RX1 25 "TransformProduct$PrimeTransform" "values" "[I", .fieldLink RX1 9 "TransformProduct$PrimeTransform" "prime" "I"] ++ wsX10)
def wsX1_joinBlock : List Cond := .code yX1_joinBlock cX1_joinBlock 11 none :: ([.fieldLink RX1 18 "TransformProduct$PrimeTransform" "size" "I", .fieldLink RX1 21 "TransformProduct$PrimeTransform" "roots" "[I", .fieldLink RX1 9 "TransformProduct$PrimeTransform" "prime" "I"] ++ wsX10)
def wsX1_fromSpectrum : List Cond := .code yX1_fromSpectrum cX1_fromSpectrum 4 none :: ([.fieldLink RX1 15 "TransformProduct$PrimeTransform" "log" "I", .methodLink RX1 69 yX1_joinBlock, .instanceMethod yX1_joinBlock, .selects RX1 yX1_joinBlock yX1_joinBlock, .initialized RX1, .code yX1_joinBlock cX1_joinBlock 11 none, .fieldLink RX1 18 "TransformProduct$PrimeTransform" "size" "I", .fieldLink RX1 21 "TransformProduct$PrimeTransform" "roots" "[I", .fieldLink RX1 9 "TransformProduct$PrimeTransform" "prime" "I"] ++ wsX10)
def wsX1_convolve_r1 : List Cond := [Cond.fieldLink RX1 25 "TransformProduct$PrimeTransform" "values" "[I", Cond.methodLink RX1 42 yX2_spreadInto, Cond.instanceMethod yX2_spreadInto, Cond.selects RX2 yX2_spreadInto yX2_spreadInto, Cond.initialized RX2, Cond.code yX2_spreadInto cX2_spreadInto 2 none, Cond.fieldLink RX2 9 "TransformProduct$Row" "cells" "[I", Cond.fieldLink RX2 15 "TransformProduct$Row" "used" "I", Cond.methodLink RX2 26 arraycopyName, Cond.native arraycopyName, Cond.static arraycopyName, Cond.initialized "java/lang/System", Cond.methodLink RX2 20 yJ7_fill_fda19, Cond.static yJ7_fill_fda19, Cond.initialized RJ7, Cond.code yJ7_fill_fda19 cJ7_fill_fda19 5 none, Cond.methodLink RJ7 13 yJ7_rangeCheck_23922, Cond.static yJ7_rangeCheck_23922, Cond.code yJ7_rangeCheck_23922 cJ7_rangeCheck_23922 3 none, Cond.methodLink RX1 48 yX1_toSpectrum, Cond.instanceMethod yX1_toSpectrum, Cond.selects RX1 yX1_toSpectrum yX1_toSpectrum, Cond.initialized RX1, Cond.code yX1_toSpectrum cX1_toSpectrum 4 none]
def wsX1_convolve_r2 : List Cond := [Cond.fieldLink RX1 15 "TransformProduct$PrimeTransform" "log" "I", Cond.methodLink RX1 65 yX1_splitBlock, Cond.instanceMethod yX1_splitBlock, Cond.selects RX1 yX1_splitBlock yX1_splitBlock, Cond.code yX1_splitBlock cX1_splitBlock 12 none, Cond.fieldLink RX1 18 "TransformProduct$PrimeTransform" "size" "I", Cond.fieldLink RX1 9 "TransformProduct$PrimeTransform" "prime" "I", Cond.fieldLink RX1 21 "TransformProduct$PrimeTransform" "roots" "[I", Cond.methodLink RX1 51 yX1_multiplyEach, Cond.instanceMethod yX1_multiplyEach, Cond.selects RX1 yX1_multiplyEach yX1_multiplyEach, Cond.code yX1_multiplyEach cX1_multiplyEach 3 none, Cond.methodLink RX1 54 yX1_fromSpectrum, Cond.instanceMethod yX1_fromSpectrum, Cond.selects RX1 yX1_fromSpectrum yX1_fromSpectrum, Cond.code yX1_fromSpectrum cX1_fromSpectrum 4 none, Cond.methodLink RX1 69 yX1_joinBlock, Cond.instanceMethod yX1_joinBlock, Cond.selects RX1 yX1_joinBlock yX1_joinBlock, Cond.code yX1_joinBlock cX1_joinBlock 11 none]
def wsX1_convolve : List Cond := .code yX1_convolve cX1_convolve 4 none :: ((wsX1_convolve_r1 ++ wsX1_convolve_r2) ++ wsX10 ++ wsX20)
def wsX1_convolveWithItself_r1 : List Cond := [Cond.fieldLink RX1 25 "TransformProduct$PrimeTransform" "values" "[I", Cond.methodLink RX1 42 yX2_spreadInto, Cond.instanceMethod yX2_spreadInto, Cond.selects RX2 yX2_spreadInto yX2_spreadInto, Cond.initialized RX2, Cond.code yX2_spreadInto cX2_spreadInto 2 none, Cond.fieldLink RX2 9 "TransformProduct$Row" "cells" "[I", Cond.fieldLink RX2 15 "TransformProduct$Row" "used" "I", Cond.methodLink RX2 26 arraycopyName, Cond.native arraycopyName, Cond.static arraycopyName, Cond.initialized "java/lang/System", Cond.methodLink RX2 20 yJ7_fill_fda19, Cond.static yJ7_fill_fda19, Cond.initialized RJ7, Cond.code yJ7_fill_fda19 cJ7_fill_fda19 5 none, Cond.methodLink RJ7 13 yJ7_rangeCheck_23922, Cond.static yJ7_rangeCheck_23922, Cond.code yJ7_rangeCheck_23922 cJ7_rangeCheck_23922 3 none, Cond.methodLink RX1 48 yX1_toSpectrum, Cond.instanceMethod yX1_toSpectrum, Cond.selects RX1 yX1_toSpectrum yX1_toSpectrum, Cond.initialized RX1, Cond.code yX1_toSpectrum cX1_toSpectrum 4 none]
def wsX1_convolveWithItself_r2 : List Cond := [Cond.fieldLink RX1 15 "TransformProduct$PrimeTransform" "log" "I", Cond.methodLink RX1 65 yX1_splitBlock, Cond.instanceMethod yX1_splitBlock, Cond.selects RX1 yX1_splitBlock yX1_splitBlock, Cond.code yX1_splitBlock cX1_splitBlock 12 none, Cond.fieldLink RX1 18 "TransformProduct$PrimeTransform" "size" "I", Cond.fieldLink RX1 9 "TransformProduct$PrimeTransform" "prime" "I", Cond.fieldLink RX1 21 "TransformProduct$PrimeTransform" "roots" "[I", Cond.methodLink RX1 51 yX1_multiplyEach, Cond.instanceMethod yX1_multiplyEach, Cond.selects RX1 yX1_multiplyEach yX1_multiplyEach, Cond.code yX1_multiplyEach cX1_multiplyEach 3 none, Cond.methodLink RX1 54 yX1_fromSpectrum, Cond.instanceMethod yX1_fromSpectrum, Cond.selects RX1 yX1_fromSpectrum yX1_fromSpectrum, Cond.code yX1_fromSpectrum cX1_fromSpectrum 4 none, Cond.methodLink RX1 69 yX1_joinBlock, Cond.instanceMethod yX1_joinBlock, Cond.selects RX1 yX1_joinBlock yX1_joinBlock, Cond.code yX1_joinBlock cX1_joinBlock 11 none]
def wsX1_convolveWithItself : List Cond := .code yX1_convolveWithItself cX1_convolveWithItself 2 none :: ((wsX1_convolveWithItself_r1 ++ wsX1_convolveWithItself_r2) ++ wsX10 ++ wsX20)
def wsX1_coefficient : List Cond := .code yX1_coefficient cX1_coefficient 2 (some .int) :: ([.fieldLink RX1 25 "TransformProduct$PrimeTransform" "values" "[I", .fieldLink RX1 18 "TransformProduct$PrimeTransform" "size" "I", .fieldLink RX1 28 "TransformProduct$PrimeTransform" "inverseSize" "J", .fieldLink RX1 9 "TransformProduct$PrimeTransform" "prime" "I"] ++ wsX10)
def wsX2_count : List Cond := .code yX2_count cX2_count 1 (some .int) :: ([.fieldLink RX2 15 "TransformProduct$Row" "used" "I"] ++ wsX20)
def wsX2_at : List Cond := .code yX2_at cX2_at 2 (some .int) :: ([.fieldLink RX2 9 "TransformProduct$Row" "cells" "[I"] ++ wsX20)
def wsX1_spectrumNumber : List Cond := .code yX1_spectrumNumber cX1_spectrumNumber 8 (some .int) :: ([.fieldLink RX1 21 "TransformProduct$PrimeTransform" "roots" "[I", .fieldLink RX1 9 "TransformProduct$PrimeTransform" "prime" "I", .methodLink RX1 57 yX2_count, .instanceMethod yX2_count, .selects RX2 yX2_count yX2_count, .initialized RX2, .code yX2_count cX2_count 1 (some .int), .fieldLink RX2 15 "TransformProduct$Row" "used" "I", .methodLink RX1 61 yX2_at, .instanceMethod yX2_at, .selects RX2 yX2_at yX2_at, .code yX2_at cX2_at 2 (some .int), .fieldLink RX2 9 "TransformProduct$Row" "cells" "[I"] ++ wsX10 ++ wsX20)
def wsX2_init : List Cond := .code yX2_init cX2_init 2 none :: ([.methodLink RX2 3 objectInit, .instanceMethod objectInit, .code objectInit ⟨#[0xb1]⟩ 1 none, .arrayClass .int, .fieldLink RX2 9 "TransformProduct$Row" "cells" "[I", .fieldLink RX2 15 "TransformProduct$Row" "used" "I"] ++ wsX20)
def wsX2_empty : List Cond := .code yX2_empty cX2_empty 1 none :: ([.fieldLink RX2 15 "TransformProduct$Row" "used" "I"] ++ wsX20)
def wsX2_append : List Cond := .code yX2_append cX2_append 3 (some .boolean) :: ([.constant RX2 19 (32768), .fieldLink RX2 9 "TransformProduct$Row" "cells" "[I", .fieldLink RX2 15 "TransformProduct$Row" "used" "I", .methodLink RX2 20 yJ7_fill_fda19, .static yJ7_fill_fda19, .initialized RJ7, .code yJ7_fill_fda19 cJ7_fill_fda19 5 none, .methodLink RJ7 13 yJ7_rangeCheck_23922, .static yJ7_rangeCheck_23922, .code yJ7_rangeCheck_23922 cJ7_rangeCheck_23922 3 none] ++ wsX20)
def wsX2_copyFrom : List Cond := .code yX2_copyFrom cX2_copyFrom 2 none :: ([.fieldLink RX2 9 "TransformProduct$Row" "cells" "[I", .fieldLink RX2 15 "TransformProduct$Row" "used" "I", .methodLink RX2 26 arraycopyName, .native arraycopyName, .static arraycopyName, .initialized "java/lang/System"] ++ wsX20)
def wsX2_significant : List Cond := .code yX2_significant cX2_significant 2 (some .int) :: ([.fieldLink RX2 15 "TransformProduct$Row" "used" "I", .fieldLink RX2 9 "TransformProduct$Row" "cells" "[I"] ++ wsX20)
def wsX2_trim : List Cond := .code yX2_trim cX2_trim 1 none :: ([.fieldLink RX2 15 "TransformProduct$Row" "used" "I", .methodLink RX2 32 yX2_significant, .instanceMethod yX2_significant, .selects RX2 yX2_significant yX2_significant, .initialized RX2, .code yX2_significant cX2_significant 2 (some .int), .fieldLink RX2 9 "TransformProduct$Row" "cells" "[I"] ++ wsX20)
def wsX2_comparedTo : List Cond := .code yX2_comparedTo cX2_comparedTo 5 (some .int) :: ([.fieldLink RX2 9 "TransformProduct$Row" "cells" "[I", .methodLink RX2 32 yX2_significant, .instanceMethod yX2_significant, .selects RX2 yX2_significant yX2_significant, .initialized RX2, .code yX2_significant cX2_significant 2 (some .int), .fieldLink RX2 15 "TransformProduct$Row" "used" "I"] ++ wsX20)
def wsX2_remainder : List Cond := .code yX2_remainder cX2_remainder 5 (some .int) :: ([.fieldLink RX2 15 "TransformProduct$Row" "used" "I", .constantLong RX2 36 (32768), .fieldLink RX2 9 "TransformProduct$Row" "cells" "[I"] ++ wsX20)
def wsX3_init_r1 : List Cond := [Cond.methodLink RX3 3 objectInit, Cond.instanceMethod objectInit, Cond.code objectInit ⟨#[0xb1]⟩ 1 none, Cond.fieldLink RX3 9 "TransformProduct" "size" "I", Cond.fieldLink RX3 13 "TransformProduct" "transformButterflies" "I", Cond.classLink RX3 16 RX2, Cond.instantiable RX2 2, Cond.initialized RX2, Cond.fieldLink RX3 21 "TransformProduct" "rowA" "LTransformProduct$Row;", Cond.fieldLink RX3 25 "TransformProduct" "rowB" "LTransformProduct$Row;", Cond.fieldLink RX3 28 "TransformProduct" "product" "LTransformProduct$Row;", Cond.fieldLink RX3 31 "TransformProduct" "PRIMES" "[I", Cond.classLink RX3 35 RX1, Cond.fieldLink RX3 37 "TransformProduct" "transforms" "[LTransformProduct$PrimeTransform;", Cond.instantiable RX1 6, Cond.initialized RX1, Cond.classLink RX3 44 RX0, Cond.instantiable RX0 2, Cond.initialized RX0, Cond.fieldLink RX3 47 "TransformProduct" "joiner" "LTransformProduct$Joiner;", Cond.arrayClass .int, Cond.fieldLink RX3 51 "TransformProduct" "scratch" "[I", Cond.fieldLink RX3 54 "TransformProduct" "ready" "Z", Cond.fieldLink RX3 58 "TransformProduct" "latestButterflies" "I"]
def wsX3_init_r2 : List Cond := [Cond.methodLink RX3 18 yX2_init, Cond.instanceMethod yX2_init, Cond.code yX2_init cX2_init 2 none, Cond.methodLink RX2 3 objectInit, Cond.fieldLink RX2 9 "TransformProduct$Row" "cells" "[I", Cond.fieldLink RX2 15 "TransformProduct$Row" "used" "I", Cond.methodLink RX3 41 yX1_init, Cond.instanceMethod yX1_init, Cond.code yX1_init cX1_init 3 none, Cond.methodLink RX1 3 objectInit, Cond.fieldLink RX1 9 "TransformProduct$PrimeTransform" "prime" "I", Cond.fieldLink RX1 15 "TransformProduct$PrimeTransform" "log" "I", Cond.fieldLink RX1 18 "TransformProduct$PrimeTransform" "size" "I", Cond.fieldLink RX1 21 "TransformProduct$PrimeTransform" "roots" "[I", Cond.fieldLink RX1 25 "TransformProduct$PrimeTransform" "values" "[I", Cond.fieldLink RX1 28 "TransformProduct$PrimeTransform" "inverseSize" "J", Cond.methodLink RX3 46 yX0_init, Cond.instanceMethod yX0_init, Cond.code yX0_init cX0_init 1 none, Cond.methodLink RX0 1 objectInit, Cond.fieldLink RX0 7 "TransformProduct$Joiner" "firstInverse" "J", Cond.fieldLink RX0 13 "TransformProduct$Joiner" "bothInverse" "J"]
def wsX3_init : List Cond := .code yX3_init cX3_init 4 none :: ((wsX3_init_r1 ++ wsX3_init_r2) ++ wsX30 ++ wsX20 ++ wsX10 ++ wsX00)
def wsX3_init__r1 : List Cond := [Cond.fieldLink RX3 54 "TransformProduct" "ready" "Z", Cond.fieldLink RX3 37 "TransformProduct" "transforms" "[LTransformProduct$PrimeTransform;", Cond.fieldLink RX3 47 "TransformProduct" "joiner" "LTransformProduct$Joiner;", Cond.methodLink RX3 61 yX1_prepare, Cond.instanceMethod yX1_prepare, Cond.selects RX1 yX1_prepare yX1_prepare, Cond.initialized RX1, Cond.code yX1_prepare cX1_prepare 6 none, Cond.constantLong RX1 32 (3), Cond.fieldLink RX1 9 "TransformProduct$PrimeTransform" "prime" "I", Cond.fieldLink RX1 18 "TransformProduct$PrimeTransform" "size" "I", Cond.fieldLink RX1 21 "TransformProduct$PrimeTransform" "roots" "[I", Cond.fieldLink RX1 28 "TransformProduct$PrimeTransform" "inverseSize" "J", Cond.static yX3_power, Cond.initialized RX3, Cond.code yX3_power cX3_power 11 (some .long), Cond.static yX3_inverse, Cond.code yX3_inverse cX3_inverse 4 (some .long), Cond.constantLong RX3 126 (2), Cond.methodLink RX3 128 yX3_power, Cond.methodLink RX3 64 yX0_prepare, Cond.instanceMethod yX0_prepare, Cond.selects RX0 yX0_prepare yX0_prepare, Cond.initialized RX0]
def wsX3_init__r2 : List Cond := [Cond.code yX0_prepare cX0_prepare 1 none, Cond.fieldLink RX0 7 "TransformProduct$Joiner" "firstInverse" "J", Cond.fieldLink RX0 13 "TransformProduct$Joiner" "bothInverse" "J"]
def wsX3_init_ : List Cond := .code yX3_init_ cX3_init_ 2 (some .boolean) :: ((wsX3_init__r1 ++ wsX3_init__r2) ++ wsX30 ++ wsX10 ++ wsX00)
def wsX3_clear : List Cond := .code yX3_clear cX3_clear 1 none :: ([.fieldLink RX3 21 "TransformProduct" "rowA" "LTransformProduct$Row;", .fieldLink RX3 25 "TransformProduct" "rowB" "LTransformProduct$Row;", .fieldLink RX3 28 "TransformProduct" "product" "LTransformProduct$Row;", .fieldLink RX3 58 "TransformProduct" "latestButterflies" "I", .methodLink RX3 65 yX2_empty, .instanceMethod yX2_empty, .selects RX2 yX2_empty yX2_empty, .initialized RX2, .code yX2_empty cX2_empty 1 none, .fieldLink RX2 15 "TransformProduct$Row" "used" "I"] ++ wsX30 ++ wsX20)
def wsX3_feedA : List Cond := .code yX3_feedA cX3_feedA 2 (some .boolean) :: ([.fieldLink RX3 21 "TransformProduct" "rowA" "LTransformProduct$Row;", .methodLink RX3 68 yX2_append, .instanceMethod yX2_append, .selects RX2 yX2_append yX2_append, .initialized RX2, .code yX2_append cX2_append 3 (some .boolean), .constant RX2 19 (32768), .fieldLink RX2 9 "TransformProduct$Row" "cells" "[I", .fieldLink RX2 15 "TransformProduct$Row" "used" "I", .methodLink RX2 20 yJ7_fill_fda19, .static yJ7_fill_fda19, .initialized RJ7, .code yJ7_fill_fda19 cJ7_fill_fda19 5 none, .methodLink RJ7 13 yJ7_rangeCheck_23922, .static yJ7_rangeCheck_23922, .code yJ7_rangeCheck_23922 cJ7_rangeCheck_23922 3 none] ++ wsX30 ++ wsX20)
def wsX3_feedB : List Cond := .code yX3_feedB cX3_feedB 2 (some .boolean) :: ([.fieldLink RX3 25 "TransformProduct" "rowB" "LTransformProduct$Row;", .methodLink RX3 68 yX2_append, .instanceMethod yX2_append, .selects RX2 yX2_append yX2_append, .initialized RX2, .code yX2_append cX2_append 3 (some .boolean), .constant RX2 19 (32768), .fieldLink RX2 9 "TransformProduct$Row" "cells" "[I", .fieldLink RX2 15 "TransformProduct$Row" "used" "I", .methodLink RX2 20 yJ7_fill_fda19, .static yJ7_fill_fda19, .initialized RJ7, .code yJ7_fill_fda19 cJ7_fill_fda19 5 none, .methodLink RJ7 13 yJ7_rangeCheck_23922, .static yJ7_rangeCheck_23922, .code yJ7_rangeCheck_23922 cJ7_rangeCheck_23922 3 none] ++ wsX30 ++ wsX20)
def wsX3_isRow : List Cond := .code yX3_isRow cX3_isRow 1 (some .boolean) :: ([])
def wsX3_rowOf : List Cond := .code yX3_rowOf cX3_rowOf 2 (some (.object "TransformProduct$Row")) :: ([.fieldLink RX3 21 "TransformProduct" "rowA" "LTransformProduct$Row;", .fieldLink RX3 25 "TransformProduct" "rowB" "LTransformProduct$Row;"] ++ wsX30)
def wsX3_repeat_r1 : List Cond := [Cond.methodLink RX3 72 yX3_isRow, Cond.static yX3_isRow, Cond.initialized RX3, Cond.code yX3_isRow cX3_isRow 1 (some .boolean), Cond.methodLink RX3 76 yX3_rowOf, Cond.instanceMethod yX3_rowOf, Cond.selects RX3 yX3_rowOf yX3_rowOf, Cond.code yX3_rowOf cX3_rowOf 2 (some (.object "TransformProduct$Row")), Cond.fieldLink RX3 21 "TransformProduct" "rowA" "LTransformProduct$Row;", Cond.fieldLink RX3 25 "TransformProduct" "rowB" "LTransformProduct$Row;", Cond.methodLink RX3 68 yX2_append, Cond.instanceMethod yX2_append, Cond.selects RX2 yX2_append yX2_append, Cond.initialized RX2, Cond.code yX2_append cX2_append 3 (some .boolean), Cond.constant RX2 19 (32768), Cond.fieldLink RX2 9 "TransformProduct$Row" "cells" "[I", Cond.fieldLink RX2 15 "TransformProduct$Row" "used" "I", Cond.methodLink RX2 20 yJ7_fill_fda19, Cond.static yJ7_fill_fda19, Cond.initialized RJ7, Cond.code yJ7_fill_fda19 cJ7_fill_fda19 5 none, Cond.methodLink RJ7 13 yJ7_rangeCheck_23922, Cond.static yJ7_rangeCheck_23922]
def wsX3_repeat_r2 : List Cond := [Cond.code yJ7_rangeCheck_23922 cJ7_rangeCheck_23922 3 none]
def wsX3_repeat : List Cond := .code yX3_repeat cX3_repeat 4 (some .boolean) :: ((wsX3_repeat_r1 ++ wsX3_repeat_r2) ++ wsX30 ++ wsX20)
def wsX3_carryInto_r1 : List Cond := [Cond.fieldLink RX3 28 "TransformProduct" "product" "LTransformProduct$Row;", Cond.fieldLink RX3 47 "TransformProduct" "joiner" "LTransformProduct$Joiner;", Cond.fieldLink RX3 37 "TransformProduct" "transforms" "[LTransformProduct$PrimeTransform;", Cond.constantLong RX3 124 (32767), Cond.methodLink RX3 65 yX2_empty, Cond.instanceMethod yX2_empty, Cond.selects RX2 yX2_empty yX2_empty, Cond.initialized RX2, Cond.code yX2_empty cX2_empty 1 none, Cond.fieldLink RX2 15 "TransformProduct$Row" "used" "I", Cond.methodLink RX3 117 yX1_coefficient, Cond.instanceMethod yX1_coefficient, Cond.selects RX1 yX1_coefficient yX1_coefficient, Cond.initialized RX1, Cond.code yX1_coefficient cX1_coefficient 2 (some .int), Cond.fieldLink RX1 25 "TransformProduct$PrimeTransform" "values" "[I", Cond.fieldLink RX1 18 "TransformProduct$PrimeTransform" "size" "I", Cond.fieldLink RX1 28 "TransformProduct$PrimeTransform" "inverseSize" "J", Cond.fieldLink RX1 9 "TransformProduct$PrimeTransform" "prime" "I", Cond.methodLink RX3 120 yX0_join, Cond.instanceMethod yX0_join, Cond.selects RX0 yX0_join yX0_join, Cond.initialized RX0, Cond.code yX0_join cX0_join 13 (some .long)]
def wsX3_carryInto_r2 : List Cond := [Cond.fieldLink RX0 7 "TransformProduct$Joiner" "firstInverse" "J", Cond.fieldLink RX0 13 "TransformProduct$Joiner" "bothInverse" "J", Cond.methodLink RX0 26 yJ9_floorMod_f86c9, Cond.static yJ9_floorMod_f86c9, Cond.initialized RJ9, Cond.code yJ9_floorMod_f86c9 cJ9_floorMod_f86c9 6 (some .long), Cond.methodLink RX3 68 yX2_append, Cond.instanceMethod yX2_append, Cond.selects RX2 yX2_append yX2_append, Cond.code yX2_append cX2_append 3 (some .boolean), Cond.constant RX2 19 (32768), Cond.fieldLink RX2 9 "TransformProduct$Row" "cells" "[I", Cond.methodLink RX2 20 yJ7_fill_fda19, Cond.static yJ7_fill_fda19, Cond.initialized RJ7, Cond.code yJ7_fill_fda19 cJ7_fill_fda19 5 none, Cond.methodLink RJ7 13 yJ7_rangeCheck_23922, Cond.static yJ7_rangeCheck_23922, Cond.code yJ7_rangeCheck_23922 cJ7_rangeCheck_23922 3 none, Cond.methodLink RX3 106 yX2_trim, Cond.instanceMethod yX2_trim, Cond.selects RX2 yX2_trim yX2_trim, Cond.code yX2_trim cX2_trim 1 none, Cond.methodLink RX2 32 yX2_significant]
def wsX3_carryInto_r3 : List Cond := [Cond.instanceMethod yX2_significant, Cond.selects RX2 yX2_significant yX2_significant, Cond.code yX2_significant cX2_significant 2 (some .int)]
def wsX3_carryInto : List Cond := .code yX3_carryInto cX3_carryInto 5 none :: ((wsX3_carryInto_r1 ++ (wsX3_carryInto_r2 ++ wsX3_carryInto_r3)) ++ wsX30 ++ wsX20 ++ wsX10 ++ wsX00)
def wsX3_multiply_r1 : List Cond := [Cond.fieldLink RX3 21 "TransformProduct" "rowA" "LTransformProduct$Row;", Cond.fieldLink RX3 25 "TransformProduct" "rowB" "LTransformProduct$Row;", Cond.fieldLink RX3 54 "TransformProduct" "ready" "Z", Cond.fieldLink RX3 9 "TransformProduct" "size" "I", Cond.fieldLink RX3 37 "TransformProduct" "transforms" "[LTransformProduct$PrimeTransform;", Cond.fieldLink RX3 51 "TransformProduct" "scratch" "[I", Cond.fieldLink RX3 13 "TransformProduct" "transformButterflies" "I", Cond.fieldLink RX3 58 "TransformProduct" "latestButterflies" "I", Cond.methodLink RX3 80 yX2_count, Cond.instanceMethod yX2_count, Cond.selects RX2 yX2_count yX2_count, Cond.initialized RX2, Cond.code yX2_count cX2_count 1 (some .int), Cond.fieldLink RX2 15 "TransformProduct$Row" "used" "I", Cond.methodLink RX3 84 yX1_convolve, Cond.instanceMethod yX1_convolve, Cond.selects RX1 yX1_convolve yX1_convolve, Cond.initialized RX1, Cond.code yX1_convolve cX1_convolve 4 none, Cond.fieldLink RX1 25 "TransformProduct$PrimeTransform" "values" "[I", Cond.methodLink RX1 42 yX2_spreadInto, Cond.instanceMethod yX2_spreadInto, Cond.selects RX2 yX2_spreadInto yX2_spreadInto, Cond.code yX2_spreadInto cX2_spreadInto 2 none]
def wsX3_multiply_r2 : List Cond := [Cond.fieldLink RX2 9 "TransformProduct$Row" "cells" "[I", Cond.methodLink RX2 26 arraycopyName, Cond.native arraycopyName, Cond.static arraycopyName, Cond.initialized "java/lang/System", Cond.methodLink RX2 20 yJ7_fill_fda19, Cond.static yJ7_fill_fda19, Cond.initialized RJ7, Cond.code yJ7_fill_fda19 cJ7_fill_fda19 5 none, Cond.methodLink RJ7 13 yJ7_rangeCheck_23922, Cond.static yJ7_rangeCheck_23922, Cond.code yJ7_rangeCheck_23922 cJ7_rangeCheck_23922 3 none, Cond.methodLink RX1 48 yX1_toSpectrum, Cond.instanceMethod yX1_toSpectrum, Cond.selects RX1 yX1_toSpectrum yX1_toSpectrum, Cond.code yX1_toSpectrum cX1_toSpectrum 4 none, Cond.fieldLink RX1 15 "TransformProduct$PrimeTransform" "log" "I", Cond.methodLink RX1 65 yX1_splitBlock, Cond.instanceMethod yX1_splitBlock, Cond.selects RX1 yX1_splitBlock yX1_splitBlock, Cond.code yX1_splitBlock cX1_splitBlock 12 none, Cond.fieldLink RX1 18 "TransformProduct$PrimeTransform" "size" "I", Cond.fieldLink RX1 9 "TransformProduct$PrimeTransform" "prime" "I", Cond.fieldLink RX1 21 "TransformProduct$PrimeTransform" "roots" "[I"]
def wsX3_multiply_r3 : List Cond := [Cond.methodLink RX1 51 yX1_multiplyEach, Cond.instanceMethod yX1_multiplyEach, Cond.selects RX1 yX1_multiplyEach yX1_multiplyEach, Cond.code yX1_multiplyEach cX1_multiplyEach 3 none, Cond.methodLink RX1 54 yX1_fromSpectrum, Cond.instanceMethod yX1_fromSpectrum, Cond.selects RX1 yX1_fromSpectrum yX1_fromSpectrum, Cond.code yX1_fromSpectrum cX1_fromSpectrum 4 none, Cond.methodLink RX1 69 yX1_joinBlock, Cond.instanceMethod yX1_joinBlock, Cond.selects RX1 yX1_joinBlock yX1_joinBlock, Cond.code yX1_joinBlock cX1_joinBlock 11 none, Cond.methodLink RX3 88 yX3_carryInto, Cond.instanceMethod yX3_carryInto, Cond.selects RX3 yX3_carryInto yX3_carryInto, Cond.initialized RX3, Cond.code yX3_carryInto cX3_carryInto 5 none, Cond.fieldLink RX3 28 "TransformProduct" "product" "LTransformProduct$Row;", Cond.fieldLink RX3 47 "TransformProduct" "joiner" "LTransformProduct$Joiner;", Cond.constantLong RX3 124 (32767), Cond.methodLink RX3 65 yX2_empty, Cond.instanceMethod yX2_empty, Cond.selects RX2 yX2_empty yX2_empty, Cond.code yX2_empty cX2_empty 1 none]
def wsX3_multiply_r4 : List Cond := [Cond.methodLink RX3 117 yX1_coefficient, Cond.instanceMethod yX1_coefficient, Cond.selects RX1 yX1_coefficient yX1_coefficient, Cond.code yX1_coefficient cX1_coefficient 2 (some .int), Cond.fieldLink RX1 28 "TransformProduct$PrimeTransform" "inverseSize" "J", Cond.methodLink RX3 120 yX0_join, Cond.instanceMethod yX0_join, Cond.selects RX0 yX0_join yX0_join, Cond.initialized RX0, Cond.code yX0_join cX0_join 13 (some .long), Cond.fieldLink RX0 7 "TransformProduct$Joiner" "firstInverse" "J", Cond.fieldLink RX0 13 "TransformProduct$Joiner" "bothInverse" "J", Cond.methodLink RX0 26 yJ9_floorMod_f86c9, Cond.static yJ9_floorMod_f86c9, Cond.initialized RJ9, Cond.code yJ9_floorMod_f86c9 cJ9_floorMod_f86c9 6 (some .long), Cond.methodLink RX3 68 yX2_append, Cond.instanceMethod yX2_append, Cond.selects RX2 yX2_append yX2_append, Cond.code yX2_append cX2_append 3 (some .boolean), Cond.constant RX2 19 (32768), Cond.methodLink RX3 106 yX2_trim, Cond.instanceMethod yX2_trim, Cond.selects RX2 yX2_trim yX2_trim]
def wsX3_multiply_r5 : List Cond := [Cond.code yX2_trim cX2_trim 1 none, Cond.methodLink RX2 32 yX2_significant, Cond.instanceMethod yX2_significant, Cond.selects RX2 yX2_significant yX2_significant, Cond.code yX2_significant cX2_significant 2 (some .int)]
def wsX3_multiply : List Cond := .code yX3_multiply cX3_multiply 3 (some .boolean) :: ((wsX3_multiply_r1 ++ (wsX3_multiply_r2 ++ (wsX3_multiply_r3 ++ (wsX3_multiply_r4 ++ wsX3_multiply_r5)))) ++ wsX30 ++ wsX20 ++ wsX10 ++ wsX00)
def wsX3_square_r1 : List Cond := [Cond.fieldLink RX3 21 "TransformProduct" "rowA" "LTransformProduct$Row;", Cond.fieldLink RX3 54 "TransformProduct" "ready" "Z", Cond.fieldLink RX3 9 "TransformProduct" "size" "I", Cond.fieldLink RX3 37 "TransformProduct" "transforms" "[LTransformProduct$PrimeTransform;", Cond.fieldLink RX3 13 "TransformProduct" "transformButterflies" "I", Cond.fieldLink RX3 58 "TransformProduct" "latestButterflies" "I", Cond.methodLink RX3 80 yX2_count, Cond.instanceMethod yX2_count, Cond.selects RX2 yX2_count yX2_count, Cond.initialized RX2, Cond.code yX2_count cX2_count 1 (some .int), Cond.fieldLink RX2 15 "TransformProduct$Row" "used" "I", Cond.methodLink RX3 91 yX1_convolveWithItself, Cond.instanceMethod yX1_convolveWithItself, Cond.selects RX1 yX1_convolveWithItself yX1_convolveWithItself, Cond.initialized RX1, Cond.code yX1_convolveWithItself cX1_convolveWithItself 2 none, Cond.fieldLink RX1 25 "TransformProduct$PrimeTransform" "values" "[I", Cond.methodLink RX1 42 yX2_spreadInto, Cond.instanceMethod yX2_spreadInto, Cond.selects RX2 yX2_spreadInto yX2_spreadInto, Cond.code yX2_spreadInto cX2_spreadInto 2 none, Cond.fieldLink RX2 9 "TransformProduct$Row" "cells" "[I", Cond.methodLink RX2 26 arraycopyName]
def wsX3_square_r2 : List Cond := [Cond.native arraycopyName, Cond.static arraycopyName, Cond.initialized "java/lang/System", Cond.methodLink RX2 20 yJ7_fill_fda19, Cond.static yJ7_fill_fda19, Cond.initialized RJ7, Cond.code yJ7_fill_fda19 cJ7_fill_fda19 5 none, Cond.methodLink RJ7 13 yJ7_rangeCheck_23922, Cond.static yJ7_rangeCheck_23922, Cond.code yJ7_rangeCheck_23922 cJ7_rangeCheck_23922 3 none, Cond.methodLink RX1 48 yX1_toSpectrum, Cond.instanceMethod yX1_toSpectrum, Cond.selects RX1 yX1_toSpectrum yX1_toSpectrum, Cond.code yX1_toSpectrum cX1_toSpectrum 4 none, Cond.fieldLink RX1 15 "TransformProduct$PrimeTransform" "log" "I", Cond.methodLink RX1 65 yX1_splitBlock, Cond.instanceMethod yX1_splitBlock, Cond.selects RX1 yX1_splitBlock yX1_splitBlock, Cond.code yX1_splitBlock cX1_splitBlock 12 none, Cond.fieldLink RX1 18 "TransformProduct$PrimeTransform" "size" "I", Cond.fieldLink RX1 9 "TransformProduct$PrimeTransform" "prime" "I", Cond.fieldLink RX1 21 "TransformProduct$PrimeTransform" "roots" "[I", Cond.methodLink RX1 51 yX1_multiplyEach, Cond.instanceMethod yX1_multiplyEach]
def wsX3_square_r3 : List Cond := [Cond.selects RX1 yX1_multiplyEach yX1_multiplyEach, Cond.code yX1_multiplyEach cX1_multiplyEach 3 none, Cond.methodLink RX1 54 yX1_fromSpectrum, Cond.instanceMethod yX1_fromSpectrum, Cond.selects RX1 yX1_fromSpectrum yX1_fromSpectrum, Cond.code yX1_fromSpectrum cX1_fromSpectrum 4 none, Cond.methodLink RX1 69 yX1_joinBlock, Cond.instanceMethod yX1_joinBlock, Cond.selects RX1 yX1_joinBlock yX1_joinBlock, Cond.code yX1_joinBlock cX1_joinBlock 11 none, Cond.methodLink RX3 88 yX3_carryInto, Cond.instanceMethod yX3_carryInto, Cond.selects RX3 yX3_carryInto yX3_carryInto, Cond.initialized RX3, Cond.code yX3_carryInto cX3_carryInto 5 none, Cond.fieldLink RX3 28 "TransformProduct" "product" "LTransformProduct$Row;", Cond.fieldLink RX3 47 "TransformProduct" "joiner" "LTransformProduct$Joiner;", Cond.constantLong RX3 124 (32767), Cond.methodLink RX3 65 yX2_empty, Cond.instanceMethod yX2_empty, Cond.selects RX2 yX2_empty yX2_empty, Cond.code yX2_empty cX2_empty 1 none, Cond.methodLink RX3 117 yX1_coefficient, Cond.instanceMethod yX1_coefficient]
def wsX3_square_r4 : List Cond := [Cond.selects RX1 yX1_coefficient yX1_coefficient, Cond.code yX1_coefficient cX1_coefficient 2 (some .int), Cond.fieldLink RX1 28 "TransformProduct$PrimeTransform" "inverseSize" "J", Cond.methodLink RX3 120 yX0_join, Cond.instanceMethod yX0_join, Cond.selects RX0 yX0_join yX0_join, Cond.initialized RX0, Cond.code yX0_join cX0_join 13 (some .long), Cond.fieldLink RX0 7 "TransformProduct$Joiner" "firstInverse" "J", Cond.fieldLink RX0 13 "TransformProduct$Joiner" "bothInverse" "J", Cond.methodLink RX0 26 yJ9_floorMod_f86c9, Cond.static yJ9_floorMod_f86c9, Cond.initialized RJ9, Cond.code yJ9_floorMod_f86c9 cJ9_floorMod_f86c9 6 (some .long), Cond.methodLink RX3 68 yX2_append, Cond.instanceMethod yX2_append, Cond.selects RX2 yX2_append yX2_append, Cond.code yX2_append cX2_append 3 (some .boolean), Cond.constant RX2 19 (32768), Cond.methodLink RX3 106 yX2_trim, Cond.instanceMethod yX2_trim, Cond.selects RX2 yX2_trim yX2_trim, Cond.code yX2_trim cX2_trim 1 none, Cond.methodLink RX2 32 yX2_significant]
def wsX3_square_r5 : List Cond := [Cond.instanceMethod yX2_significant, Cond.selects RX2 yX2_significant yX2_significant, Cond.code yX2_significant cX2_significant 2 (some .int)]
def wsX3_square : List Cond := .code yX3_square cX3_square 3 (some .boolean) :: ((wsX3_square_r1 ++ (wsX3_square_r2 ++ (wsX3_square_r3 ++ (wsX3_square_r4 ++ wsX3_square_r5)))) ++ wsX30 ++ wsX20 ++ wsX10 ++ wsX00)
def wsX3_length : List Cond := .code yX3_length cX3_length 1 (some .int) :: ([.fieldLink RX3 28 "TransformProduct" "product" "LTransformProduct$Row;", .methodLink RX3 80 yX2_count, .instanceMethod yX2_count, .selects RX2 yX2_count yX2_count, .initialized RX2, .code yX2_count cX2_count 1 (some .int), .fieldLink RX2 15 "TransformProduct$Row" "used" "I"] ++ wsX30 ++ wsX20)
def wsX3_digit : List Cond := .code yX3_digit cX3_digit 2 (some .int) :: ([.fieldLink RX3 28 "TransformProduct" "product" "LTransformProduct$Row;", .methodLink RX3 80 yX2_count, .instanceMethod yX2_count, .selects RX2 yX2_count yX2_count, .initialized RX2, .code yX2_count cX2_count 1 (some .int), .fieldLink RX2 15 "TransformProduct$Row" "used" "I", .methodLink RX3 95 yX2_at, .instanceMethod yX2_at, .selects RX2 yX2_at yX2_at, .code yX2_at cX2_at 2 (some .int), .fieldLink RX2 9 "TransformProduct$Row" "cells" "[I"] ++ wsX30 ++ wsX20)
def wsX3_butterflies : List Cond := .code yX3_butterflies cX3_butterflies 1 (some .int) :: ([.fieldLink RX3 58 "TransformProduct" "latestButterflies" "I"] ++ wsX30)
def wsX3_spectrum_r1 : List Cond := [Cond.fieldLink RX3 54 "TransformProduct" "ready" "Z", Cond.fieldLink RX3 37 "TransformProduct" "transforms" "[LTransformProduct$PrimeTransform;", Cond.fieldLink RX3 9 "TransformProduct" "size" "I", Cond.methodLink RX3 72 yX3_isRow, Cond.static yX3_isRow, Cond.initialized RX3, Cond.code yX3_isRow cX3_isRow 1 (some .boolean), Cond.methodLink RX3 76 yX3_rowOf, Cond.instanceMethod yX3_rowOf, Cond.selects RX3 yX3_rowOf yX3_rowOf, Cond.code yX3_rowOf cX3_rowOf 2 (some (.object "TransformProduct$Row")), Cond.fieldLink RX3 21 "TransformProduct" "rowA" "LTransformProduct$Row;", Cond.fieldLink RX3 25 "TransformProduct" "rowB" "LTransformProduct$Row;", Cond.methodLink RX3 99 yX1_spectrumNumber, Cond.instanceMethod yX1_spectrumNumber, Cond.selects RX1 yX1_spectrumNumber yX1_spectrumNumber, Cond.initialized RX1, Cond.code yX1_spectrumNumber cX1_spectrumNumber 8 (some .int), Cond.fieldLink RX1 21 "TransformProduct$PrimeTransform" "roots" "[I", Cond.fieldLink RX1 9 "TransformProduct$PrimeTransform" "prime" "I", Cond.methodLink RX1 57 yX2_count, Cond.instanceMethod yX2_count, Cond.selects RX2 yX2_count yX2_count, Cond.initialized RX2]
def wsX3_spectrum_r2 : List Cond := [Cond.code yX2_count cX2_count 1 (some .int), Cond.fieldLink RX2 15 "TransformProduct$Row" "used" "I", Cond.methodLink RX1 61 yX2_at, Cond.instanceMethod yX2_at, Cond.selects RX2 yX2_at yX2_at, Cond.code yX2_at cX2_at 2 (some .int), Cond.fieldLink RX2 9 "TransformProduct$Row" "cells" "[I"]
def wsX3_spectrum : List Cond := .code yX3_spectrum cX3_spectrum 4 (some .int) :: ((wsX3_spectrum_r1 ++ wsX3_spectrum_r2) ++ wsX30 ++ wsX10 ++ wsX20)
def wsX3_take_r1 : List Cond := [Cond.fieldLink RX3 28 "TransformProduct" "product" "LTransformProduct$Row;", Cond.methodLink RX3 72 yX3_isRow, Cond.static yX3_isRow, Cond.initialized RX3, Cond.code yX3_isRow cX3_isRow 1 (some .boolean), Cond.methodLink RX3 76 yX3_rowOf, Cond.instanceMethod yX3_rowOf, Cond.selects RX3 yX3_rowOf yX3_rowOf, Cond.code yX3_rowOf cX3_rowOf 2 (some (.object "TransformProduct$Row")), Cond.fieldLink RX3 21 "TransformProduct" "rowA" "LTransformProduct$Row;", Cond.fieldLink RX3 25 "TransformProduct" "rowB" "LTransformProduct$Row;", Cond.methodLink RX3 103 yX2_copyFrom, Cond.instanceMethod yX2_copyFrom, Cond.selects RX2 yX2_copyFrom yX2_copyFrom, Cond.initialized RX2, Cond.code yX2_copyFrom cX2_copyFrom 2 none, Cond.fieldLink RX2 9 "TransformProduct$Row" "cells" "[I", Cond.fieldLink RX2 15 "TransformProduct$Row" "used" "I", Cond.methodLink RX2 26 arraycopyName, Cond.native arraycopyName, Cond.static arraycopyName, Cond.initialized "java/lang/System", Cond.methodLink RX3 106 yX2_trim, Cond.instanceMethod yX2_trim]
def wsX3_take_r2 : List Cond := [Cond.selects RX2 yX2_trim yX2_trim, Cond.code yX2_trim cX2_trim 1 none, Cond.methodLink RX2 32 yX2_significant, Cond.instanceMethod yX2_significant, Cond.selects RX2 yX2_significant yX2_significant, Cond.code yX2_significant cX2_significant 2 (some .int)]
def wsX3_take : List Cond := .code yX3_take cX3_take 2 (some .boolean) :: ((wsX3_take_r1 ++ wsX3_take_r2) ++ wsX30 ++ wsX20)
def wsX3_give : List Cond := .code yX3_give cX3_give 2 (some .boolean) :: ([.fieldLink RX3 28 "TransformProduct" "product" "LTransformProduct$Row;", .methodLink RX3 72 yX3_isRow, .static yX3_isRow, .initialized RX3, .code yX3_isRow cX3_isRow 1 (some .boolean), .methodLink RX3 76 yX3_rowOf, .instanceMethod yX3_rowOf, .selects RX3 yX3_rowOf yX3_rowOf, .code yX3_rowOf cX3_rowOf 2 (some (.object "TransformProduct$Row")), .fieldLink RX3 21 "TransformProduct" "rowA" "LTransformProduct$Row;", .fieldLink RX3 25 "TransformProduct" "rowB" "LTransformProduct$Row;", .methodLink RX3 103 yX2_copyFrom, .instanceMethod yX2_copyFrom, .selects RX2 yX2_copyFrom yX2_copyFrom, .initialized RX2, .code yX2_copyFrom cX2_copyFrom 2 none, .fieldLink RX2 9 "TransformProduct$Row" "cells" "[I", .fieldLink RX2 15 "TransformProduct$Row" "used" "I", .methodLink RX2 26 arraycopyName, .native arraycopyName, .static arraycopyName, .initialized "java/lang/System"] ++ wsX30 ++ wsX20)
def wsX3_compare : List Cond := .code yX3_compare cX3_compare 1 (some .int) :: ([.fieldLink RX3 21 "TransformProduct" "rowA" "LTransformProduct$Row;", .fieldLink RX3 25 "TransformProduct" "rowB" "LTransformProduct$Row;", .methodLink RX3 109 yX2_comparedTo, .instanceMethod yX2_comparedTo, .selects RX2 yX2_comparedTo yX2_comparedTo, .initialized RX2, .code yX2_comparedTo cX2_comparedTo 5 (some .int), .fieldLink RX2 9 "TransformProduct$Row" "cells" "[I", .methodLink RX2 32 yX2_significant, .instanceMethod yX2_significant, .selects RX2 yX2_significant yX2_significant, .code yX2_significant cX2_significant 2 (some .int), .fieldLink RX2 15 "TransformProduct$Row" "used" "I"] ++ wsX30 ++ wsX20)
def wsX3_rest : List Cond := .code yX3_rest cX3_rest 2 (some .int) :: ([.constant RX3 113 (1000000000), .fieldLink RX3 28 "TransformProduct" "product" "LTransformProduct$Row;", .methodLink RX3 114 yX2_remainder, .instanceMethod yX2_remainder, .selects RX2 yX2_remainder yX2_remainder, .initialized RX2, .code yX2_remainder cX2_remainder 5 (some .int), .fieldLink RX2 15 "TransformProduct$Row" "used" "I", .constantLong RX2 36 (32768), .fieldLink RX2 9 "TransformProduct$Row" "cells" "[I"] ++ wsX30 ++ wsX20)
def wsX4_init : List Cond := .code yX4_init cX4_init 2 none :: ([.methodLink RX4 1 objectInit, .instanceMethod objectInit, .code objectInit ⟨#[0xb1]⟩ 1 none, .arrayClass .int, .fieldLink RX4 7 "TransformProductModel" "digits" "[I", .fieldLink RX4 13 "TransformProductModel" "counts" "[I", .fieldLink RX4 16 "TransformProductModel" "product" "[I", .fieldLink RX4 19 "TransformProductModel" "log" "I", .fieldLink RX4 23 "TransformProductModel" "n" "I"] ++ wsX40)
def wsX4_init_ : List Cond := .code yX4_init_ cX4_init_ 2 (some .boolean) :: ([.fieldLink RX4 26 "TransformProductModel" "isReady" "Z"] ++ wsX40)
def wsX4_clear : List Cond := .code yX4_clear cX4_clear 1 none :: ([.fieldLink RX4 13 "TransformProductModel" "counts" "[I", .fieldLink RX4 30 "TransformProductModel" "length" "I", .fieldLink RX4 33 "TransformProductModel" "taken" "I"] ++ wsX40)
def wsX4_isDigit : List Cond := .code yX4_isDigit cX4_isDigit 1 (some .boolean) :: ([.constant RX4 36 (32768)])
def wsX4_isRow : List Cond := .code yX4_isRow cX4_isRow 1 (some .boolean) :: ([])
def wsX4_repeat : List Cond := .code yX4_repeat cX4_repeat 5 (some .boolean) :: ([.fieldLink RX4 23 "TransformProductModel" "n" "I", .fieldLink RX4 13 "TransformProductModel" "counts" "[I", .fieldLink RX4 7 "TransformProductModel" "digits" "[I", .methodLink RX4 37 yX4_isRow, .static yX4_isRow, .initialized RX4, .code yX4_isRow cX4_isRow 1 (some .boolean), .methodLink RX4 41 yX4_isDigit, .static yX4_isDigit, .code yX4_isDigit cX4_isDigit 1 (some .boolean), .constant RX4 36 (32768)] ++ wsX40)
def wsX4_feedA : List Cond := .code yX4_feedA cX4_feedA 2 (some .boolean) :: ([.methodLink RX4 44 yX4_repeat, .instanceMethod yX4_repeat, .selects RX4 yX4_repeat yX4_repeat, .initialized RX4, .code yX4_repeat cX4_repeat 5 (some .boolean), .fieldLink RX4 23 "TransformProductModel" "n" "I", .fieldLink RX4 13 "TransformProductModel" "counts" "[I", .fieldLink RX4 7 "TransformProductModel" "digits" "[I", .methodLink RX4 37 yX4_isRow, .static yX4_isRow, .code yX4_isRow cX4_isRow 1 (some .boolean), .methodLink RX4 41 yX4_isDigit, .static yX4_isDigit, .code yX4_isDigit cX4_isDigit 1 (some .boolean), .constant RX4 36 (32768)] ++ wsX40)
def wsX4_feedB : List Cond := .code yX4_feedB cX4_feedB 2 (some .boolean) :: ([.methodLink RX4 44 yX4_repeat, .instanceMethod yX4_repeat, .selects RX4 yX4_repeat yX4_repeat, .initialized RX4, .code yX4_repeat cX4_repeat 5 (some .boolean), .fieldLink RX4 23 "TransformProductModel" "n" "I", .fieldLink RX4 13 "TransformProductModel" "counts" "[I", .fieldLink RX4 7 "TransformProductModel" "digits" "[I", .methodLink RX4 37 yX4_isRow, .static yX4_isRow, .code yX4_isRow cX4_isRow 1 (some .boolean), .methodLink RX4 41 yX4_isDigit, .static yX4_isDigit, .code yX4_isDigit cX4_isDigit 1 (some .boolean), .constant RX4 36 (32768)] ++ wsX40)
def wsX4_trim : List Cond := .code yX4_trim cX4_trim 1 none :: ([.fieldLink RX4 30 "TransformProductModel" "length" "I", .fieldLink RX4 16 "TransformProductModel" "product" "[I"] ++ wsX40)
def wsX4_by : List Cond := .code yX4_by cX4_by 9 none :: ([.fieldLink RX4 13 "TransformProductModel" "counts" "[I", .fieldLink RX4 30 "TransformProductModel" "length" "I", .fieldLink RX4 16 "TransformProductModel" "product" "[I", .fieldLink RX4 7 "TransformProductModel" "digits" "[I", .constantLong RX4 48 (32768), .fieldLink RX4 23 "TransformProductModel" "n" "I", .fieldLink RX4 19 "TransformProductModel" "log" "I", .fieldLink RX4 33 "TransformProductModel" "taken" "I", .methodLink RX4 50 yX4_trim, .instanceMethod yX4_trim, .selects RX4 yX4_trim yX4_trim, .initialized RX4, .code yX4_trim cX4_trim 1 none] ++ wsX40)
def wsX4_multiply : List Cond := .code yX4_multiply cX4_multiply 1 (some .boolean) :: ([.fieldLink RX4 26 "TransformProductModel" "isReady" "Z", .fieldLink RX4 13 "TransformProductModel" "counts" "[I", .fieldLink RX4 23 "TransformProductModel" "n" "I", .methodLink RX4 53 yX4_by, .instanceMethod yX4_by, .selects RX4 yX4_by yX4_by, .initialized RX4, .code yX4_by cX4_by 9 none, .fieldLink RX4 30 "TransformProductModel" "length" "I", .fieldLink RX4 16 "TransformProductModel" "product" "[I", .fieldLink RX4 7 "TransformProductModel" "digits" "[I", .constantLong RX4 48 (32768), .fieldLink RX4 19 "TransformProductModel" "log" "I", .fieldLink RX4 33 "TransformProductModel" "taken" "I", .methodLink RX4 50 yX4_trim, .instanceMethod yX4_trim, .selects RX4 yX4_trim yX4_trim, .code yX4_trim cX4_trim 1 none] ++ wsX40)
def wsX4_square : List Cond := .code yX4_square cX4_square 1 (some .boolean) :: ([.fieldLink RX4 26 "TransformProductModel" "isReady" "Z", .fieldLink RX4 13 "TransformProductModel" "counts" "[I", .fieldLink RX4 23 "TransformProductModel" "n" "I", .methodLink RX4 53 yX4_by, .instanceMethod yX4_by, .selects RX4 yX4_by yX4_by, .initialized RX4, .code yX4_by cX4_by 9 none, .fieldLink RX4 30 "TransformProductModel" "length" "I", .fieldLink RX4 16 "TransformProductModel" "product" "[I", .fieldLink RX4 7 "TransformProductModel" "digits" "[I", .constantLong RX4 48 (32768), .fieldLink RX4 19 "TransformProductModel" "log" "I", .fieldLink RX4 33 "TransformProductModel" "taken" "I", .methodLink RX4 50 yX4_trim, .instanceMethod yX4_trim, .selects RX4 yX4_trim yX4_trim, .code yX4_trim cX4_trim 1 none] ++ wsX40)
def wsX4_length : List Cond := .code yX4_length cX4_length 1 (some .int) :: ([.fieldLink RX4 30 "TransformProductModel" "length" "I"] ++ wsX40)
def wsX4_digit : List Cond := .code yX4_digit cX4_digit 2 (some .int) :: ([.fieldLink RX4 30 "TransformProductModel" "length" "I", .fieldLink RX4 16 "TransformProductModel" "product" "[I"] ++ wsX40)
def wsX4_butterflies : List Cond := .code yX4_butterflies cX4_butterflies 1 (some .int) :: ([.fieldLink RX4 33 "TransformProductModel" "taken" "I"] ++ wsX40)
def wsX4_primeOf : List Cond := .code yX4_primeOf cX4_primeOf 1 (some .long) :: ([.constantLong RX4 57 (998244353), .constantLong RX4 59 (167772161), .constantLong RX4 61 (469762049)])
def wsX4_power : List Cond := .code yX4_power cX4_power 12 (some .long) :: ([.constantLong RX4 63 (2)])
def wsX4_spectrum : List Cond := .code yX4_spectrum cX4_spectrum 11 (some .int) :: ([.fieldLink RX4 26 "TransformProductModel" "isReady" "Z", .fieldLink RX4 23 "TransformProductModel" "n" "I", .constantLong RX4 69 (3), .fieldLink RX4 13 "TransformProductModel" "counts" "[I", .fieldLink RX4 7 "TransformProductModel" "digits" "[I", .methodLink RX4 37 yX4_isRow, .static yX4_isRow, .initialized RX4, .code yX4_isRow cX4_isRow 1 (some .boolean), .methodLink RX4 65 yX4_primeOf, .static yX4_primeOf, .code yX4_primeOf cX4_primeOf 1 (some .long), .constantLong RX4 57 (998244353), .constantLong RX4 59 (167772161), .constantLong RX4 61 (469762049), .methodLink RX4 71 yX4_power, .static yX4_power, .code yX4_power cX4_power 12 (some .long), .constantLong RX4 63 (2)] ++ wsX40)
def wsX4_take : List Cond := .code yX4_take cX4_take 3 (some .boolean) :: ([.fieldLink RX4 13 "TransformProductModel" "counts" "[I", .fieldLink RX4 30 "TransformProductModel" "length" "I", .fieldLink RX4 16 "TransformProductModel" "product" "[I", .fieldLink RX4 7 "TransformProductModel" "digits" "[I", .methodLink RX4 37 yX4_isRow, .static yX4_isRow, .initialized RX4, .code yX4_isRow cX4_isRow 1 (some .boolean), .methodLink RX4 50 yX4_trim, .instanceMethod yX4_trim, .selects RX4 yX4_trim yX4_trim, .code yX4_trim cX4_trim 1 none] ++ wsX40)
def wsX4_give : List Cond := .code yX4_give cX4_give 3 (some .boolean) :: ([.fieldLink RX4 13 "TransformProductModel" "counts" "[I", .fieldLink RX4 30 "TransformProductModel" "length" "I", .fieldLink RX4 7 "TransformProductModel" "digits" "[I", .fieldLink RX4 16 "TransformProductModel" "product" "[I", .methodLink RX4 37 yX4_isRow, .static yX4_isRow, .initialized RX4, .code yX4_isRow cX4_isRow 1 (some .boolean)] ++ wsX40)
def wsX4_digitOf : List Cond := .code yX4_digitOf cX4_digitOf 3 (some .int) :: ([.fieldLink RX4 13 "TransformProductModel" "counts" "[I", .fieldLink RX4 7 "TransformProductModel" "digits" "[I"] ++ wsX40)
def wsX4_compare : List Cond := .code yX4_compare cX4_compare 3 (some .int) :: ([.fieldLink RX4 23 "TransformProductModel" "n" "I", .methodLink RX4 75 yX4_digitOf, .instanceMethod yX4_digitOf, .selects RX4 yX4_digitOf yX4_digitOf, .initialized RX4, .code yX4_digitOf cX4_digitOf 3 (some .int), .fieldLink RX4 13 "TransformProductModel" "counts" "[I", .fieldLink RX4 7 "TransformProductModel" "digits" "[I"] ++ wsX40)
def wsX4_rest : List Cond := .code yX4_rest cX4_rest 5 (some .int) :: ([.constant RX4 79 (1000000000), .fieldLink RX4 30 "TransformProductModel" "length" "I", .constantLong RX4 48 (32768), .fieldLink RX4 16 "TransformProductModel" "product" "[I"] ++ wsX40)
def wsL_cell : List Cond := .code yL_cell cL_cell 2 (some .int) :: ([])
def wsL_law_r1 : List Cond := [Cond.classLink RL 7 RX3, Cond.instantiable RX3 10, Cond.initialized RX3, Cond.classLink RL 18 RX4, Cond.instantiable RX4 8, Cond.initialized RX4, Cond.methodLink RL 9 yL_cell, Cond.static yL_cell, Cond.initialized RL, Cond.code yL_cell cL_cell 2 (some .int), Cond.methodLink RL 15 yX3_init, Cond.instanceMethod yX3_init, Cond.code yX3_init cX3_init 4 none, Cond.methodLink RX3 3 objectInit, Cond.instanceMethod objectInit, Cond.code objectInit ⟨#[0xb1]⟩ 1 none, Cond.fieldLink RX3 9 "TransformProduct" "size" "I", Cond.fieldLink RX3 13 "TransformProduct" "transformButterflies" "I", Cond.classLink RX3 16 RX2, Cond.instantiable RX2 2, Cond.initialized RX2, Cond.fieldLink RX3 21 "TransformProduct" "rowA" "LTransformProduct$Row;", Cond.fieldLink RX3 25 "TransformProduct" "rowB" "LTransformProduct$Row;", Cond.fieldLink RX3 28 "TransformProduct" "product" "LTransformProduct$Row;"]
def wsL_law_r2 : List Cond := [Cond.fieldLink RX3 31 "TransformProduct" "PRIMES" "[I", Cond.classLink RX3 35 RX1, Cond.fieldLink RX3 37 "TransformProduct" "transforms" "[LTransformProduct$PrimeTransform;", Cond.instantiable RX1 6, Cond.initialized RX1, Cond.classLink RX3 44 RX0, Cond.instantiable RX0 2, Cond.initialized RX0, Cond.fieldLink RX3 47 "TransformProduct" "joiner" "LTransformProduct$Joiner;", Cond.arrayClass .int, Cond.fieldLink RX3 51 "TransformProduct" "scratch" "[I", Cond.fieldLink RX3 54 "TransformProduct" "ready" "Z", Cond.fieldLink RX3 58 "TransformProduct" "latestButterflies" "I", Cond.methodLink RX3 18 yX2_init, Cond.instanceMethod yX2_init, Cond.code yX2_init cX2_init 2 none, Cond.methodLink RX2 3 objectInit, Cond.fieldLink RX2 9 "TransformProduct$Row" "cells" "[I", Cond.fieldLink RX2 15 "TransformProduct$Row" "used" "I", Cond.methodLink RX3 41 yX1_init, Cond.instanceMethod yX1_init, Cond.code yX1_init cX1_init 3 none, Cond.methodLink RX1 3 objectInit, Cond.fieldLink RX1 9 "TransformProduct$PrimeTransform" "prime" "I"]
def wsL_law_r3 : List Cond := [Cond.fieldLink RX1 15 "TransformProduct$PrimeTransform" "log" "I", Cond.fieldLink RX1 18 "TransformProduct$PrimeTransform" "size" "I", Cond.fieldLink RX1 21 "TransformProduct$PrimeTransform" "roots" "[I", Cond.fieldLink RX1 25 "TransformProduct$PrimeTransform" "values" "[I", Cond.fieldLink RX1 28 "TransformProduct$PrimeTransform" "inverseSize" "J", Cond.methodLink RX3 46 yX0_init, Cond.instanceMethod yX0_init, Cond.code yX0_init cX0_init 1 none, Cond.methodLink RX0 1 objectInit, Cond.fieldLink RX0 7 "TransformProduct$Joiner" "firstInverse" "J", Cond.fieldLink RX0 13 "TransformProduct$Joiner" "bothInverse" "J", Cond.methodLink RL 20 yX4_init, Cond.instanceMethod yX4_init, Cond.code yX4_init cX4_init 2 none, Cond.methodLink RX4 1 objectInit, Cond.fieldLink RX4 7 "TransformProductModel" "digits" "[I", Cond.fieldLink RX4 13 "TransformProductModel" "counts" "[I", Cond.fieldLink RX4 16 "TransformProductModel" "product" "[I", Cond.fieldLink RX4 19 "TransformProductModel" "log" "I", Cond.fieldLink RX4 23 "TransformProductModel" "n" "I", Cond.methodLink RL 21 yX3_init_, Cond.instanceMethod yX3_init_, Cond.selects RX3 yX3_init_ yX3_init_, Cond.code yX3_init_ cX3_init_ 2 (some .boolean)]
def wsL_law_r4 : List Cond := [Cond.methodLink RX3 61 yX1_prepare, Cond.instanceMethod yX1_prepare, Cond.selects RX1 yX1_prepare yX1_prepare, Cond.code yX1_prepare cX1_prepare 6 none, Cond.constantLong RX1 32 (3), Cond.static yX3_power, Cond.code yX3_power cX3_power 11 (some .long), Cond.static yX3_inverse, Cond.code yX3_inverse cX3_inverse 4 (some .long), Cond.constantLong RX3 126 (2), Cond.methodLink RX3 128 yX3_power, Cond.methodLink RX3 64 yX0_prepare, Cond.instanceMethod yX0_prepare, Cond.selects RX0 yX0_prepare yX0_prepare, Cond.code yX0_prepare cX0_prepare 1 none, Cond.methodLink RL 25 yX4_init_, Cond.instanceMethod yX4_init_, Cond.selects RX4 yX4_init_ yX4_init_, Cond.code yX4_init_ cX4_init_ 2 (some .boolean), Cond.fieldLink RX4 26 "TransformProductModel" "isReady" "Z", Cond.methodLink RL 26 yX3_clear, Cond.instanceMethod yX3_clear, Cond.selects RX3 yX3_clear yX3_clear, Cond.code yX3_clear cX3_clear 1 none]
def wsL_law_r5 : List Cond := [Cond.methodLink RX3 65 yX2_empty, Cond.instanceMethod yX2_empty, Cond.selects RX2 yX2_empty yX2_empty, Cond.code yX2_empty cX2_empty 1 none, Cond.methodLink RL 29 yX4_clear, Cond.instanceMethod yX4_clear, Cond.selects RX4 yX4_clear yX4_clear, Cond.code yX4_clear cX4_clear 1 none, Cond.fieldLink RX4 30 "TransformProductModel" "length" "I", Cond.fieldLink RX4 33 "TransformProductModel" "taken" "I", Cond.methodLink RL 30 yX3_feedA, Cond.instanceMethod yX3_feedA, Cond.selects RX3 yX3_feedA yX3_feedA, Cond.code yX3_feedA cX3_feedA 2 (some .boolean), Cond.methodLink RX3 68 yX2_append, Cond.instanceMethod yX2_append, Cond.selects RX2 yX2_append yX2_append, Cond.code yX2_append cX2_append 3 (some .boolean), Cond.constant RX2 19 (32768), Cond.methodLink RX2 20 yJ7_fill_fda19, Cond.static yJ7_fill_fda19, Cond.initialized RJ7, Cond.code yJ7_fill_fda19 cJ7_fill_fda19 5 none, Cond.methodLink RJ7 13 yJ7_rangeCheck_23922]
def wsL_law_r6 : List Cond := [Cond.static yJ7_rangeCheck_23922, Cond.code yJ7_rangeCheck_23922 cJ7_rangeCheck_23922 3 none, Cond.methodLink RL 34 yX4_feedA, Cond.instanceMethod yX4_feedA, Cond.selects RX4 yX4_feedA yX4_feedA, Cond.code yX4_feedA cX4_feedA 2 (some .boolean), Cond.methodLink RX4 44 yX4_repeat, Cond.instanceMethod yX4_repeat, Cond.selects RX4 yX4_repeat yX4_repeat, Cond.code yX4_repeat cX4_repeat 5 (some .boolean), Cond.methodLink RX4 37 yX4_isRow, Cond.static yX4_isRow, Cond.code yX4_isRow cX4_isRow 1 (some .boolean), Cond.methodLink RX4 41 yX4_isDigit, Cond.static yX4_isDigit, Cond.code yX4_isDigit cX4_isDigit 1 (some .boolean), Cond.constant RX4 36 (32768), Cond.methodLink RL 35 yX3_feedB, Cond.instanceMethod yX3_feedB, Cond.selects RX3 yX3_feedB yX3_feedB, Cond.code yX3_feedB cX3_feedB 2 (some .boolean), Cond.methodLink RL 38 yX4_feedB, Cond.instanceMethod yX4_feedB, Cond.selects RX4 yX4_feedB yX4_feedB]
def wsL_law_r7 : List Cond := [Cond.code yX4_feedB cX4_feedB 2 (some .boolean), Cond.methodLink RL 39 yX3_repeat, Cond.instanceMethod yX3_repeat, Cond.selects RX3 yX3_repeat yX3_repeat, Cond.code yX3_repeat cX3_repeat 4 (some .boolean), Cond.methodLink RX3 72 yX3_isRow, Cond.static yX3_isRow, Cond.code yX3_isRow cX3_isRow 1 (some .boolean), Cond.methodLink RX3 76 yX3_rowOf, Cond.instanceMethod yX3_rowOf, Cond.selects RX3 yX3_rowOf yX3_rowOf, Cond.code yX3_rowOf cX3_rowOf 2 (some (.object "TransformProduct$Row")), Cond.methodLink RL 43 yX4_repeat, Cond.methodLink RL 44 yX3_multiply, Cond.instanceMethod yX3_multiply, Cond.selects RX3 yX3_multiply yX3_multiply, Cond.code yX3_multiply cX3_multiply 3 (some .boolean), Cond.methodLink RX3 80 yX2_count, Cond.instanceMethod yX2_count, Cond.selects RX2 yX2_count yX2_count, Cond.code yX2_count cX2_count 1 (some .int), Cond.methodLink RX3 84 yX1_convolve, Cond.instanceMethod yX1_convolve, Cond.selects RX1 yX1_convolve yX1_convolve]
def wsL_law_r8 : List Cond := [Cond.code yX1_convolve cX1_convolve 4 none, Cond.methodLink RX1 42 yX2_spreadInto, Cond.instanceMethod yX2_spreadInto, Cond.selects RX2 yX2_spreadInto yX2_spreadInto, Cond.code yX2_spreadInto cX2_spreadInto 2 none, Cond.methodLink RX2 26 arraycopyName, Cond.native arraycopyName, Cond.static arraycopyName, Cond.initialized "java/lang/System", Cond.methodLink RX1 48 yX1_toSpectrum, Cond.instanceMethod yX1_toSpectrum, Cond.selects RX1 yX1_toSpectrum yX1_toSpectrum, Cond.code yX1_toSpectrum cX1_toSpectrum 4 none, Cond.methodLink RX1 65 yX1_splitBlock, Cond.instanceMethod yX1_splitBlock, Cond.selects RX1 yX1_splitBlock yX1_splitBlock, Cond.code yX1_splitBlock cX1_splitBlock 12 none, Cond.methodLink RX1 51 yX1_multiplyEach, Cond.instanceMethod yX1_multiplyEach, Cond.selects RX1 yX1_multiplyEach yX1_multiplyEach, Cond.code yX1_multiplyEach cX1_multiplyEach 3 none, Cond.methodLink RX1 54 yX1_fromSpectrum, Cond.instanceMethod yX1_fromSpectrum, Cond.selects RX1 yX1_fromSpectrum yX1_fromSpectrum]
def wsL_law_r9 : List Cond := [Cond.code yX1_fromSpectrum cX1_fromSpectrum 4 none, Cond.methodLink RX1 69 yX1_joinBlock, Cond.instanceMethod yX1_joinBlock, Cond.selects RX1 yX1_joinBlock yX1_joinBlock, Cond.code yX1_joinBlock cX1_joinBlock 11 none, Cond.methodLink RX3 88 yX3_carryInto, Cond.instanceMethod yX3_carryInto, Cond.selects RX3 yX3_carryInto yX3_carryInto, Cond.code yX3_carryInto cX3_carryInto 5 none, Cond.constantLong RX3 124 (32767), Cond.methodLink RX3 117 yX1_coefficient, Cond.instanceMethod yX1_coefficient, Cond.selects RX1 yX1_coefficient yX1_coefficient, Cond.code yX1_coefficient cX1_coefficient 2 (some .int), Cond.methodLink RX3 120 yX0_join, Cond.instanceMethod yX0_join, Cond.selects RX0 yX0_join yX0_join, Cond.code yX0_join cX0_join 13 (some .long), Cond.methodLink RX0 26 yJ9_floorMod_f86c9, Cond.static yJ9_floorMod_f86c9, Cond.initialized RJ9, Cond.code yJ9_floorMod_f86c9 cJ9_floorMod_f86c9 6 (some .long), Cond.methodLink RX3 106 yX2_trim, Cond.instanceMethod yX2_trim]
def wsL_law_r10 : List Cond := [Cond.selects RX2 yX2_trim yX2_trim, Cond.code yX2_trim cX2_trim 1 none, Cond.methodLink RX2 32 yX2_significant, Cond.instanceMethod yX2_significant, Cond.selects RX2 yX2_significant yX2_significant, Cond.code yX2_significant cX2_significant 2 (some .int), Cond.methodLink RL 47 yX4_multiply, Cond.instanceMethod yX4_multiply, Cond.selects RX4 yX4_multiply yX4_multiply, Cond.code yX4_multiply cX4_multiply 1 (some .boolean), Cond.methodLink RX4 53 yX4_by, Cond.instanceMethod yX4_by, Cond.selects RX4 yX4_by yX4_by, Cond.code yX4_by cX4_by 9 none, Cond.constantLong RX4 48 (32768), Cond.methodLink RX4 50 yX4_trim, Cond.instanceMethod yX4_trim, Cond.selects RX4 yX4_trim yX4_trim, Cond.code yX4_trim cX4_trim 1 none, Cond.methodLink RL 48 yX3_square, Cond.instanceMethod yX3_square, Cond.selects RX3 yX3_square yX3_square, Cond.code yX3_square cX3_square 3 (some .boolean), Cond.methodLink RX3 91 yX1_convolveWithItself]
def wsL_law_r11 : List Cond := [Cond.instanceMethod yX1_convolveWithItself, Cond.selects RX1 yX1_convolveWithItself yX1_convolveWithItself, Cond.code yX1_convolveWithItself cX1_convolveWithItself 2 none, Cond.methodLink RL 51 yX4_square, Cond.instanceMethod yX4_square, Cond.selects RX4 yX4_square yX4_square, Cond.code yX4_square cX4_square 1 (some .boolean), Cond.methodLink RL 52 yX3_length, Cond.instanceMethod yX3_length, Cond.selects RX3 yX3_length yX3_length, Cond.code yX3_length cX3_length 1 (some .int), Cond.methodLink RL 56 yX4_length, Cond.instanceMethod yX4_length, Cond.selects RX4 yX4_length yX4_length, Cond.code yX4_length cX4_length 1 (some .int), Cond.methodLink RL 57 yX3_digit, Cond.instanceMethod yX3_digit, Cond.selects RX3 yX3_digit yX3_digit, Cond.code yX3_digit cX3_digit 2 (some .int), Cond.methodLink RX3 95 yX2_at, Cond.instanceMethod yX2_at, Cond.selects RX2 yX2_at yX2_at, Cond.code yX2_at cX2_at 2 (some .int), Cond.methodLink RL 61 yX4_digit]
def wsL_law_r12 : List Cond := [Cond.instanceMethod yX4_digit, Cond.selects RX4 yX4_digit yX4_digit, Cond.code yX4_digit cX4_digit 2 (some .int), Cond.methodLink RL 62 yX3_butterflies, Cond.instanceMethod yX3_butterflies, Cond.selects RX3 yX3_butterflies yX3_butterflies, Cond.code yX3_butterflies cX3_butterflies 1 (some .int), Cond.methodLink RL 65 yX4_butterflies, Cond.instanceMethod yX4_butterflies, Cond.selects RX4 yX4_butterflies yX4_butterflies, Cond.code yX4_butterflies cX4_butterflies 1 (some .int), Cond.methodLink RL 66 yX3_spectrum, Cond.instanceMethod yX3_spectrum, Cond.selects RX3 yX3_spectrum yX3_spectrum, Cond.code yX3_spectrum cX3_spectrum 4 (some .int), Cond.methodLink RX3 99 yX1_spectrumNumber, Cond.instanceMethod yX1_spectrumNumber, Cond.selects RX1 yX1_spectrumNumber yX1_spectrumNumber, Cond.code yX1_spectrumNumber cX1_spectrumNumber 8 (some .int), Cond.methodLink RX1 57 yX2_count, Cond.methodLink RX1 61 yX2_at, Cond.methodLink RL 70 yX4_spectrum, Cond.instanceMethod yX4_spectrum, Cond.selects RX4 yX4_spectrum yX4_spectrum]
def wsL_law_r13 : List Cond := [Cond.code yX4_spectrum cX4_spectrum 11 (some .int), Cond.constantLong RX4 69 (3), Cond.methodLink RX4 65 yX4_primeOf, Cond.static yX4_primeOf, Cond.code yX4_primeOf cX4_primeOf 1 (some .long), Cond.constantLong RX4 57 (998244353), Cond.constantLong RX4 59 (167772161), Cond.constantLong RX4 61 (469762049), Cond.methodLink RX4 71 yX4_power, Cond.static yX4_power, Cond.code yX4_power cX4_power 12 (some .long), Cond.constantLong RX4 63 (2), Cond.methodLink RL 71 yX3_take, Cond.instanceMethod yX3_take, Cond.selects RX3 yX3_take yX3_take, Cond.code yX3_take cX3_take 2 (some .boolean), Cond.methodLink RX3 103 yX2_copyFrom, Cond.instanceMethod yX2_copyFrom, Cond.selects RX2 yX2_copyFrom yX2_copyFrom, Cond.code yX2_copyFrom cX2_copyFrom 2 none, Cond.methodLink RL 74 yX4_take, Cond.instanceMethod yX4_take, Cond.selects RX4 yX4_take yX4_take, Cond.code yX4_take cX4_take 3 (some .boolean)]
def wsL_law_r14 : List Cond := [Cond.methodLink RL 75 yX3_give, Cond.instanceMethod yX3_give, Cond.selects RX3 yX3_give yX3_give, Cond.code yX3_give cX3_give 2 (some .boolean), Cond.methodLink RL 78 yX4_give, Cond.instanceMethod yX4_give, Cond.selects RX4 yX4_give yX4_give, Cond.code yX4_give cX4_give 3 (some .boolean), Cond.methodLink RL 79 yX3_compare, Cond.instanceMethod yX3_compare, Cond.selects RX3 yX3_compare yX3_compare, Cond.code yX3_compare cX3_compare 1 (some .int), Cond.methodLink RX3 109 yX2_comparedTo, Cond.instanceMethod yX2_comparedTo, Cond.selects RX2 yX2_comparedTo yX2_comparedTo, Cond.code yX2_comparedTo cX2_comparedTo 5 (some .int), Cond.methodLink RL 82 yX4_compare, Cond.instanceMethod yX4_compare, Cond.selects RX4 yX4_compare yX4_compare, Cond.code yX4_compare cX4_compare 3 (some .int), Cond.methodLink RX4 75 yX4_digitOf, Cond.instanceMethod yX4_digitOf, Cond.selects RX4 yX4_digitOf yX4_digitOf, Cond.code yX4_digitOf cX4_digitOf 3 (some .int)]
def wsL_law_r15 : List Cond := [Cond.methodLink RL 83 yX3_rest, Cond.instanceMethod yX3_rest, Cond.selects RX3 yX3_rest yX3_rest, Cond.code yX3_rest cX3_rest 2 (some .int), Cond.constant RX3 113 (1000000000), Cond.methodLink RX3 114 yX2_remainder, Cond.instanceMethod yX2_remainder, Cond.selects RX2 yX2_remainder yX2_remainder, Cond.code yX2_remainder cX2_remainder 5 (some .int), Cond.constantLong RX2 36 (32768), Cond.methodLink RL 86 yX4_rest, Cond.instanceMethod yX4_rest, Cond.selects RX4 yX4_rest yX4_rest, Cond.code yX4_rest cX4_rest 5 (some .int), Cond.constant RX4 79 (1000000000)]
def wsL_law : List Cond := (wsL_law_r1 ++ (wsL_law_r2 ++ (wsL_law_r3 ++ (wsL_law_r4 ++ (wsL_law_r5 ++ (wsL_law_r6 ++ (wsL_law_r7 ++ (wsL_law_r8 ++ (wsL_law_r9 ++ (wsL_law_r10 ++ (wsL_law_r11 ++ (wsL_law_r12 ++ (wsL_law_r13 ++ (wsL_law_r14 ++ wsL_law_r15)))))))))))))) ++ wsX30 ++ wsX40 ++ wsX20 ++ wsX10 ++ wsX00 ++ ([] : List Cond)
set_option maxRecDepth 20000 in
theorem wsL_law_in : ∀ w ∈ wsL_law, w ∈ lw_tbl := fun w h => (goodIn_p wsL_law [303, 23, 26, 31, 48, 73, 308, 116, 120, 124, 127, 133, 338, 139, 143, 342, 147, 151, 155, 158, 357, 346, 349, 352, 162, 362, 166, 169, 173, 177, 181, 185, 189, 196, 200, 204, 208, 212, 216, 220, 224, 227, 232, 236, 366, 370, 375, 240, 244, 379, 248, 383, 252, 256, 387, 260, 391, 264, 268, 395, 398, 405, 274, 278, 410, 282, 414, 286, 290, 418, 422, 294, 299, 426] (by decide +kernel) (by decide +kernel) w h).1
theorem inlX0 : ∀ w ∈ wsX00, w ∈ wsL_law := fun _ h => List.mem_append_left _ (List.mem_append_right _ h)
theorem inX0 : ∀ w ∈ wsX00, w ∈ lw_tbl := fun w h => wsL_law_in w (inlX0 w h)
theorem inlX1 : ∀ w ∈ wsX10, w ∈ wsL_law := fun _ h => List.mem_append_left _ (List.mem_append_left _ (List.mem_append_right _ h))
theorem inX1 : ∀ w ∈ wsX10, w ∈ lw_tbl := fun w h => wsL_law_in w (inlX1 w h)
theorem inlX2 : ∀ w ∈ wsX20, w ∈ wsL_law := fun _ h => List.mem_append_left _ (List.mem_append_left _ (List.mem_append_left _ (List.mem_append_right _ h)))
theorem inX2 : ∀ w ∈ wsX20, w ∈ lw_tbl := fun w h => wsL_law_in w (inlX2 w h)
theorem inlX3 : ∀ w ∈ wsX30, w ∈ wsL_law := fun _ h => List.mem_append_left _ (List.mem_append_left _ (List.mem_append_left _ (List.mem_append_left _ (List.mem_append_left _ (List.mem_append_right _ h)))))
theorem inX3 : ∀ w ∈ wsX30, w ∈ lw_tbl := fun w h => wsL_law_in w (inlX3 w h)
theorem inlX4 : ∀ w ∈ wsX40, w ∈ wsL_law := fun _ h => List.mem_append_left _ (List.mem_append_left _ (List.mem_append_left _ (List.mem_append_left _ (List.mem_append_right _ h))))
theorem inX4 : ∀ w ∈ wsX40, w ∈ lw_tbl := fun w h => wsL_law_in w (inlX4 w h)
theorem inJ9 : ∀ w ∈ wsJ90, w ∈ lw_tbl := by decide +kernel
theorem inJ10 : ∀ w ∈ wsJ100, w ∈ lw_tbl := by decide +kernel
theorem inJ7 : ∀ w ∈ wsJ70, w ∈ lw_tbl := by decide +kernel
theorem dX0_init_0 : decode cX0_init 0 = .ok (.aload_n 0, 1) := by decide +kernel
theorem dX0_init_1 : decode cX0_init 1 = .ok (.invokespecial 1, 3) := by decide +kernel
theorem dX0_init_4 : decode cX0_init 4 = .ok (.aload_n 0, 1) := by decide +kernel
theorem dX0_init_5 : decode cX0_init 5 = .ok (.lconst 0, 1) := by decide +kernel
theorem dX0_init_6 : decode cX0_init 6 = .ok (.putfield 7, 3) := by decide +kernel
theorem dX0_init_9 : decode cX0_init 9 = .ok (.aload_n 0, 1) := by decide +kernel
theorem dX0_init_10 : decode cX0_init 10 = .ok (.lconst 0, 1) := by decide +kernel
theorem dX0_init_11 : decode cX0_init 11 = .ok (.putfield 13, 3) := by decide +kernel
theorem dX0_init_14 : decode cX0_init 14 = .ok (.return_, 1) := by decide +kernel
set_option maxRecDepth 20000 in
theorem ggX0_prepare_X3_inverse : GoodIn wsX0_prepare wsX3_inverse := goodIn_r _ [5, 6, 7, 8, 4, 9] (by decide +kernel) (by decide +kernel)
set_option maxRecDepth 20000 in
theorem gX0_prepare_X3_inverse_n22 : GoodIn wsX0_prepare (wsX3_inverse) := ggX0_prepare_X3_inverse
theorem dX0_prepare_0 : decode cX0_prepare 0 = .ok (.aload_n 0, 1) := by decide +kernel
theorem dX0_prepare_1 : decode cX0_prepare 1 = .ok (.getstatic 16, 3) := by decide +kernel
theorem dX0_prepare_4 : decode cX0_prepare 4 = .ok (.iconst 0, 1) := by decide +kernel
theorem dX0_prepare_5 : decode cX0_prepare 5 = .ok (.iaload, 1) := by decide +kernel
theorem dX0_prepare_6 : decode cX0_prepare 6 = .ok (.i2l, 1) := by decide +kernel
theorem dX0_prepare_7 : decode cX0_prepare 7 = .ok (.getstatic 16, 3) := by decide +kernel
theorem dX0_prepare_10 : decode cX0_prepare 10 = .ok (.iconst 1, 1) := by decide +kernel
theorem dX0_prepare_11 : decode cX0_prepare 11 = .ok (.iaload, 1) := by decide +kernel
theorem dX0_prepare_12 : decode cX0_prepare 12 = .ok (.i2l, 1) := by decide +kernel
theorem dX0_prepare_13 : decode cX0_prepare 13 = .ok (.invokestatic 22, 3) := by decide +kernel
theorem dX0_prepare_16 : decode cX0_prepare 16 = .ok (.putfield 7, 3) := by decide +kernel
theorem dX0_prepare_19 : decode cX0_prepare 19 = .ok (.aload_n 0, 1) := by decide +kernel
theorem dX0_prepare_20 : decode cX0_prepare 20 = .ok (.getstatic 16, 3) := by decide +kernel
theorem dX0_prepare_23 : decode cX0_prepare 23 = .ok (.iconst 0, 1) := by decide +kernel
theorem dX0_prepare_24 : decode cX0_prepare 24 = .ok (.iaload, 1) := by decide +kernel
theorem dX0_prepare_25 : decode cX0_prepare 25 = .ok (.i2l, 1) := by decide +kernel
theorem dX0_prepare_26 : decode cX0_prepare 26 = .ok (.getstatic 16, 3) := by decide +kernel
theorem dX0_prepare_29 : decode cX0_prepare 29 = .ok (.iconst 1, 1) := by decide +kernel
theorem dX0_prepare_30 : decode cX0_prepare 30 = .ok (.iaload, 1) := by decide +kernel
theorem dX0_prepare_31 : decode cX0_prepare 31 = .ok (.i2l, 1) := by decide +kernel
theorem dX0_prepare_32 : decode cX0_prepare 32 = .ok (.lmul, 1) := by decide +kernel
theorem dX0_prepare_33 : decode cX0_prepare 33 = .ok (.getstatic 16, 3) := by decide +kernel
theorem dX0_prepare_36 : decode cX0_prepare 36 = .ok (.iconst 2, 1) := by decide +kernel
theorem dX0_prepare_37 : decode cX0_prepare 37 = .ok (.iaload, 1) := by decide +kernel
theorem dX0_prepare_38 : decode cX0_prepare 38 = .ok (.i2l, 1) := by decide +kernel
theorem dX0_prepare_39 : decode cX0_prepare 39 = .ok (.invokestatic 22, 3) := by decide +kernel
theorem dX0_prepare_42 : decode cX0_prepare 42 = .ok (.putfield 13, 3) := by decide +kernel
theorem dX0_prepare_45 : decode cX0_prepare 45 = .ok (.return_, 1) := by decide +kernel
set_option maxRecDepth 20000 in
theorem ggX0_join_J9_floorMod_f86c9 : GoodIn wsX0_join wsJ9_floorMod_f86c9 := goodIn_r _ [6] (by decide +kernel) (by decide +kernel)
set_option maxRecDepth 20000 in
theorem gX0_join_J9_floorMod_f86c9 : GoodIn wsX0_join (va_wsS RX0 26 yJ9_floorMod_f86c9 wsJ9_floorMod_f86c9) := goodIn_app (goodIn_of _ (by decide +kernel)) ggX0_join_J9_floorMod_f86c9
theorem dX0_join_0 : decode cX0_join 0 = .ok (.getstatic 16, 3) := by decide +kernel
theorem dX0_join_3 : decode cX0_join 3 = .ok (.iconst 0, 1) := by decide +kernel
theorem dX0_join_4 : decode cX0_join 4 = .ok (.iaload, 1) := by decide +kernel
theorem dX0_join_5 : decode cX0_join 5 = .ok (.i2l, 1) := by decide +kernel
theorem dX0_join_6 : decode cX0_join 6 = .ok (.getstatic 16, 3) := by decide +kernel
theorem dX0_join_9 : decode cX0_join 9 = .ok (.iconst 1, 1) := by decide +kernel
theorem dX0_join_10 : decode cX0_join 10 = .ok (.iaload, 1) := by decide +kernel
theorem dX0_join_11 : decode cX0_join 11 = .ok (.i2l, 1) := by decide +kernel
theorem dX0_join_12 : decode cX0_join 12 = .ok (.lmul, 1) := by decide +kernel
theorem dX0_join_13 : decode cX0_join 13 = .ok (.lstore 7, 2) := by decide +kernel
theorem dX0_join_15 : decode cX0_join 15 = .ok (.lload_n 1, 1) := by decide +kernel
theorem dX0_join_16 : decode cX0_join 16 = .ok (.getstatic 16, 3) := by decide +kernel
theorem dX0_join_19 : decode cX0_join 19 = .ok (.iconst 0, 1) := by decide +kernel
theorem dX0_join_20 : decode cX0_join 20 = .ok (.iaload, 1) := by decide +kernel
theorem dX0_join_21 : decode cX0_join 21 = .ok (.i2l, 1) := by decide +kernel
theorem dX0_join_22 : decode cX0_join 22 = .ok (.lload_n 3, 1) := by decide +kernel
theorem dX0_join_23 : decode cX0_join 23 = .ok (.lload_n 1, 1) := by decide +kernel
theorem dX0_join_24 : decode cX0_join 24 = .ok (.lsub, 1) := by decide +kernel
theorem dX0_join_25 : decode cX0_join 25 = .ok (.getstatic 16, 3) := by decide +kernel
theorem dX0_join_28 : decode cX0_join 28 = .ok (.iconst 1, 1) := by decide +kernel
theorem dX0_join_29 : decode cX0_join 29 = .ok (.iaload, 1) := by decide +kernel
theorem dX0_join_30 : decode cX0_join 30 = .ok (.i2l, 1) := by decide +kernel
theorem dX0_join_31 : decode cX0_join 31 = .ok (.invokestatic 26, 3) := by decide +kernel
theorem dX0_join_34 : decode cX0_join 34 = .ok (.aload_n 0, 1) := by decide +kernel
theorem dX0_join_35 : decode cX0_join 35 = .ok (.getfield 7, 3) := by decide +kernel
theorem dX0_join_38 : decode cX0_join 38 = .ok (.lmul, 1) := by decide +kernel
theorem dX0_join_39 : decode cX0_join 39 = .ok (.getstatic 16, 3) := by decide +kernel
theorem dX0_join_42 : decode cX0_join 42 = .ok (.iconst 1, 1) := by decide +kernel
theorem dX0_join_43 : decode cX0_join 43 = .ok (.iaload, 1) := by decide +kernel
theorem dX0_join_44 : decode cX0_join 44 = .ok (.i2l, 1) := by decide +kernel
theorem dX0_join_45 : decode cX0_join 45 = .ok (.lrem, 1) := by decide +kernel
theorem dX0_join_46 : decode cX0_join 46 = .ok (.lmul, 1) := by decide +kernel
theorem dX0_join_47 : decode cX0_join 47 = .ok (.ladd, 1) := by decide +kernel
theorem dX0_join_48 : decode cX0_join 48 = .ok (.lstore 9, 2) := by decide +kernel
theorem dX0_join_50 : decode cX0_join 50 = .ok (.lload 5, 2) := by decide +kernel
theorem dX0_join_52 : decode cX0_join 52 = .ok (.lload 9, 2) := by decide +kernel
theorem dX0_join_54 : decode cX0_join 54 = .ok (.lsub, 1) := by decide +kernel
theorem dX0_join_55 : decode cX0_join 55 = .ok (.getstatic 16, 3) := by decide +kernel
theorem dX0_join_58 : decode cX0_join 58 = .ok (.iconst 2, 1) := by decide +kernel
theorem dX0_join_59 : decode cX0_join 59 = .ok (.iaload, 1) := by decide +kernel
theorem dX0_join_60 : decode cX0_join 60 = .ok (.i2l, 1) := by decide +kernel
theorem dX0_join_61 : decode cX0_join 61 = .ok (.invokestatic 26, 3) := by decide +kernel
theorem dX0_join_64 : decode cX0_join 64 = .ok (.aload_n 0, 1) := by decide +kernel
theorem dX0_join_65 : decode cX0_join 65 = .ok (.getfield 13, 3) := by decide +kernel
theorem dX0_join_68 : decode cX0_join 68 = .ok (.lmul, 1) := by decide +kernel
theorem dX0_join_69 : decode cX0_join 69 = .ok (.getstatic 16, 3) := by decide +kernel
theorem dX0_join_72 : decode cX0_join 72 = .ok (.iconst 2, 1) := by decide +kernel
theorem dX0_join_73 : decode cX0_join 73 = .ok (.iaload, 1) := by decide +kernel
theorem dX0_join_74 : decode cX0_join 74 = .ok (.i2l, 1) := by decide +kernel
theorem dX0_join_75 : decode cX0_join 75 = .ok (.lrem, 1) := by decide +kernel
theorem dX0_join_76 : decode cX0_join 76 = .ok (.lstore 11, 2) := by decide +kernel
theorem dX0_join_78 : decode cX0_join 78 = .ok (.lload 9, 2) := by decide +kernel
theorem dX0_join_80 : decode cX0_join 80 = .ok (.lload 7, 2) := by decide +kernel
theorem dX0_join_82 : decode cX0_join 82 = .ok (.lload 11, 2) := by decide +kernel
theorem dX0_join_84 : decode cX0_join 84 = .ok (.lmul, 1) := by decide +kernel
theorem dX0_join_85 : decode cX0_join 85 = .ok (.ladd, 1) := by decide +kernel
theorem dX0_join_86 : decode cX0_join 86 = .ok (.lreturn, 1) := by decide +kernel
theorem dX1_init_0 : decode cX1_init 0 = .ok (.aload_n 0, 1) := by decide +kernel
theorem dX1_init_1 : decode cX1_init 1 = .ok (.invokespecial 3, 3) := by decide +kernel
theorem dX1_init_4 : decode cX1_init 4 = .ok (.aload_n 0, 1) := by decide +kernel
theorem dX1_init_5 : decode cX1_init 5 = .ok (.iload_n 1, 1) := by decide +kernel
theorem dX1_init_6 : decode cX1_init 6 = .ok (.putfield 9, 3) := by decide +kernel
theorem dX1_init_9 : decode cX1_init 9 = .ok (.aload_n 0, 1) := by decide +kernel
theorem dX1_init_10 : decode cX1_init 10 = .ok (.iload_n 2, 1) := by decide +kernel
theorem dX1_init_11 : decode cX1_init 11 = .ok (.putfield 15, 3) := by decide +kernel
theorem dX1_init_14 : decode cX1_init 14 = .ok (.aload_n 0, 1) := by decide +kernel
theorem dX1_init_15 : decode cX1_init 15 = .ok (.iconst 1, 1) := by decide +kernel
theorem dX1_init_16 : decode cX1_init 16 = .ok (.iload_n 2, 1) := by decide +kernel
theorem dX1_init_17 : decode cX1_init 17 = .ok (.ishl, 1) := by decide +kernel
theorem dX1_init_18 : decode cX1_init 18 = .ok (.putfield 18, 3) := by decide +kernel
theorem dX1_init_21 : decode cX1_init 21 = .ok (.aload_n 0, 1) := by decide +kernel
theorem dX1_init_22 : decode cX1_init 22 = .ok (.aload_n 0, 1) := by decide +kernel
theorem dX1_init_23 : decode cX1_init 23 = .ok (.getfield 18, 3) := by decide +kernel
theorem dX1_init_26 : decode cX1_init 26 = .ok (.iconst 2, 1) := by decide +kernel
theorem dX1_init_27 : decode cX1_init 27 = .ok (.idiv, 1) := by decide +kernel
theorem dX1_init_28 : decode cX1_init 28 = .ok (.newarray .int, 2) := by decide +kernel
theorem dX1_init_30 : decode cX1_init 30 = .ok (.putfield 21, 3) := by decide +kernel
theorem dX1_init_33 : decode cX1_init 33 = .ok (.aload_n 0, 1) := by decide +kernel
theorem dX1_init_34 : decode cX1_init 34 = .ok (.aload_n 0, 1) := by decide +kernel
theorem dX1_init_35 : decode cX1_init 35 = .ok (.getfield 18, 3) := by decide +kernel
theorem dX1_init_38 : decode cX1_init 38 = .ok (.newarray .int, 2) := by decide +kernel
theorem dX1_init_40 : decode cX1_init 40 = .ok (.putfield 25, 3) := by decide +kernel
theorem dX1_init_43 : decode cX1_init 43 = .ok (.aload_n 0, 1) := by decide +kernel
theorem dX1_init_44 : decode cX1_init 44 = .ok (.lconst 0, 1) := by decide +kernel
theorem dX1_init_45 : decode cX1_init 45 = .ok (.putfield 28, 3) := by decide +kernel
theorem dX1_init_48 : decode cX1_init 48 = .ok (.return_, 1) := by decide +kernel
set_option maxRecDepth 20000 in
theorem ggX1_prepare_X3_power : GoodIn wsX1_prepare wsX3_power := goodIn_r _ [8] (by decide +kernel) (by decide +kernel)
set_option maxRecDepth 20000 in
theorem gX1_prepare_X3_power_n34 : GoodIn wsX1_prepare (wsX3_power) := ggX1_prepare_X3_power
set_option maxRecDepth 20000 in
theorem ggX1_prepare_X3_inverse : GoodIn wsX1_prepare wsX3_inverse := goodIn_r _ [10, 11, 12, 6, 7, 8] (by decide +kernel) (by decide +kernel)
set_option maxRecDepth 20000 in
theorem gX1_prepare_X3_inverse_n38 : GoodIn wsX1_prepare (wsX3_inverse) := ggX1_prepare_X3_inverse
theorem dX1_prepare_0 : decode cX1_prepare 0 = .ok (.ldc2_w 32, 3) := by decide +kernel
theorem dX1_prepare_3 : decode cX1_prepare 3 = .ok (.aload_n 0, 1) := by decide +kernel
theorem dX1_prepare_4 : decode cX1_prepare 4 = .ok (.getfield 9, 3) := by decide +kernel
theorem dX1_prepare_7 : decode cX1_prepare 7 = .ok (.iconst 1, 1) := by decide +kernel
theorem dX1_prepare_8 : decode cX1_prepare 8 = .ok (.isub, 1) := by decide +kernel
theorem dX1_prepare_9 : decode cX1_prepare 9 = .ok (.aload_n 0, 1) := by decide +kernel
theorem dX1_prepare_10 : decode cX1_prepare 10 = .ok (.getfield 18, 3) := by decide +kernel
theorem dX1_prepare_13 : decode cX1_prepare 13 = .ok (.idiv, 1) := by decide +kernel
theorem dX1_prepare_14 : decode cX1_prepare 14 = .ok (.i2l, 1) := by decide +kernel
theorem dX1_prepare_15 : decode cX1_prepare 15 = .ok (.aload_n 0, 1) := by decide +kernel
theorem dX1_prepare_16 : decode cX1_prepare 16 = .ok (.getfield 9, 3) := by decide +kernel
theorem dX1_prepare_19 : decode cX1_prepare 19 = .ok (.i2l, 1) := by decide +kernel
theorem dX1_prepare_20 : decode cX1_prepare 20 = .ok (.invokestatic 34, 3) := by decide +kernel
theorem dX1_prepare_23 : decode cX1_prepare 23 = .ok (.lstore_n 1, 1) := by decide +kernel
theorem dX1_prepare_24 : decode cX1_prepare 24 = .ok (.lconst 1, 1) := by decide +kernel
theorem dX1_prepare_25 : decode cX1_prepare 25 = .ok (.lstore_n 3, 1) := by decide +kernel
theorem dX1_prepare_26 : decode cX1_prepare 26 = .ok (.iconst 0, 1) := by decide +kernel
theorem dX1_prepare_27 : decode cX1_prepare 27 = .ok (.istore 5, 2) := by decide +kernel
theorem dX1_prepare_29 : decode cX1_prepare 29 = .ok (.iload 5, 2) := by decide +kernel
theorem dX1_prepare_31 : decode cX1_prepare 31 = .ok (.aload_n 0, 1) := by decide +kernel
theorem dX1_prepare_32 : decode cX1_prepare 32 = .ok (.getfield 21, 3) := by decide +kernel
theorem dX1_prepare_35 : decode cX1_prepare 35 = .ok (.arraylength, 1) := by decide +kernel
theorem dX1_prepare_36 : decode cX1_prepare 36 = .ok (.if_icmp .ge 28, 3) := by decide +kernel
theorem dX1_prepare_39 : decode cX1_prepare 39 = .ok (.aload_n 0, 1) := by decide +kernel
theorem dX1_prepare_40 : decode cX1_prepare 40 = .ok (.getfield 21, 3) := by decide +kernel
theorem dX1_prepare_43 : decode cX1_prepare 43 = .ok (.iload 5, 2) := by decide +kernel
theorem dX1_prepare_45 : decode cX1_prepare 45 = .ok (.lload_n 3, 1) := by decide +kernel
theorem dX1_prepare_46 : decode cX1_prepare 46 = .ok (.l2i, 1) := by decide +kernel
theorem dX1_prepare_47 : decode cX1_prepare 47 = .ok (.iastore, 1) := by decide +kernel
theorem dX1_prepare_48 : decode cX1_prepare 48 = .ok (.lload_n 3, 1) := by decide +kernel
theorem dX1_prepare_49 : decode cX1_prepare 49 = .ok (.lload_n 1, 1) := by decide +kernel
theorem dX1_prepare_50 : decode cX1_prepare 50 = .ok (.lmul, 1) := by decide +kernel
theorem dX1_prepare_51 : decode cX1_prepare 51 = .ok (.aload_n 0, 1) := by decide +kernel
theorem dX1_prepare_52 : decode cX1_prepare 52 = .ok (.getfield 9, 3) := by decide +kernel
theorem dX1_prepare_55 : decode cX1_prepare 55 = .ok (.i2l, 1) := by decide +kernel
theorem dX1_prepare_56 : decode cX1_prepare 56 = .ok (.lrem, 1) := by decide +kernel
theorem dX1_prepare_57 : decode cX1_prepare 57 = .ok (.lstore_n 3, 1) := by decide +kernel
theorem dX1_prepare_58 : decode cX1_prepare 58 = .ok (.iinc 5 1, 3) := by decide +kernel
theorem dX1_prepare_61 : decode cX1_prepare 61 = .ok (.goto (-32), 3) := by decide +kernel
theorem dX1_prepare_64 : decode cX1_prepare 64 = .ok (.aload_n 0, 1) := by decide +kernel
theorem dX1_prepare_65 : decode cX1_prepare 65 = .ok (.aload_n 0, 1) := by decide +kernel
theorem dX1_prepare_66 : decode cX1_prepare 66 = .ok (.getfield 18, 3) := by decide +kernel
theorem dX1_prepare_69 : decode cX1_prepare 69 = .ok (.i2l, 1) := by decide +kernel
theorem dX1_prepare_70 : decode cX1_prepare 70 = .ok (.aload_n 0, 1) := by decide +kernel
theorem dX1_prepare_71 : decode cX1_prepare 71 = .ok (.getfield 9, 3) := by decide +kernel
theorem dX1_prepare_74 : decode cX1_prepare 74 = .ok (.i2l, 1) := by decide +kernel
theorem dX1_prepare_75 : decode cX1_prepare 75 = .ok (.invokestatic 38, 3) := by decide +kernel
theorem dX1_prepare_78 : decode cX1_prepare 78 = .ok (.putfield 28, 3) := by decide +kernel
theorem dX1_prepare_81 : decode cX1_prepare 81 = .ok (.return_, 1) := by decide +kernel
set_option maxRecDepth 20000 in
theorem ggX1_convolve_X2_spreadInto : GoodIn wsX1_convolve wsX2_spreadInto := goodIn_r _ [6, 7, 8, 9, 10, 11, 12, 13, 14, 15, 16, 17, 18, 19, 51, 52] (by decide +kernel) (by decide +kernel)
set_option maxRecDepth 20000 in
theorem gX1_convolve_X2_spreadInto : GoodIn wsX1_convolve (wsV RX1 42 RX2 yX2_spreadInto wsX2_spreadInto) := goodIn_app (goodIn_of _ (by decide +kernel)) ggX1_convolve_X2_spreadInto
set_option maxRecDepth 20000 in
theorem ggX1_convolve_X1_toSpectrum : GoodIn wsX1_convolve wsX1_toSpectrum := goodIn_r _ [24, 25, 26, 27, 28, 23, 29, 30, 31, 32, 45, 46, 47, 48, 49, 50] (by decide +kernel) (by decide +kernel)
set_option maxRecDepth 20000 in
theorem gX1_convolve_X1_toSpectrum : GoodIn wsX1_convolve (wsV RX1 48 RX1 yX1_toSpectrum wsX1_toSpectrum) := goodIn_app (goodIn_of _ (by decide +kernel)) ggX1_convolve_X1_toSpectrum
set_option maxRecDepth 20000 in
theorem ggX1_convolve_X1_multiplyEach : GoodIn wsX1_convolve wsX1_multiplyEach := goodIn_r _ [36, 30, 1, 31, 45, 46, 47, 48, 49, 50] (by decide +kernel) (by decide +kernel)
set_option maxRecDepth 20000 in
theorem gX1_convolve_X1_multiplyEach : GoodIn wsX1_convolve (wsV RX1 51 RX1 yX1_multiplyEach wsX1_multiplyEach) := goodIn_app (goodIn_of _ (by decide +kernel)) ggX1_convolve_X1_multiplyEach
set_option maxRecDepth 20000 in
theorem ggX1_convolve_X1_fromSpectrum : GoodIn wsX1_convolve wsX1_fromSpectrum := goodIn_r _ [40, 25, 41, 42, 43, 23, 44, 30, 32, 31, 45, 46, 47, 48, 49, 50] (by decide +kernel) (by decide +kernel)
set_option maxRecDepth 20000 in
theorem gX1_convolve_X1_fromSpectrum : GoodIn wsX1_convolve (wsV RX1 54 RX1 yX1_fromSpectrum wsX1_fromSpectrum) := goodIn_app (goodIn_of _ (by decide +kernel)) ggX1_convolve_X1_fromSpectrum
theorem dX1_convolve_0 : decode cX1_convolve 0 = .ok (.aload_n 1, 1) := by decide +kernel
theorem dX1_convolve_1 : decode cX1_convolve 1 = .ok (.aload_n 0, 1) := by decide +kernel
theorem dX1_convolve_2 : decode cX1_convolve 2 = .ok (.getfield 25, 3) := by decide +kernel
theorem dX1_convolve_5 : decode cX1_convolve 5 = .ok (.invokevirtual 42, 3) := by decide +kernel
theorem dX1_convolve_8 : decode cX1_convolve 8 = .ok (.aload_n 0, 1) := by decide +kernel
theorem dX1_convolve_9 : decode cX1_convolve 9 = .ok (.aload_n 0, 1) := by decide +kernel
theorem dX1_convolve_10 : decode cX1_convolve 10 = .ok (.getfield 25, 3) := by decide +kernel
theorem dX1_convolve_13 : decode cX1_convolve 13 = .ok (.invokevirtual 48, 3) := by decide +kernel
theorem dX1_convolve_16 : decode cX1_convolve 16 = .ok (.aload_n 2, 1) := by decide +kernel
theorem dX1_convolve_17 : decode cX1_convolve 17 = .ok (.aload_n 3, 1) := by decide +kernel
theorem dX1_convolve_18 : decode cX1_convolve 18 = .ok (.invokevirtual 42, 3) := by decide +kernel
theorem dX1_convolve_21 : decode cX1_convolve 21 = .ok (.aload_n 0, 1) := by decide +kernel
theorem dX1_convolve_22 : decode cX1_convolve 22 = .ok (.aload_n 3, 1) := by decide +kernel
theorem dX1_convolve_23 : decode cX1_convolve 23 = .ok (.invokevirtual 48, 3) := by decide +kernel
theorem dX1_convolve_26 : decode cX1_convolve 26 = .ok (.aload_n 0, 1) := by decide +kernel
theorem dX1_convolve_27 : decode cX1_convolve 27 = .ok (.aload_n 3, 1) := by decide +kernel
theorem dX1_convolve_28 : decode cX1_convolve 28 = .ok (.invokevirtual 51, 3) := by decide +kernel
theorem dX1_convolve_31 : decode cX1_convolve 31 = .ok (.aload_n 0, 1) := by decide +kernel
theorem dX1_convolve_32 : decode cX1_convolve 32 = .ok (.aload_n 0, 1) := by decide +kernel
theorem dX1_convolve_33 : decode cX1_convolve 33 = .ok (.getfield 25, 3) := by decide +kernel
theorem dX1_convolve_36 : decode cX1_convolve 36 = .ok (.invokevirtual 54, 3) := by decide +kernel
theorem dX1_convolve_39 : decode cX1_convolve 39 = .ok (.return_, 1) := by decide +kernel
set_option maxRecDepth 20000 in
theorem ggX1_convolveWithItself_X2_spreadInto : GoodIn wsX1_convolveWithItself wsX2_spreadInto := goodIn_r _ [6, 7, 8, 9, 10, 11, 12, 13, 14, 15, 16, 17, 18, 19, 51, 52] (by decide +kernel) (by decide +kernel)
set_option maxRecDepth 20000 in
theorem gX1_convolveWithItself_X2_spreadInto : GoodIn wsX1_convolveWithItself (wsV RX1 42 RX2 yX2_spreadInto wsX2_spreadInto) := goodIn_app (goodIn_of _ (by decide +kernel)) ggX1_convolveWithItself_X2_spreadInto
set_option maxRecDepth 20000 in
theorem ggX1_convolveWithItself_X1_toSpectrum : GoodIn wsX1_convolveWithItself wsX1_toSpectrum := goodIn_r _ [24, 25, 26, 27, 28, 23, 29, 30, 31, 32, 45, 46, 47, 48, 49, 50] (by decide +kernel) (by decide +kernel)
set_option maxRecDepth 20000 in
theorem gX1_convolveWithItself_X1_toSpectrum : GoodIn wsX1_convolveWithItself (wsV RX1 48 RX1 yX1_toSpectrum wsX1_toSpectrum) := goodIn_app (goodIn_of _ (by decide +kernel)) ggX1_convolveWithItself_X1_toSpectrum
set_option maxRecDepth 20000 in
theorem ggX1_convolveWithItself_X1_multiplyEach : GoodIn wsX1_convolveWithItself wsX1_multiplyEach := goodIn_r _ [36, 30, 1, 31, 45, 46, 47, 48, 49, 50] (by decide +kernel) (by decide +kernel)
set_option maxRecDepth 20000 in
theorem gX1_convolveWithItself_X1_multiplyEach : GoodIn wsX1_convolveWithItself (wsV RX1 51 RX1 yX1_multiplyEach wsX1_multiplyEach) := goodIn_app (goodIn_of _ (by decide +kernel)) ggX1_convolveWithItself_X1_multiplyEach
set_option maxRecDepth 20000 in
theorem ggX1_convolveWithItself_X1_fromSpectrum : GoodIn wsX1_convolveWithItself wsX1_fromSpectrum := goodIn_r _ [40, 25, 41, 42, 43, 23, 44, 30, 32, 31, 45, 46, 47, 48, 49, 50] (by decide +kernel) (by decide +kernel)
set_option maxRecDepth 20000 in
theorem gX1_convolveWithItself_X1_fromSpectrum : GoodIn wsX1_convolveWithItself (wsV RX1 54 RX1 yX1_fromSpectrum wsX1_fromSpectrum) := goodIn_app (goodIn_of _ (by decide +kernel)) ggX1_convolveWithItself_X1_fromSpectrum
theorem dX1_convolveWithItself_0 : decode cX1_convolveWithItself 0 = .ok (.aload_n 1, 1) := by decide +kernel
theorem dX1_convolveWithItself_1 : decode cX1_convolveWithItself 1 = .ok (.aload_n 0, 1) := by decide +kernel
theorem dX1_convolveWithItself_2 : decode cX1_convolveWithItself 2 = .ok (.getfield 25, 3) := by decide +kernel
theorem dX1_convolveWithItself_5 : decode cX1_convolveWithItself 5 = .ok (.invokevirtual 42, 3) := by decide +kernel
theorem dX1_convolveWithItself_8 : decode cX1_convolveWithItself 8 = .ok (.aload_n 0, 1) := by decide +kernel
theorem dX1_convolveWithItself_9 : decode cX1_convolveWithItself 9 = .ok (.aload_n 0, 1) := by decide +kernel
theorem dX1_convolveWithItself_10 : decode cX1_convolveWithItself 10 = .ok (.getfield 25, 3) := by decide +kernel
theorem dX1_convolveWithItself_13 : decode cX1_convolveWithItself 13 = .ok (.invokevirtual 48, 3) := by decide +kernel
theorem dX1_convolveWithItself_16 : decode cX1_convolveWithItself 16 = .ok (.aload_n 0, 1) := by decide +kernel
theorem dX1_convolveWithItself_17 : decode cX1_convolveWithItself 17 = .ok (.aload_n 0, 1) := by decide +kernel
theorem dX1_convolveWithItself_18 : decode cX1_convolveWithItself 18 = .ok (.getfield 25, 3) := by decide +kernel
theorem dX1_convolveWithItself_21 : decode cX1_convolveWithItself 21 = .ok (.invokevirtual 51, 3) := by decide +kernel
theorem dX1_convolveWithItself_24 : decode cX1_convolveWithItself 24 = .ok (.aload_n 0, 1) := by decide +kernel
theorem dX1_convolveWithItself_25 : decode cX1_convolveWithItself 25 = .ok (.aload_n 0, 1) := by decide +kernel
theorem dX1_convolveWithItself_26 : decode cX1_convolveWithItself 26 = .ok (.getfield 25, 3) := by decide +kernel
theorem dX1_convolveWithItself_29 : decode cX1_convolveWithItself 29 = .ok (.invokevirtual 54, 3) := by decide +kernel
theorem dX1_convolveWithItself_32 : decode cX1_convolveWithItself 32 = .ok (.return_, 1) := by decide +kernel
theorem dX1_coefficient_0 : decode cX1_coefficient 0 = .ok (.aload_n 0, 1) := by decide +kernel
theorem dX1_coefficient_1 : decode cX1_coefficient 1 = .ok (.getfield 25, 3) := by decide +kernel
theorem dX1_coefficient_4 : decode cX1_coefficient 4 = .ok (.aload_n 0, 1) := by decide +kernel
theorem dX1_coefficient_5 : decode cX1_coefficient 5 = .ok (.getfield 18, 3) := by decide +kernel
theorem dX1_coefficient_8 : decode cX1_coefficient 8 = .ok (.iload_n 1, 1) := by decide +kernel
theorem dX1_coefficient_9 : decode cX1_coefficient 9 = .ok (.isub, 1) := by decide +kernel
theorem dX1_coefficient_10 : decode cX1_coefficient 10 = .ok (.aload_n 0, 1) := by decide +kernel
theorem dX1_coefficient_11 : decode cX1_coefficient 11 = .ok (.getfield 18, 3) := by decide +kernel
theorem dX1_coefficient_14 : decode cX1_coefficient 14 = .ok (.iconst 1, 1) := by decide +kernel
theorem dX1_coefficient_15 : decode cX1_coefficient 15 = .ok (.isub, 1) := by decide +kernel
theorem dX1_coefficient_16 : decode cX1_coefficient 16 = .ok (.iand, 1) := by decide +kernel
theorem dX1_coefficient_17 : decode cX1_coefficient 17 = .ok (.iaload, 1) := by decide +kernel
theorem dX1_coefficient_18 : decode cX1_coefficient 18 = .ok (.i2l, 1) := by decide +kernel
theorem dX1_coefficient_19 : decode cX1_coefficient 19 = .ok (.aload_n 0, 1) := by decide +kernel
theorem dX1_coefficient_20 : decode cX1_coefficient 20 = .ok (.getfield 28, 3) := by decide +kernel
theorem dX1_coefficient_23 : decode cX1_coefficient 23 = .ok (.lmul, 1) := by decide +kernel
theorem dX1_coefficient_24 : decode cX1_coefficient 24 = .ok (.aload_n 0, 1) := by decide +kernel
theorem dX1_coefficient_25 : decode cX1_coefficient 25 = .ok (.getfield 9, 3) := by decide +kernel
theorem dX1_coefficient_28 : decode cX1_coefficient 28 = .ok (.i2l, 1) := by decide +kernel
theorem dX1_coefficient_29 : decode cX1_coefficient 29 = .ok (.lrem, 1) := by decide +kernel
theorem dX1_coefficient_30 : decode cX1_coefficient 30 = .ok (.l2i, 1) := by decide +kernel
theorem dX1_coefficient_31 : decode cX1_coefficient 31 = .ok (.ireturn, 1) := by decide +kernel
set_option maxRecDepth 20000 in
theorem ggX1_spectrumNumber_X2_count : GoodIn wsX1_spectrumNumber wsX2_count := goodIn_r _ [7, 8, 20, 21] (by decide +kernel) (by decide +kernel)
set_option maxRecDepth 20000 in
theorem gX1_spectrumNumber_X2_count : GoodIn wsX1_spectrumNumber (wsV RX1 57 RX2 yX2_count wsX2_count) := goodIn_app (goodIn_of _ (by decide +kernel)) ggX1_spectrumNumber_X2_count
set_option maxRecDepth 20000 in
theorem ggX1_spectrumNumber_X2_at : GoodIn wsX1_spectrumNumber wsX2_at := goodIn_r _ [12, 13, 20, 21] (by decide +kernel) (by decide +kernel)
set_option maxRecDepth 20000 in
theorem gX1_spectrumNumber_X2_at : GoodIn wsX1_spectrumNumber (wsV RX1 61 RX2 yX2_at wsX2_at) := goodIn_app (goodIn_of _ (by decide +kernel)) ggX1_spectrumNumber_X2_at
theorem dX1_spectrumNumber_0 : decode cX1_spectrumNumber 0 = .ok (.iload_n 2, 1) := by decide +kernel
theorem dX1_spectrumNumber_1 : decode cX1_spectrumNumber 1 = .ok (.aload_n 0, 1) := by decide +kernel
theorem dX1_spectrumNumber_2 : decode cX1_spectrumNumber 2 = .ok (.getfield 21, 3) := by decide +kernel
theorem dX1_spectrumNumber_5 : decode cX1_spectrumNumber 5 = .ok (.arraylength, 1) := by decide +kernel
theorem dX1_spectrumNumber_6 : decode cX1_spectrumNumber 6 = .ok (.if_icmp .ge 13, 3) := by decide +kernel
theorem dX1_spectrumNumber_9 : decode cX1_spectrumNumber 9 = .ok (.aload_n 0, 1) := by decide +kernel
theorem dX1_spectrumNumber_10 : decode cX1_spectrumNumber 10 = .ok (.getfield 21, 3) := by decide +kernel
theorem dX1_spectrumNumber_13 : decode cX1_spectrumNumber 13 = .ok (.iload_n 2, 1) := by decide +kernel
theorem dX1_spectrumNumber_14 : decode cX1_spectrumNumber 14 = .ok (.iaload, 1) := by decide +kernel
theorem dX1_spectrumNumber_15 : decode cX1_spectrumNumber 15 = .ok (.i2l, 1) := by decide +kernel
theorem dX1_spectrumNumber_16 : decode cX1_spectrumNumber 16 = .ok (.goto 21, 3) := by decide +kernel
theorem dX1_spectrumNumber_19 : decode cX1_spectrumNumber 19 = .ok (.aload_n 0, 1) := by decide +kernel
theorem dX1_spectrumNumber_20 : decode cX1_spectrumNumber 20 = .ok (.getfield 9, 3) := by decide +kernel
theorem dX1_spectrumNumber_23 : decode cX1_spectrumNumber 23 = .ok (.aload_n 0, 1) := by decide +kernel
theorem dX1_spectrumNumber_24 : decode cX1_spectrumNumber 24 = .ok (.getfield 21, 3) := by decide +kernel
theorem dX1_spectrumNumber_27 : decode cX1_spectrumNumber 27 = .ok (.iload_n 2, 1) := by decide +kernel
theorem dX1_spectrumNumber_28 : decode cX1_spectrumNumber 28 = .ok (.aload_n 0, 1) := by decide +kernel
theorem dX1_spectrumNumber_29 : decode cX1_spectrumNumber 29 = .ok (.getfield 21, 3) := by decide +kernel
theorem dX1_spectrumNumber_32 : decode cX1_spectrumNumber 32 = .ok (.arraylength, 1) := by decide +kernel
theorem dX1_spectrumNumber_33 : decode cX1_spectrumNumber 33 = .ok (.isub, 1) := by decide +kernel
theorem dX1_spectrumNumber_34 : decode cX1_spectrumNumber 34 = .ok (.iaload, 1) := by decide +kernel
theorem dX1_spectrumNumber_35 : decode cX1_spectrumNumber 35 = .ok (.isub, 1) := by decide +kernel
theorem dX1_spectrumNumber_36 : decode cX1_spectrumNumber 36 = .ok (.i2l, 1) := by decide +kernel
theorem dX1_spectrumNumber_37 : decode cX1_spectrumNumber 37 = .ok (.lstore_n 3, 1) := by decide +kernel
theorem dX1_spectrumNumber_38 : decode cX1_spectrumNumber 38 = .ok (.lconst 0, 1) := by decide +kernel
theorem dX1_spectrumNumber_39 : decode cX1_spectrumNumber 39 = .ok (.lstore 5, 2) := by decide +kernel
theorem dX1_spectrumNumber_41 : decode cX1_spectrumNumber 41 = .ok (.aload_n 1, 1) := by decide +kernel
theorem dX1_spectrumNumber_42 : decode cX1_spectrumNumber 42 = .ok (.invokevirtual 57, 3) := by decide +kernel
theorem dX1_spectrumNumber_45 : decode cX1_spectrumNumber 45 = .ok (.iconst 1, 1) := by decide +kernel
theorem dX1_spectrumNumber_46 : decode cX1_spectrumNumber 46 = .ok (.isub, 1) := by decide +kernel
theorem dX1_spectrumNumber_47 : decode cX1_spectrumNumber 47 = .ok (.istore 7, 2) := by decide +kernel
theorem dX1_spectrumNumber_49 : decode cX1_spectrumNumber 49 = .ok (.iload 7, 2) := by decide +kernel
theorem dX1_spectrumNumber_51 : decode cX1_spectrumNumber 51 = .ok (.ifCond .lt 29, 3) := by decide +kernel
theorem dX1_spectrumNumber_54 : decode cX1_spectrumNumber 54 = .ok (.lload 5, 2) := by decide +kernel
theorem dX1_spectrumNumber_56 : decode cX1_spectrumNumber 56 = .ok (.lload_n 3, 1) := by decide +kernel
theorem dX1_spectrumNumber_57 : decode cX1_spectrumNumber 57 = .ok (.lmul, 1) := by decide +kernel
theorem dX1_spectrumNumber_58 : decode cX1_spectrumNumber 58 = .ok (.aload_n 1, 1) := by decide +kernel
theorem dX1_spectrumNumber_59 : decode cX1_spectrumNumber 59 = .ok (.iload 7, 2) := by decide +kernel
theorem dX1_spectrumNumber_61 : decode cX1_spectrumNumber 61 = .ok (.invokevirtual 61, 3) := by decide +kernel
theorem dX1_spectrumNumber_64 : decode cX1_spectrumNumber 64 = .ok (.i2l, 1) := by decide +kernel
theorem dX1_spectrumNumber_65 : decode cX1_spectrumNumber 65 = .ok (.ladd, 1) := by decide +kernel
theorem dX1_spectrumNumber_66 : decode cX1_spectrumNumber 66 = .ok (.aload_n 0, 1) := by decide +kernel
theorem dX1_spectrumNumber_67 : decode cX1_spectrumNumber 67 = .ok (.getfield 9, 3) := by decide +kernel
theorem dX1_spectrumNumber_70 : decode cX1_spectrumNumber 70 = .ok (.i2l, 1) := by decide +kernel
theorem dX1_spectrumNumber_71 : decode cX1_spectrumNumber 71 = .ok (.lrem, 1) := by decide +kernel
theorem dX1_spectrumNumber_72 : decode cX1_spectrumNumber 72 = .ok (.lstore 5, 2) := by decide +kernel
theorem dX1_spectrumNumber_74 : decode cX1_spectrumNumber 74 = .ok (.iinc 7 (-1), 3) := by decide +kernel
theorem dX1_spectrumNumber_77 : decode cX1_spectrumNumber 77 = .ok (.goto (-28), 3) := by decide +kernel
theorem dX1_spectrumNumber_80 : decode cX1_spectrumNumber 80 = .ok (.lload 5, 2) := by decide +kernel
theorem dX1_spectrumNumber_82 : decode cX1_spectrumNumber 82 = .ok (.l2i, 1) := by decide +kernel
theorem dX1_spectrumNumber_83 : decode cX1_spectrumNumber 83 = .ok (.ireturn, 1) := by decide +kernel
theorem dX1_multiplyEach_0 : decode cX1_multiplyEach 0 = .ok (.iconst 0, 1) := by decide +kernel
theorem dX1_multiplyEach_1 : decode cX1_multiplyEach 1 = .ok (.istore_n 2, 1) := by decide +kernel
theorem dX1_multiplyEach_2 : decode cX1_multiplyEach 2 = .ok (.iload_n 2, 1) := by decide +kernel
theorem dX1_multiplyEach_3 : decode cX1_multiplyEach 3 = .ok (.aload_n 0, 1) := by decide +kernel
theorem dX1_multiplyEach_4 : decode cX1_multiplyEach 4 = .ok (.getfield 18, 3) := by decide +kernel
theorem dX1_multiplyEach_7 : decode cX1_multiplyEach 7 = .ok (.if_icmp .ge 34, 3) := by decide +kernel
theorem dX1_multiplyEach_10 : decode cX1_multiplyEach 10 = .ok (.aload_n 0, 1) := by decide +kernel
theorem dX1_multiplyEach_11 : decode cX1_multiplyEach 11 = .ok (.getfield 25, 3) := by decide +kernel
theorem dX1_multiplyEach_14 : decode cX1_multiplyEach 14 = .ok (.iload_n 2, 1) := by decide +kernel
theorem dX1_multiplyEach_15 : decode cX1_multiplyEach 15 = .ok (.aload_n 0, 1) := by decide +kernel
theorem dX1_multiplyEach_16 : decode cX1_multiplyEach 16 = .ok (.getfield 25, 3) := by decide +kernel
theorem dX1_multiplyEach_19 : decode cX1_multiplyEach 19 = .ok (.iload_n 2, 1) := by decide +kernel
theorem dX1_multiplyEach_20 : decode cX1_multiplyEach 20 = .ok (.iaload, 1) := by decide +kernel
theorem dX1_multiplyEach_21 : decode cX1_multiplyEach 21 = .ok (.i2l, 1) := by decide +kernel
theorem dX1_multiplyEach_22 : decode cX1_multiplyEach 22 = .ok (.aload_n 1, 1) := by decide +kernel
theorem dX1_multiplyEach_23 : decode cX1_multiplyEach 23 = .ok (.iload_n 2, 1) := by decide +kernel
theorem dX1_multiplyEach_24 : decode cX1_multiplyEach 24 = .ok (.iaload, 1) := by decide +kernel
theorem dX1_multiplyEach_25 : decode cX1_multiplyEach 25 = .ok (.i2l, 1) := by decide +kernel
theorem dX1_multiplyEach_26 : decode cX1_multiplyEach 26 = .ok (.lmul, 1) := by decide +kernel
theorem dX1_multiplyEach_27 : decode cX1_multiplyEach 27 = .ok (.aload_n 0, 1) := by decide +kernel
theorem dX1_multiplyEach_28 : decode cX1_multiplyEach 28 = .ok (.getfield 9, 3) := by decide +kernel
theorem dX1_multiplyEach_31 : decode cX1_multiplyEach 31 = .ok (.i2l, 1) := by decide +kernel
theorem dX1_multiplyEach_32 : decode cX1_multiplyEach 32 = .ok (.lrem, 1) := by decide +kernel
theorem dX1_multiplyEach_33 : decode cX1_multiplyEach 33 = .ok (.l2i, 1) := by decide +kernel
theorem dX1_multiplyEach_34 : decode cX1_multiplyEach 34 = .ok (.iastore, 1) := by decide +kernel
theorem dX1_multiplyEach_35 : decode cX1_multiplyEach 35 = .ok (.iinc 2 1, 3) := by decide +kernel
theorem dX1_multiplyEach_38 : decode cX1_multiplyEach 38 = .ok (.goto (-36), 3) := by decide +kernel
theorem dX1_multiplyEach_41 : decode cX1_multiplyEach 41 = .ok (.return_, 1) := by decide +kernel
set_option maxRecDepth 20000 in
theorem ggX1_toSpectrum_X1_splitBlock : GoodIn wsX1_toSpectrum wsX1_splitBlock := goodIn_r _ [6, 7, 8, 9, 10, 11, 12, 13, 14, 15] (by decide +kernel) (by decide +kernel)
set_option maxRecDepth 20000 in
theorem gX1_toSpectrum_X1_splitBlock : GoodIn wsX1_toSpectrum (wsV RX1 65 RX1 yX1_splitBlock wsX1_splitBlock) := goodIn_app (goodIn_of _ (by decide +kernel)) ggX1_toSpectrum_X1_splitBlock
theorem dX1_toSpectrum_0 : decode cX1_toSpectrum 0 = .ok (.iconst 0, 1) := by decide +kernel
theorem dX1_toSpectrum_1 : decode cX1_toSpectrum 1 = .ok (.istore_n 2, 1) := by decide +kernel
theorem dX1_toSpectrum_2 : decode cX1_toSpectrum 2 = .ok (.iload_n 2, 1) := by decide +kernel
theorem dX1_toSpectrum_3 : decode cX1_toSpectrum 3 = .ok (.aload_n 0, 1) := by decide +kernel
theorem dX1_toSpectrum_4 : decode cX1_toSpectrum 4 = .ok (.getfield 15, 3) := by decide +kernel
theorem dX1_toSpectrum_7 : decode cX1_toSpectrum 7 = .ok (.if_icmp .ge 31, 3) := by decide +kernel
theorem dX1_toSpectrum_10 : decode cX1_toSpectrum 10 = .ok (.iconst 0, 1) := by decide +kernel
theorem dX1_toSpectrum_11 : decode cX1_toSpectrum 11 = .ok (.istore_n 3, 1) := by decide +kernel
theorem dX1_toSpectrum_12 : decode cX1_toSpectrum 12 = .ok (.iload_n 3, 1) := by decide +kernel
theorem dX1_toSpectrum_13 : decode cX1_toSpectrum 13 = .ok (.iconst 1, 1) := by decide +kernel
theorem dX1_toSpectrum_14 : decode cX1_toSpectrum 14 = .ok (.iload_n 2, 1) := by decide +kernel
theorem dX1_toSpectrum_15 : decode cX1_toSpectrum 15 = .ok (.ishl, 1) := by decide +kernel
theorem dX1_toSpectrum_16 : decode cX1_toSpectrum 16 = .ok (.if_icmp .ge 16, 3) := by decide +kernel
theorem dX1_toSpectrum_19 : decode cX1_toSpectrum 19 = .ok (.aload_n 0, 1) := by decide +kernel
theorem dX1_toSpectrum_20 : decode cX1_toSpectrum 20 = .ok (.aload_n 1, 1) := by decide +kernel
theorem dX1_toSpectrum_21 : decode cX1_toSpectrum 21 = .ok (.iload_n 3, 1) := by decide +kernel
theorem dX1_toSpectrum_22 : decode cX1_toSpectrum 22 = .ok (.iload_n 2, 1) := by decide +kernel
theorem dX1_toSpectrum_23 : decode cX1_toSpectrum 23 = .ok (.invokevirtual 65, 3) := by decide +kernel
theorem dX1_toSpectrum_26 : decode cX1_toSpectrum 26 = .ok (.iinc 3 1, 3) := by decide +kernel
theorem dX1_toSpectrum_29 : decode cX1_toSpectrum 29 = .ok (.goto (-17), 3) := by decide +kernel
theorem dX1_toSpectrum_32 : decode cX1_toSpectrum 32 = .ok (.iinc 2 1, 3) := by decide +kernel
theorem dX1_toSpectrum_35 : decode cX1_toSpectrum 35 = .ok (.goto (-33), 3) := by decide +kernel
theorem dX1_toSpectrum_38 : decode cX1_toSpectrum 38 = .ok (.return_, 1) := by decide +kernel
set_option maxRecDepth 20000 in
theorem ggX1_fromSpectrum_X1_joinBlock : GoodIn wsX1_fromSpectrum wsX1_joinBlock := goodIn_r _ [6, 7, 8, 9, 10, 11, 12, 13, 14, 15] (by decide +kernel) (by decide +kernel)
set_option maxRecDepth 20000 in
theorem gX1_fromSpectrum_X1_joinBlock : GoodIn wsX1_fromSpectrum (wsV RX1 69 RX1 yX1_joinBlock wsX1_joinBlock) := goodIn_app (goodIn_of _ (by decide +kernel)) ggX1_fromSpectrum_X1_joinBlock
theorem dX1_fromSpectrum_0 : decode cX1_fromSpectrum 0 = .ok (.aload_n 0, 1) := by decide +kernel
theorem dX1_fromSpectrum_1 : decode cX1_fromSpectrum 1 = .ok (.getfield 15, 3) := by decide +kernel
theorem dX1_fromSpectrum_4 : decode cX1_fromSpectrum 4 = .ok (.iconst 1, 1) := by decide +kernel
theorem dX1_fromSpectrum_5 : decode cX1_fromSpectrum 5 = .ok (.isub, 1) := by decide +kernel
theorem dX1_fromSpectrum_6 : decode cX1_fromSpectrum 6 = .ok (.istore_n 2, 1) := by decide +kernel
theorem dX1_fromSpectrum_7 : decode cX1_fromSpectrum 7 = .ok (.iload_n 2, 1) := by decide +kernel
theorem dX1_fromSpectrum_8 : decode cX1_fromSpectrum 8 = .ok (.ifCond .lt 31, 3) := by decide +kernel
theorem dX1_fromSpectrum_11 : decode cX1_fromSpectrum 11 = .ok (.iconst 0, 1) := by decide +kernel
theorem dX1_fromSpectrum_12 : decode cX1_fromSpectrum 12 = .ok (.istore_n 3, 1) := by decide +kernel
theorem dX1_fromSpectrum_13 : decode cX1_fromSpectrum 13 = .ok (.iload_n 3, 1) := by decide +kernel
theorem dX1_fromSpectrum_14 : decode cX1_fromSpectrum 14 = .ok (.iconst 1, 1) := by decide +kernel
theorem dX1_fromSpectrum_15 : decode cX1_fromSpectrum 15 = .ok (.iload_n 2, 1) := by decide +kernel
theorem dX1_fromSpectrum_16 : decode cX1_fromSpectrum 16 = .ok (.ishl, 1) := by decide +kernel
theorem dX1_fromSpectrum_17 : decode cX1_fromSpectrum 17 = .ok (.if_icmp .ge 16, 3) := by decide +kernel
theorem dX1_fromSpectrum_20 : decode cX1_fromSpectrum 20 = .ok (.aload_n 0, 1) := by decide +kernel
theorem dX1_fromSpectrum_21 : decode cX1_fromSpectrum 21 = .ok (.aload_n 1, 1) := by decide +kernel
theorem dX1_fromSpectrum_22 : decode cX1_fromSpectrum 22 = .ok (.iload_n 3, 1) := by decide +kernel
theorem dX1_fromSpectrum_23 : decode cX1_fromSpectrum 23 = .ok (.iload_n 2, 1) := by decide +kernel
theorem dX1_fromSpectrum_24 : decode cX1_fromSpectrum 24 = .ok (.invokevirtual 69, 3) := by decide +kernel
theorem dX1_fromSpectrum_27 : decode cX1_fromSpectrum 27 = .ok (.iinc 3 1, 3) := by decide +kernel
theorem dX1_fromSpectrum_30 : decode cX1_fromSpectrum 30 = .ok (.goto (-17), 3) := by decide +kernel
theorem dX1_fromSpectrum_33 : decode cX1_fromSpectrum 33 = .ok (.iinc 2 (-1), 3) := by decide +kernel
theorem dX1_fromSpectrum_36 : decode cX1_fromSpectrum 36 = .ok (.goto (-29), 3) := by decide +kernel
theorem dX1_fromSpectrum_39 : decode cX1_fromSpectrum 39 = .ok (.return_, 1) := by decide +kernel
theorem dX1_splitBlock_0 : decode cX1_splitBlock 0 = .ok (.aload_n 0, 1) := by decide +kernel
theorem dX1_splitBlock_1 : decode cX1_splitBlock 1 = .ok (.getfield 18, 3) := by decide +kernel
theorem dX1_splitBlock_4 : decode cX1_splitBlock 4 = .ok (.iload_n 3, 1) := by decide +kernel
theorem dX1_splitBlock_5 : decode cX1_splitBlock 5 = .ok (.iconst 1, 1) := by decide +kernel
theorem dX1_splitBlock_6 : decode cX1_splitBlock 6 = .ok (.iadd, 1) := by decide +kernel
theorem dX1_splitBlock_7 : decode cX1_splitBlock 7 = .ok (.ishr, 1) := by decide +kernel
theorem dX1_splitBlock_8 : decode cX1_splitBlock 8 = .ok (.istore 4, 2) := by decide +kernel
theorem dX1_splitBlock_10 : decode cX1_splitBlock 10 = .ok (.iconst 2, 1) := by decide +kernel
theorem dX1_splitBlock_11 : decode cX1_splitBlock 11 = .ok (.iload 4, 2) := by decide +kernel
theorem dX1_splitBlock_13 : decode cX1_splitBlock 13 = .ok (.imul, 1) := by decide +kernel
theorem dX1_splitBlock_14 : decode cX1_splitBlock 14 = .ok (.iload_n 2, 1) := by decide +kernel
theorem dX1_splitBlock_15 : decode cX1_splitBlock 15 = .ok (.imul, 1) := by decide +kernel
theorem dX1_splitBlock_16 : decode cX1_splitBlock 16 = .ok (.istore 5, 2) := by decide +kernel
theorem dX1_splitBlock_18 : decode cX1_splitBlock 18 = .ok (.iconst 0, 1) := by decide +kernel
theorem dX1_splitBlock_19 : decode cX1_splitBlock 19 = .ok (.istore 6, 2) := by decide +kernel
theorem dX1_splitBlock_21 : decode cX1_splitBlock 21 = .ok (.iload 6, 2) := by decide +kernel
theorem dX1_splitBlock_23 : decode cX1_splitBlock 23 = .ok (.iload 4, 2) := by decide +kernel
theorem dX1_splitBlock_25 : decode cX1_splitBlock 25 = .ok (.if_icmp .ge 108, 3) := by decide +kernel
theorem dX1_splitBlock_28 : decode cX1_splitBlock 28 = .ok (.aload_n 1, 1) := by decide +kernel
theorem dX1_splitBlock_29 : decode cX1_splitBlock 29 = .ok (.iload 5, 2) := by decide +kernel
theorem dX1_splitBlock_31 : decode cX1_splitBlock 31 = .ok (.iload 6, 2) := by decide +kernel
theorem dX1_splitBlock_33 : decode cX1_splitBlock 33 = .ok (.iadd, 1) := by decide +kernel
theorem dX1_splitBlock_34 : decode cX1_splitBlock 34 = .ok (.iaload, 1) := by decide +kernel
theorem dX1_splitBlock_35 : decode cX1_splitBlock 35 = .ok (.istore 7, 2) := by decide +kernel
theorem dX1_splitBlock_37 : decode cX1_splitBlock 37 = .ok (.aload_n 1, 1) := by decide +kernel
theorem dX1_splitBlock_38 : decode cX1_splitBlock 38 = .ok (.iload 5, 2) := by decide +kernel
theorem dX1_splitBlock_40 : decode cX1_splitBlock 40 = .ok (.iload 6, 2) := by decide +kernel
theorem dX1_splitBlock_42 : decode cX1_splitBlock 42 = .ok (.iadd, 1) := by decide +kernel
theorem dX1_splitBlock_43 : decode cX1_splitBlock 43 = .ok (.iload 4, 2) := by decide +kernel
theorem dX1_splitBlock_45 : decode cX1_splitBlock 45 = .ok (.iadd, 1) := by decide +kernel
theorem dX1_splitBlock_46 : decode cX1_splitBlock 46 = .ok (.iaload, 1) := by decide +kernel
theorem dX1_splitBlock_47 : decode cX1_splitBlock 47 = .ok (.istore 8, 2) := by decide +kernel
theorem dX1_splitBlock_49 : decode cX1_splitBlock 49 = .ok (.iload 7, 2) := by decide +kernel
theorem dX1_splitBlock_51 : decode cX1_splitBlock 51 = .ok (.iload 8, 2) := by decide +kernel
theorem dX1_splitBlock_53 : decode cX1_splitBlock 53 = .ok (.iadd, 1) := by decide +kernel
theorem dX1_splitBlock_54 : decode cX1_splitBlock 54 = .ok (.istore 9, 2) := by decide +kernel
theorem dX1_splitBlock_56 : decode cX1_splitBlock 56 = .ok (.aload_n 1, 1) := by decide +kernel
theorem dX1_splitBlock_57 : decode cX1_splitBlock 57 = .ok (.iload 5, 2) := by decide +kernel
theorem dX1_splitBlock_59 : decode cX1_splitBlock 59 = .ok (.iload 6, 2) := by decide +kernel
theorem dX1_splitBlock_61 : decode cX1_splitBlock 61 = .ok (.iadd, 1) := by decide +kernel
theorem dX1_splitBlock_62 : decode cX1_splitBlock 62 = .ok (.iload 9, 2) := by decide +kernel
theorem dX1_splitBlock_64 : decode cX1_splitBlock 64 = .ok (.aload_n 0, 1) := by decide +kernel
theorem dX1_splitBlock_65 : decode cX1_splitBlock 65 = .ok (.getfield 9, 3) := by decide +kernel
theorem dX1_splitBlock_68 : decode cX1_splitBlock 68 = .ok (.if_icmp .lt 13, 3) := by decide +kernel
theorem dX1_splitBlock_71 : decode cX1_splitBlock 71 = .ok (.iload 9, 2) := by decide +kernel
theorem dX1_splitBlock_73 : decode cX1_splitBlock 73 = .ok (.aload_n 0, 1) := by decide +kernel
theorem dX1_splitBlock_74 : decode cX1_splitBlock 74 = .ok (.getfield 9, 3) := by decide +kernel
theorem dX1_splitBlock_77 : decode cX1_splitBlock 77 = .ok (.isub, 1) := by decide +kernel
theorem dX1_splitBlock_78 : decode cX1_splitBlock 78 = .ok (.goto 5, 3) := by decide +kernel
theorem dX1_splitBlock_81 : decode cX1_splitBlock 81 = .ok (.iload 9, 2) := by decide +kernel
theorem dX1_splitBlock_83 : decode cX1_splitBlock 83 = .ok (.iastore, 1) := by decide +kernel
theorem dX1_splitBlock_84 : decode cX1_splitBlock 84 = .ok (.iload 7, 2) := by decide +kernel
theorem dX1_splitBlock_86 : decode cX1_splitBlock 86 = .ok (.iload 8, 2) := by decide +kernel
theorem dX1_splitBlock_88 : decode cX1_splitBlock 88 = .ok (.isub, 1) := by decide +kernel
theorem dX1_splitBlock_89 : decode cX1_splitBlock 89 = .ok (.aload_n 0, 1) := by decide +kernel
theorem dX1_splitBlock_90 : decode cX1_splitBlock 90 = .ok (.getfield 9, 3) := by decide +kernel
theorem dX1_splitBlock_93 : decode cX1_splitBlock 93 = .ok (.iadd, 1) := by decide +kernel
theorem dX1_splitBlock_94 : decode cX1_splitBlock 94 = .ok (.i2l, 1) := by decide +kernel
theorem dX1_splitBlock_95 : decode cX1_splitBlock 95 = .ok (.lstore 10, 2) := by decide +kernel
theorem dX1_splitBlock_97 : decode cX1_splitBlock 97 = .ok (.aload_n 1, 1) := by decide +kernel
theorem dX1_splitBlock_98 : decode cX1_splitBlock 98 = .ok (.iload 5, 2) := by decide +kernel
theorem dX1_splitBlock_100 : decode cX1_splitBlock 100 = .ok (.iload 6, 2) := by decide +kernel
theorem dX1_splitBlock_102 : decode cX1_splitBlock 102 = .ok (.iadd, 1) := by decide +kernel
theorem dX1_splitBlock_103 : decode cX1_splitBlock 103 = .ok (.iload 4, 2) := by decide +kernel
theorem dX1_splitBlock_105 : decode cX1_splitBlock 105 = .ok (.iadd, 1) := by decide +kernel
theorem dX1_splitBlock_106 : decode cX1_splitBlock 106 = .ok (.lload 10, 2) := by decide +kernel
theorem dX1_splitBlock_108 : decode cX1_splitBlock 108 = .ok (.aload_n 0, 1) := by decide +kernel
theorem dX1_splitBlock_109 : decode cX1_splitBlock 109 = .ok (.getfield 21, 3) := by decide +kernel
theorem dX1_splitBlock_112 : decode cX1_splitBlock 112 = .ok (.iload 6, 2) := by decide +kernel
theorem dX1_splitBlock_114 : decode cX1_splitBlock 114 = .ok (.iload_n 3, 1) := by decide +kernel
theorem dX1_splitBlock_115 : decode cX1_splitBlock 115 = .ok (.ishl, 1) := by decide +kernel
theorem dX1_splitBlock_116 : decode cX1_splitBlock 116 = .ok (.iaload, 1) := by decide +kernel
theorem dX1_splitBlock_117 : decode cX1_splitBlock 117 = .ok (.i2l, 1) := by decide +kernel
theorem dX1_splitBlock_118 : decode cX1_splitBlock 118 = .ok (.lmul, 1) := by decide +kernel
theorem dX1_splitBlock_119 : decode cX1_splitBlock 119 = .ok (.aload_n 0, 1) := by decide +kernel
theorem dX1_splitBlock_120 : decode cX1_splitBlock 120 = .ok (.getfield 9, 3) := by decide +kernel
theorem dX1_splitBlock_123 : decode cX1_splitBlock 123 = .ok (.i2l, 1) := by decide +kernel
theorem dX1_splitBlock_124 : decode cX1_splitBlock 124 = .ok (.lrem, 1) := by decide +kernel
theorem dX1_splitBlock_125 : decode cX1_splitBlock 125 = .ok (.l2i, 1) := by decide +kernel
theorem dX1_splitBlock_126 : decode cX1_splitBlock 126 = .ok (.iastore, 1) := by decide +kernel
theorem dX1_splitBlock_127 : decode cX1_splitBlock 127 = .ok (.iinc 6 1, 3) := by decide +kernel
theorem dX1_splitBlock_130 : decode cX1_splitBlock 130 = .ok (.goto (-109), 3) := by decide +kernel
theorem dX1_splitBlock_133 : decode cX1_splitBlock 133 = .ok (.return_, 1) := by decide +kernel
theorem dX1_joinBlock_0 : decode cX1_joinBlock 0 = .ok (.aload_n 0, 1) := by decide +kernel
theorem dX1_joinBlock_1 : decode cX1_joinBlock 1 = .ok (.getfield 18, 3) := by decide +kernel
theorem dX1_joinBlock_4 : decode cX1_joinBlock 4 = .ok (.iload_n 3, 1) := by decide +kernel
theorem dX1_joinBlock_5 : decode cX1_joinBlock 5 = .ok (.iconst 1, 1) := by decide +kernel
theorem dX1_joinBlock_6 : decode cX1_joinBlock 6 = .ok (.iadd, 1) := by decide +kernel
theorem dX1_joinBlock_7 : decode cX1_joinBlock 7 = .ok (.ishr, 1) := by decide +kernel
theorem dX1_joinBlock_8 : decode cX1_joinBlock 8 = .ok (.istore 4, 2) := by decide +kernel
theorem dX1_joinBlock_10 : decode cX1_joinBlock 10 = .ok (.iconst 2, 1) := by decide +kernel
theorem dX1_joinBlock_11 : decode cX1_joinBlock 11 = .ok (.iload 4, 2) := by decide +kernel
theorem dX1_joinBlock_13 : decode cX1_joinBlock 13 = .ok (.imul, 1) := by decide +kernel
theorem dX1_joinBlock_14 : decode cX1_joinBlock 14 = .ok (.iload_n 2, 1) := by decide +kernel
theorem dX1_joinBlock_15 : decode cX1_joinBlock 15 = .ok (.imul, 1) := by decide +kernel
theorem dX1_joinBlock_16 : decode cX1_joinBlock 16 = .ok (.istore 5, 2) := by decide +kernel
theorem dX1_joinBlock_18 : decode cX1_joinBlock 18 = .ok (.iconst 0, 1) := by decide +kernel
theorem dX1_joinBlock_19 : decode cX1_joinBlock 19 = .ok (.istore 6, 2) := by decide +kernel
theorem dX1_joinBlock_21 : decode cX1_joinBlock 21 = .ok (.iload 6, 2) := by decide +kernel
theorem dX1_joinBlock_23 : decode cX1_joinBlock 23 = .ok (.iload 4, 2) := by decide +kernel
theorem dX1_joinBlock_25 : decode cX1_joinBlock 25 = .ok (.if_icmp .ge 118, 3) := by decide +kernel
theorem dX1_joinBlock_28 : decode cX1_joinBlock 28 = .ok (.aload_n 1, 1) := by decide +kernel
theorem dX1_joinBlock_29 : decode cX1_joinBlock 29 = .ok (.iload 5, 2) := by decide +kernel
theorem dX1_joinBlock_31 : decode cX1_joinBlock 31 = .ok (.iload 6, 2) := by decide +kernel
theorem dX1_joinBlock_33 : decode cX1_joinBlock 33 = .ok (.iadd, 1) := by decide +kernel
theorem dX1_joinBlock_34 : decode cX1_joinBlock 34 = .ok (.iaload, 1) := by decide +kernel
theorem dX1_joinBlock_35 : decode cX1_joinBlock 35 = .ok (.istore 7, 2) := by decide +kernel
theorem dX1_joinBlock_37 : decode cX1_joinBlock 37 = .ok (.aload_n 1, 1) := by decide +kernel
theorem dX1_joinBlock_38 : decode cX1_joinBlock 38 = .ok (.iload 5, 2) := by decide +kernel
theorem dX1_joinBlock_40 : decode cX1_joinBlock 40 = .ok (.iload 6, 2) := by decide +kernel
theorem dX1_joinBlock_42 : decode cX1_joinBlock 42 = .ok (.iadd, 1) := by decide +kernel
theorem dX1_joinBlock_43 : decode cX1_joinBlock 43 = .ok (.iload 4, 2) := by decide +kernel
theorem dX1_joinBlock_45 : decode cX1_joinBlock 45 = .ok (.iadd, 1) := by decide +kernel
theorem dX1_joinBlock_46 : decode cX1_joinBlock 46 = .ok (.iaload, 1) := by decide +kernel
theorem dX1_joinBlock_47 : decode cX1_joinBlock 47 = .ok (.i2l, 1) := by decide +kernel
theorem dX1_joinBlock_48 : decode cX1_joinBlock 48 = .ok (.aload_n 0, 1) := by decide +kernel
theorem dX1_joinBlock_49 : decode cX1_joinBlock 49 = .ok (.getfield 21, 3) := by decide +kernel
theorem dX1_joinBlock_52 : decode cX1_joinBlock 52 = .ok (.iload 6, 2) := by decide +kernel
theorem dX1_joinBlock_54 : decode cX1_joinBlock 54 = .ok (.iload_n 3, 1) := by decide +kernel
theorem dX1_joinBlock_55 : decode cX1_joinBlock 55 = .ok (.ishl, 1) := by decide +kernel
theorem dX1_joinBlock_56 : decode cX1_joinBlock 56 = .ok (.iaload, 1) := by decide +kernel
theorem dX1_joinBlock_57 : decode cX1_joinBlock 57 = .ok (.i2l, 1) := by decide +kernel
theorem dX1_joinBlock_58 : decode cX1_joinBlock 58 = .ok (.lmul, 1) := by decide +kernel
theorem dX1_joinBlock_59 : decode cX1_joinBlock 59 = .ok (.aload_n 0, 1) := by decide +kernel
theorem dX1_joinBlock_60 : decode cX1_joinBlock 60 = .ok (.getfield 9, 3) := by decide +kernel
theorem dX1_joinBlock_63 : decode cX1_joinBlock 63 = .ok (.i2l, 1) := by decide +kernel
theorem dX1_joinBlock_64 : decode cX1_joinBlock 64 = .ok (.lrem, 1) := by decide +kernel
theorem dX1_joinBlock_65 : decode cX1_joinBlock 65 = .ok (.l2i, 1) := by decide +kernel
theorem dX1_joinBlock_66 : decode cX1_joinBlock 66 = .ok (.istore 8, 2) := by decide +kernel
theorem dX1_joinBlock_68 : decode cX1_joinBlock 68 = .ok (.iload 7, 2) := by decide +kernel
theorem dX1_joinBlock_70 : decode cX1_joinBlock 70 = .ok (.iload 8, 2) := by decide +kernel
theorem dX1_joinBlock_72 : decode cX1_joinBlock 72 = .ok (.iadd, 1) := by decide +kernel
theorem dX1_joinBlock_73 : decode cX1_joinBlock 73 = .ok (.istore 9, 2) := by decide +kernel
theorem dX1_joinBlock_75 : decode cX1_joinBlock 75 = .ok (.aload_n 1, 1) := by decide +kernel
theorem dX1_joinBlock_76 : decode cX1_joinBlock 76 = .ok (.iload 5, 2) := by decide +kernel
theorem dX1_joinBlock_78 : decode cX1_joinBlock 78 = .ok (.iload 6, 2) := by decide +kernel
theorem dX1_joinBlock_80 : decode cX1_joinBlock 80 = .ok (.iadd, 1) := by decide +kernel
theorem dX1_joinBlock_81 : decode cX1_joinBlock 81 = .ok (.iload 9, 2) := by decide +kernel
theorem dX1_joinBlock_83 : decode cX1_joinBlock 83 = .ok (.aload_n 0, 1) := by decide +kernel
theorem dX1_joinBlock_84 : decode cX1_joinBlock 84 = .ok (.getfield 9, 3) := by decide +kernel
theorem dX1_joinBlock_87 : decode cX1_joinBlock 87 = .ok (.if_icmp .lt 13, 3) := by decide +kernel
theorem dX1_joinBlock_90 : decode cX1_joinBlock 90 = .ok (.iload 9, 2) := by decide +kernel
theorem dX1_joinBlock_92 : decode cX1_joinBlock 92 = .ok (.aload_n 0, 1) := by decide +kernel
theorem dX1_joinBlock_93 : decode cX1_joinBlock 93 = .ok (.getfield 9, 3) := by decide +kernel
theorem dX1_joinBlock_96 : decode cX1_joinBlock 96 = .ok (.isub, 1) := by decide +kernel
theorem dX1_joinBlock_97 : decode cX1_joinBlock 97 = .ok (.goto 5, 3) := by decide +kernel
theorem dX1_joinBlock_100 : decode cX1_joinBlock 100 = .ok (.iload 9, 2) := by decide +kernel
theorem dX1_joinBlock_102 : decode cX1_joinBlock 102 = .ok (.iastore, 1) := by decide +kernel
theorem dX1_joinBlock_103 : decode cX1_joinBlock 103 = .ok (.iload 7, 2) := by decide +kernel
theorem dX1_joinBlock_105 : decode cX1_joinBlock 105 = .ok (.iload 8, 2) := by decide +kernel
theorem dX1_joinBlock_107 : decode cX1_joinBlock 107 = .ok (.isub, 1) := by decide +kernel
theorem dX1_joinBlock_108 : decode cX1_joinBlock 108 = .ok (.istore 10, 2) := by decide +kernel
theorem dX1_joinBlock_110 : decode cX1_joinBlock 110 = .ok (.aload_n 1, 1) := by decide +kernel
theorem dX1_joinBlock_111 : decode cX1_joinBlock 111 = .ok (.iload 5, 2) := by decide +kernel
theorem dX1_joinBlock_113 : decode cX1_joinBlock 113 = .ok (.iload 6, 2) := by decide +kernel
theorem dX1_joinBlock_115 : decode cX1_joinBlock 115 = .ok (.iadd, 1) := by decide +kernel
theorem dX1_joinBlock_116 : decode cX1_joinBlock 116 = .ok (.iload 4, 2) := by decide +kernel
theorem dX1_joinBlock_118 : decode cX1_joinBlock 118 = .ok (.iadd, 1) := by decide +kernel
theorem dX1_joinBlock_119 : decode cX1_joinBlock 119 = .ok (.iload 10, 2) := by decide +kernel
theorem dX1_joinBlock_121 : decode cX1_joinBlock 121 = .ok (.ifCond .ge 13, 3) := by decide +kernel
theorem dX1_joinBlock_124 : decode cX1_joinBlock 124 = .ok (.iload 10, 2) := by decide +kernel
theorem dX1_joinBlock_126 : decode cX1_joinBlock 126 = .ok (.aload_n 0, 1) := by decide +kernel
theorem dX1_joinBlock_127 : decode cX1_joinBlock 127 = .ok (.getfield 9, 3) := by decide +kernel
theorem dX1_joinBlock_130 : decode cX1_joinBlock 130 = .ok (.iadd, 1) := by decide +kernel
theorem dX1_joinBlock_131 : decode cX1_joinBlock 131 = .ok (.goto 5, 3) := by decide +kernel
theorem dX1_joinBlock_134 : decode cX1_joinBlock 134 = .ok (.iload 10, 2) := by decide +kernel
theorem dX1_joinBlock_136 : decode cX1_joinBlock 136 = .ok (.iastore, 1) := by decide +kernel
theorem dX1_joinBlock_137 : decode cX1_joinBlock 137 = .ok (.iinc 6 1, 3) := by decide +kernel
theorem dX1_joinBlock_140 : decode cX1_joinBlock 140 = .ok (.goto (-119), 3) := by decide +kernel
theorem dX1_joinBlock_143 : decode cX1_joinBlock 143 = .ok (.return_, 1) := by decide +kernel
theorem dX2_init_0 : decode cX2_init 0 = .ok (.aload_n 0, 1) := by decide +kernel
theorem dX2_init_1 : decode cX2_init 1 = .ok (.invokespecial 3, 3) := by decide +kernel
theorem dX2_init_4 : decode cX2_init 4 = .ok (.aload_n 0, 1) := by decide +kernel
theorem dX2_init_5 : decode cX2_init 5 = .ok (.iload_n 1, 1) := by decide +kernel
theorem dX2_init_6 : decode cX2_init 6 = .ok (.newarray .int, 2) := by decide +kernel
theorem dX2_init_8 : decode cX2_init 8 = .ok (.putfield 9, 3) := by decide +kernel
theorem dX2_init_11 : decode cX2_init 11 = .ok (.aload_n 0, 1) := by decide +kernel
theorem dX2_init_12 : decode cX2_init 12 = .ok (.iconst 0, 1) := by decide +kernel
theorem dX2_init_13 : decode cX2_init 13 = .ok (.putfield 15, 3) := by decide +kernel
theorem dX2_init_16 : decode cX2_init 16 = .ok (.return_, 1) := by decide +kernel
theorem dX2_count_0 : decode cX2_count 0 = .ok (.aload_n 0, 1) := by decide +kernel
theorem dX2_count_1 : decode cX2_count 1 = .ok (.getfield 15, 3) := by decide +kernel
theorem dX2_count_4 : decode cX2_count 4 = .ok (.ireturn, 1) := by decide +kernel
theorem dX2_at_0 : decode cX2_at 0 = .ok (.aload_n 0, 1) := by decide +kernel
theorem dX2_at_1 : decode cX2_at 1 = .ok (.getfield 9, 3) := by decide +kernel
theorem dX2_at_4 : decode cX2_at 4 = .ok (.iload_n 1, 1) := by decide +kernel
theorem dX2_at_5 : decode cX2_at 5 = .ok (.iaload, 1) := by decide +kernel
theorem dX2_at_6 : decode cX2_at 6 = .ok (.ireturn, 1) := by decide +kernel
theorem dX2_empty_0 : decode cX2_empty 0 = .ok (.aload_n 0, 1) := by decide +kernel
theorem dX2_empty_1 : decode cX2_empty 1 = .ok (.iconst 0, 1) := by decide +kernel
theorem dX2_empty_2 : decode cX2_empty 2 = .ok (.putfield 15, 3) := by decide +kernel
theorem dX2_empty_5 : decode cX2_empty 5 = .ok (.return_, 1) := by decide +kernel
set_option maxRecDepth 20000 in
theorem ggX2_append_J7_fill_fda19 : GoodIn wsX2_append wsJ7_fill_fda19 := goodIn_r _ [7, 8, 9, 6, 10] (by decide +kernel) (by decide +kernel)
set_option maxRecDepth 20000 in
theorem gX2_append_J7_fill_fda19 : GoodIn wsX2_append (va_wsS RX2 20 yJ7_fill_fda19 wsJ7_fill_fda19) := goodIn_app (goodIn_of _ (by decide +kernel)) ggX2_append_J7_fill_fda19
theorem dX2_append_0 : decode cX2_append 0 = .ok (.iload_n 1, 1) := by decide +kernel
theorem dX2_append_1 : decode cX2_append 1 = .ok (.ifCond .lt 27, 3) := by decide +kernel
theorem dX2_append_4 : decode cX2_append 4 = .ok (.iload_n 1, 1) := by decide +kernel
theorem dX2_append_5 : decode cX2_append 5 = .ok (.ldc 19, 2) := by decide +kernel
theorem dX2_append_7 : decode cX2_append 7 = .ok (.if_icmp .ge 21, 3) := by decide +kernel
theorem dX2_append_10 : decode cX2_append 10 = .ok (.iload_n 2, 1) := by decide +kernel
theorem dX2_append_11 : decode cX2_append 11 = .ok (.ifCond .lt 17, 3) := by decide +kernel
theorem dX2_append_14 : decode cX2_append 14 = .ok (.iload_n 2, 1) := by decide +kernel
theorem dX2_append_15 : decode cX2_append 15 = .ok (.aload_n 0, 1) := by decide +kernel
theorem dX2_append_16 : decode cX2_append 16 = .ok (.getfield 9, 3) := by decide +kernel
theorem dX2_append_19 : decode cX2_append 19 = .ok (.arraylength, 1) := by decide +kernel
theorem dX2_append_20 : decode cX2_append 20 = .ok (.aload_n 0, 1) := by decide +kernel
theorem dX2_append_21 : decode cX2_append 21 = .ok (.getfield 15, 3) := by decide +kernel
theorem dX2_append_24 : decode cX2_append 24 = .ok (.isub, 1) := by decide +kernel
theorem dX2_append_25 : decode cX2_append 25 = .ok (.if_icmp .le 5, 3) := by decide +kernel
theorem dX2_append_28 : decode cX2_append 28 = .ok (.iconst 0, 1) := by decide +kernel
theorem dX2_append_29 : decode cX2_append 29 = .ok (.ireturn, 1) := by decide +kernel
theorem dX2_append_30 : decode cX2_append 30 = .ok (.aload_n 0, 1) := by decide +kernel
theorem dX2_append_31 : decode cX2_append 31 = .ok (.getfield 9, 3) := by decide +kernel
theorem dX2_append_34 : decode cX2_append 34 = .ok (.aload_n 0, 1) := by decide +kernel
theorem dX2_append_35 : decode cX2_append 35 = .ok (.getfield 15, 3) := by decide +kernel
theorem dX2_append_38 : decode cX2_append 38 = .ok (.aload_n 0, 1) := by decide +kernel
theorem dX2_append_39 : decode cX2_append 39 = .ok (.getfield 15, 3) := by decide +kernel
theorem dX2_append_42 : decode cX2_append 42 = .ok (.iload_n 2, 1) := by decide +kernel
theorem dX2_append_43 : decode cX2_append 43 = .ok (.iadd, 1) := by decide +kernel
theorem dX2_append_44 : decode cX2_append 44 = .ok (.iload_n 1, 1) := by decide +kernel
theorem dX2_append_45 : decode cX2_append 45 = .ok (.invokestatic 20, 3) := by decide +kernel
theorem dX2_append_48 : decode cX2_append 48 = .ok (.aload_n 0, 1) := by decide +kernel
theorem dX2_append_49 : decode cX2_append 49 = .ok (.dup, 1) := by decide +kernel
theorem dX2_append_50 : decode cX2_append 50 = .ok (.getfield 15, 3) := by decide +kernel
theorem dX2_append_53 : decode cX2_append 53 = .ok (.iload_n 2, 1) := by decide +kernel
theorem dX2_append_54 : decode cX2_append 54 = .ok (.iadd, 1) := by decide +kernel
theorem dX2_append_55 : decode cX2_append 55 = .ok (.putfield 15, 3) := by decide +kernel
theorem dX2_append_58 : decode cX2_append 58 = .ok (.iconst 1, 1) := by decide +kernel
theorem dX2_append_59 : decode cX2_append 59 = .ok (.ireturn, 1) := by decide +kernel
theorem dX2_copyFrom_0 : decode cX2_copyFrom 0 = .ok (.aload_n 1, 1) := by decide +kernel
theorem dX2_copyFrom_1 : decode cX2_copyFrom 1 = .ok (.getfield 9, 3) := by decide +kernel
theorem dX2_copyFrom_4 : decode cX2_copyFrom 4 = .ok (.iconst 0, 1) := by decide +kernel
theorem dX2_copyFrom_5 : decode cX2_copyFrom 5 = .ok (.aload_n 0, 1) := by decide +kernel
theorem dX2_copyFrom_6 : decode cX2_copyFrom 6 = .ok (.getfield 9, 3) := by decide +kernel
theorem dX2_copyFrom_9 : decode cX2_copyFrom 9 = .ok (.iconst 0, 1) := by decide +kernel
theorem dX2_copyFrom_10 : decode cX2_copyFrom 10 = .ok (.aload_n 1, 1) := by decide +kernel
theorem dX2_copyFrom_11 : decode cX2_copyFrom 11 = .ok (.getfield 15, 3) := by decide +kernel
theorem dX2_copyFrom_14 : decode cX2_copyFrom 14 = .ok (.invokestatic 26, 3) := by decide +kernel
theorem dX2_copyFrom_17 : decode cX2_copyFrom 17 = .ok (.aload_n 0, 1) := by decide +kernel
theorem dX2_copyFrom_18 : decode cX2_copyFrom 18 = .ok (.aload_n 1, 1) := by decide +kernel
theorem dX2_copyFrom_19 : decode cX2_copyFrom 19 = .ok (.getfield 15, 3) := by decide +kernel
theorem dX2_copyFrom_22 : decode cX2_copyFrom 22 = .ok (.putfield 15, 3) := by decide +kernel
theorem dX2_copyFrom_25 : decode cX2_copyFrom 25 = .ok (.return_, 1) := by decide +kernel
set_option maxRecDepth 20000 in
theorem ggX2_trim_X2_significant : GoodIn wsX2_trim wsX2_significant := goodIn_r _ [6, 1, 7, 8, 9] (by decide +kernel) (by decide +kernel)
set_option maxRecDepth 20000 in
theorem gX2_trim_X2_significant : GoodIn wsX2_trim (wsV RX2 32 RX2 yX2_significant wsX2_significant) := goodIn_app (goodIn_of _ (by decide +kernel)) ggX2_trim_X2_significant
theorem dX2_trim_0 : decode cX2_trim 0 = .ok (.aload_n 0, 1) := by decide +kernel
theorem dX2_trim_1 : decode cX2_trim 1 = .ok (.aload_n 0, 1) := by decide +kernel
theorem dX2_trim_2 : decode cX2_trim 2 = .ok (.invokevirtual 32, 3) := by decide +kernel
theorem dX2_trim_5 : decode cX2_trim 5 = .ok (.putfield 15, 3) := by decide +kernel
theorem dX2_trim_8 : decode cX2_trim 8 = .ok (.return_, 1) := by decide +kernel
theorem dX2_significant_0 : decode cX2_significant 0 = .ok (.aload_n 0, 1) := by decide +kernel
theorem dX2_significant_1 : decode cX2_significant 1 = .ok (.getfield 15, 3) := by decide +kernel
theorem dX2_significant_4 : decode cX2_significant 4 = .ok (.istore_n 1, 1) := by decide +kernel
theorem dX2_significant_5 : decode cX2_significant 5 = .ok (.iload_n 1, 1) := by decide +kernel
theorem dX2_significant_6 : decode cX2_significant 6 = .ok (.ifCond .le 22, 3) := by decide +kernel
theorem dX2_significant_9 : decode cX2_significant 9 = .ok (.aload_n 0, 1) := by decide +kernel
theorem dX2_significant_10 : decode cX2_significant 10 = .ok (.getfield 9, 3) := by decide +kernel
theorem dX2_significant_13 : decode cX2_significant 13 = .ok (.iload_n 1, 1) := by decide +kernel
theorem dX2_significant_14 : decode cX2_significant 14 = .ok (.iconst 1, 1) := by decide +kernel
theorem dX2_significant_15 : decode cX2_significant 15 = .ok (.isub, 1) := by decide +kernel
theorem dX2_significant_16 : decode cX2_significant 16 = .ok (.iaload, 1) := by decide +kernel
theorem dX2_significant_17 : decode cX2_significant 17 = .ok (.ifCond .eq 5, 3) := by decide +kernel
theorem dX2_significant_20 : decode cX2_significant 20 = .ok (.iload_n 1, 1) := by decide +kernel
theorem dX2_significant_21 : decode cX2_significant 21 = .ok (.ireturn, 1) := by decide +kernel
theorem dX2_significant_22 : decode cX2_significant 22 = .ok (.iinc 1 (-1), 3) := by decide +kernel
theorem dX2_significant_25 : decode cX2_significant 25 = .ok (.goto (-20), 3) := by decide +kernel
theorem dX2_significant_28 : decode cX2_significant 28 = .ok (.iconst 0, 1) := by decide +kernel
theorem dX2_significant_29 : decode cX2_significant 29 = .ok (.ireturn, 1) := by decide +kernel
set_option maxRecDepth 20000 in
theorem ggX2_comparedTo_X2_significant : GoodIn wsX2_comparedTo wsX2_significant := goodIn_r _ [6, 7, 1, 8, 9] (by decide +kernel) (by decide +kernel)
set_option maxRecDepth 20000 in
theorem gX2_comparedTo_X2_significant : GoodIn wsX2_comparedTo (wsV RX2 32 RX2 yX2_significant wsX2_significant) := goodIn_app (goodIn_of _ (by decide +kernel)) ggX2_comparedTo_X2_significant
theorem dX2_comparedTo_0 : decode cX2_comparedTo 0 = .ok (.aload_n 0, 1) := by decide +kernel
theorem dX2_comparedTo_1 : decode cX2_comparedTo 1 = .ok (.invokevirtual 32, 3) := by decide +kernel
theorem dX2_comparedTo_4 : decode cX2_comparedTo 4 = .ok (.istore_n 2, 1) := by decide +kernel
theorem dX2_comparedTo_5 : decode cX2_comparedTo 5 = .ok (.aload_n 1, 1) := by decide +kernel
theorem dX2_comparedTo_6 : decode cX2_comparedTo 6 = .ok (.invokevirtual 32, 3) := by decide +kernel
theorem dX2_comparedTo_9 : decode cX2_comparedTo 9 = .ok (.istore_n 3, 1) := by decide +kernel
theorem dX2_comparedTo_10 : decode cX2_comparedTo 10 = .ok (.iload_n 2, 1) := by decide +kernel
theorem dX2_comparedTo_11 : decode cX2_comparedTo 11 = .ok (.iload_n 3, 1) := by decide +kernel
theorem dX2_comparedTo_12 : decode cX2_comparedTo 12 = .ok (.if_icmp .eq 14, 3) := by decide +kernel
theorem dX2_comparedTo_15 : decode cX2_comparedTo 15 = .ok (.iload_n 2, 1) := by decide +kernel
theorem dX2_comparedTo_16 : decode cX2_comparedTo 16 = .ok (.iload_n 3, 1) := by decide +kernel
theorem dX2_comparedTo_17 : decode cX2_comparedTo 17 = .ok (.if_icmp .ge 7, 3) := by decide +kernel
theorem dX2_comparedTo_20 : decode cX2_comparedTo 20 = .ok (.iconst (-1), 1) := by decide +kernel
theorem dX2_comparedTo_21 : decode cX2_comparedTo 21 = .ok (.goto 4, 3) := by decide +kernel
theorem dX2_comparedTo_24 : decode cX2_comparedTo 24 = .ok (.iconst 1, 1) := by decide +kernel
theorem dX2_comparedTo_25 : decode cX2_comparedTo 25 = .ok (.ireturn, 1) := by decide +kernel
theorem dX2_comparedTo_26 : decode cX2_comparedTo 26 = .ok (.iload_n 2, 1) := by decide +kernel
theorem dX2_comparedTo_27 : decode cX2_comparedTo 27 = .ok (.iconst 1, 1) := by decide +kernel
theorem dX2_comparedTo_28 : decode cX2_comparedTo 28 = .ok (.isub, 1) := by decide +kernel
theorem dX2_comparedTo_29 : decode cX2_comparedTo 29 = .ok (.istore 4, 2) := by decide +kernel
theorem dX2_comparedTo_31 : decode cX2_comparedTo 31 = .ok (.iload 4, 2) := by decide +kernel
theorem dX2_comparedTo_33 : decode cX2_comparedTo 33 = .ok (.ifCond .lt 49, 3) := by decide +kernel
theorem dX2_comparedTo_36 : decode cX2_comparedTo 36 = .ok (.aload_n 0, 1) := by decide +kernel
theorem dX2_comparedTo_37 : decode cX2_comparedTo 37 = .ok (.getfield 9, 3) := by decide +kernel
theorem dX2_comparedTo_40 : decode cX2_comparedTo 40 = .ok (.iload 4, 2) := by decide +kernel
theorem dX2_comparedTo_42 : decode cX2_comparedTo 42 = .ok (.iaload, 1) := by decide +kernel
theorem dX2_comparedTo_43 : decode cX2_comparedTo 43 = .ok (.aload_n 1, 1) := by decide +kernel
theorem dX2_comparedTo_44 : decode cX2_comparedTo 44 = .ok (.getfield 9, 3) := by decide +kernel
theorem dX2_comparedTo_47 : decode cX2_comparedTo 47 = .ok (.iload 4, 2) := by decide +kernel
theorem dX2_comparedTo_49 : decode cX2_comparedTo 49 = .ok (.iaload, 1) := by decide +kernel
theorem dX2_comparedTo_50 : decode cX2_comparedTo 50 = .ok (.if_icmp .eq 26, 3) := by decide +kernel
theorem dX2_comparedTo_53 : decode cX2_comparedTo 53 = .ok (.aload_n 0, 1) := by decide +kernel
theorem dX2_comparedTo_54 : decode cX2_comparedTo 54 = .ok (.getfield 9, 3) := by decide +kernel
theorem dX2_comparedTo_57 : decode cX2_comparedTo 57 = .ok (.iload 4, 2) := by decide +kernel
theorem dX2_comparedTo_59 : decode cX2_comparedTo 59 = .ok (.iaload, 1) := by decide +kernel
theorem dX2_comparedTo_60 : decode cX2_comparedTo 60 = .ok (.aload_n 1, 1) := by decide +kernel
theorem dX2_comparedTo_61 : decode cX2_comparedTo 61 = .ok (.getfield 9, 3) := by decide +kernel
theorem dX2_comparedTo_64 : decode cX2_comparedTo 64 = .ok (.iload 4, 2) := by decide +kernel
theorem dX2_comparedTo_66 : decode cX2_comparedTo 66 = .ok (.iaload, 1) := by decide +kernel
theorem dX2_comparedTo_67 : decode cX2_comparedTo 67 = .ok (.if_icmp .ge 7, 3) := by decide +kernel
theorem dX2_comparedTo_70 : decode cX2_comparedTo 70 = .ok (.iconst (-1), 1) := by decide +kernel
theorem dX2_comparedTo_71 : decode cX2_comparedTo 71 = .ok (.goto 4, 3) := by decide +kernel
theorem dX2_comparedTo_74 : decode cX2_comparedTo 74 = .ok (.iconst 1, 1) := by decide +kernel
theorem dX2_comparedTo_75 : decode cX2_comparedTo 75 = .ok (.ireturn, 1) := by decide +kernel
theorem dX2_comparedTo_76 : decode cX2_comparedTo 76 = .ok (.iinc 4 (-1), 3) := by decide +kernel
theorem dX2_comparedTo_79 : decode cX2_comparedTo 79 = .ok (.goto (-48), 3) := by decide +kernel
theorem dX2_comparedTo_82 : decode cX2_comparedTo 82 = .ok (.iconst 0, 1) := by decide +kernel
theorem dX2_comparedTo_83 : decode cX2_comparedTo 83 = .ok (.ireturn, 1) := by decide +kernel
theorem dX2_remainder_0 : decode cX2_remainder 0 = .ok (.lconst 0, 1) := by decide +kernel
theorem dX2_remainder_1 : decode cX2_remainder 1 = .ok (.lstore_n 2, 1) := by decide +kernel
theorem dX2_remainder_2 : decode cX2_remainder 2 = .ok (.aload_n 0, 1) := by decide +kernel
theorem dX2_remainder_3 : decode cX2_remainder 3 = .ok (.getfield 15, 3) := by decide +kernel
theorem dX2_remainder_6 : decode cX2_remainder 6 = .ok (.iconst 1, 1) := by decide +kernel
theorem dX2_remainder_7 : decode cX2_remainder 7 = .ok (.isub, 1) := by decide +kernel
theorem dX2_remainder_8 : decode cX2_remainder 8 = .ok (.istore 4, 2) := by decide +kernel
theorem dX2_remainder_10 : decode cX2_remainder 10 = .ok (.iload 4, 2) := by decide +kernel
theorem dX2_remainder_12 : decode cX2_remainder 12 = .ok (.ifCond .lt 27, 3) := by decide +kernel
theorem dX2_remainder_15 : decode cX2_remainder 15 = .ok (.lload_n 2, 1) := by decide +kernel
theorem dX2_remainder_16 : decode cX2_remainder 16 = .ok (.ldc2_w 36, 3) := by decide +kernel
theorem dX2_remainder_19 : decode cX2_remainder 19 = .ok (.lmul, 1) := by decide +kernel
theorem dX2_remainder_20 : decode cX2_remainder 20 = .ok (.aload_n 0, 1) := by decide +kernel
theorem dX2_remainder_21 : decode cX2_remainder 21 = .ok (.getfield 9, 3) := by decide +kernel
theorem dX2_remainder_24 : decode cX2_remainder 24 = .ok (.iload 4, 2) := by decide +kernel
theorem dX2_remainder_26 : decode cX2_remainder 26 = .ok (.iaload, 1) := by decide +kernel
theorem dX2_remainder_27 : decode cX2_remainder 27 = .ok (.i2l, 1) := by decide +kernel
theorem dX2_remainder_28 : decode cX2_remainder 28 = .ok (.ladd, 1) := by decide +kernel
theorem dX2_remainder_29 : decode cX2_remainder 29 = .ok (.iload_n 1, 1) := by decide +kernel
theorem dX2_remainder_30 : decode cX2_remainder 30 = .ok (.i2l, 1) := by decide +kernel
theorem dX2_remainder_31 : decode cX2_remainder 31 = .ok (.lrem, 1) := by decide +kernel
theorem dX2_remainder_32 : decode cX2_remainder 32 = .ok (.lstore_n 2, 1) := by decide +kernel
theorem dX2_remainder_33 : decode cX2_remainder 33 = .ok (.iinc 4 (-1), 3) := by decide +kernel
theorem dX2_remainder_36 : decode cX2_remainder 36 = .ok (.goto (-26), 3) := by decide +kernel
theorem dX2_remainder_39 : decode cX2_remainder 39 = .ok (.lload_n 2, 1) := by decide +kernel
theorem dX2_remainder_40 : decode cX2_remainder 40 = .ok (.l2i, 1) := by decide +kernel
theorem dX2_remainder_41 : decode cX2_remainder 41 = .ok (.ireturn, 1) := by decide +kernel
set_option maxRecDepth 20000 in
theorem ggX2_spreadInto_J7_fill_fda19 : GoodIn wsX2_spreadInto wsJ7_fill_fda19 := goodIn_r _ [10, 11, 12, 9, 13] (by decide +kernel) (by decide +kernel)
set_option maxRecDepth 20000 in
theorem gX2_spreadInto_J7_fill_fda19 : GoodIn wsX2_spreadInto (va_wsS RX2 20 yJ7_fill_fda19 wsJ7_fill_fda19) := goodIn_app (goodIn_of _ (by decide +kernel)) ggX2_spreadInto_J7_fill_fda19
theorem dX2_spreadInto_0 : decode cX2_spreadInto 0 = .ok (.aload_n 0, 1) := by decide +kernel
theorem dX2_spreadInto_1 : decode cX2_spreadInto 1 = .ok (.getfield 9, 3) := by decide +kernel
theorem dX2_spreadInto_4 : decode cX2_spreadInto 4 = .ok (.iconst 0, 1) := by decide +kernel
theorem dX2_spreadInto_5 : decode cX2_spreadInto 5 = .ok (.aload_n 1, 1) := by decide +kernel
theorem dX2_spreadInto_6 : decode cX2_spreadInto 6 = .ok (.iconst 0, 1) := by decide +kernel
theorem dX2_spreadInto_7 : decode cX2_spreadInto 7 = .ok (.aload_n 0, 1) := by decide +kernel
theorem dX2_spreadInto_8 : decode cX2_spreadInto 8 = .ok (.getfield 15, 3) := by decide +kernel
theorem dX2_spreadInto_11 : decode cX2_spreadInto 11 = .ok (.invokestatic 26, 3) := by decide +kernel
theorem dX2_spreadInto_14 : decode cX2_spreadInto 14 = .ok (.aload_n 1, 1) := by decide +kernel
theorem dX2_spreadInto_15 : decode cX2_spreadInto 15 = .ok (.aload_n 0, 1) := by decide +kernel
theorem dX2_spreadInto_16 : decode cX2_spreadInto 16 = .ok (.getfield 15, 3) := by decide +kernel
theorem dX2_spreadInto_19 : decode cX2_spreadInto 19 = .ok (.aload_n 1, 1) := by decide +kernel
theorem dX2_spreadInto_20 : decode cX2_spreadInto 20 = .ok (.arraylength, 1) := by decide +kernel
theorem dX2_spreadInto_21 : decode cX2_spreadInto 21 = .ok (.iconst 0, 1) := by decide +kernel
theorem dX2_spreadInto_22 : decode cX2_spreadInto 22 = .ok (.invokestatic 20, 3) := by decide +kernel
theorem dX2_spreadInto_25 : decode cX2_spreadInto 25 = .ok (.return_, 1) := by decide +kernel
set_option maxRecDepth 20000 in
theorem ggX3_init_X2_init : GoodIn wsX3_init wsX2_init := goodIn_r _ [27, 28, 2, 3, 21, 29, 30, 57, 58] (by decide +kernel) (by decide +kernel)
set_option maxRecDepth 20000 in
theorem gX3_init_X2_init : GoodIn wsX3_init (wsX2_init) := ggX3_init_X2_init
set_option maxRecDepth 20000 in
theorem ggX3_init_X1_init : GoodIn wsX3_init wsX1_init := goodIn_r _ [33, 34, 2, 3, 35, 36, 37, 21, 38, 39, 40, 59, 60, 61, 62, 63, 64] (by decide +kernel) (by decide +kernel)
set_option maxRecDepth 20000 in
theorem gX3_init_X1_init : GoodIn wsX3_init (wsX1_init) := ggX3_init_X1_init
set_option maxRecDepth 20000 in
theorem ggX3_init_X0_init : GoodIn wsX3_init wsX0_init := goodIn_r _ [43, 44, 2, 3, 45, 46, 65, 66] (by decide +kernel) (by decide +kernel)
set_option maxRecDepth 20000 in
theorem gX3_init_X0_init : GoodIn wsX3_init (wsX0_init) := ggX3_init_X0_init
theorem dX3_init_0 : decode cX3_init 0 = .ok (.aload_n 0, 1) := by decide +kernel
theorem dX3_init_1 : decode cX3_init 1 = .ok (.invokespecial 3, 3) := by decide +kernel
theorem dX3_init_4 : decode cX3_init 4 = .ok (.iload_n 1, 1) := by decide +kernel
theorem dX3_init_5 : decode cX3_init 5 = .ok (.iconst 1, 1) := by decide +kernel
theorem dX3_init_6 : decode cX3_init 6 = .ok (.if_icmp .lt 13, 3) := by decide +kernel
theorem dX3_init_9 : decode cX3_init 9 = .ok (.iload_n 1, 1) := by decide +kernel
theorem dX3_init_10 : decode cX3_init 10 = .ok (.bipush 10, 2) := by decide +kernel
theorem dX3_init_12 : decode cX3_init 12 = .ok (.if_icmp .gt 7, 3) := by decide +kernel
theorem dX3_init_15 : decode cX3_init 15 = .ok (.iload_n 1, 1) := by decide +kernel
theorem dX3_init_16 : decode cX3_init 16 = .ok (.goto 4, 3) := by decide +kernel
theorem dX3_init_19 : decode cX3_init 19 = .ok (.iconst 1, 1) := by decide +kernel
theorem dX3_init_20 : decode cX3_init 20 = .ok (.istore_n 2, 1) := by decide +kernel
theorem dX3_init_21 : decode cX3_init 21 = .ok (.aload_n 0, 1) := by decide +kernel
theorem dX3_init_22 : decode cX3_init 22 = .ok (.iconst 1, 1) := by decide +kernel
theorem dX3_init_23 : decode cX3_init 23 = .ok (.iload_n 2, 1) := by decide +kernel
theorem dX3_init_24 : decode cX3_init 24 = .ok (.ishl, 1) := by decide +kernel
theorem dX3_init_25 : decode cX3_init 25 = .ok (.putfield 9, 3) := by decide +kernel
theorem dX3_init_28 : decode cX3_init 28 = .ok (.aload_n 0, 1) := by decide +kernel
theorem dX3_init_29 : decode cX3_init 29 = .ok (.aload_n 0, 1) := by decide +kernel
theorem dX3_init_30 : decode cX3_init 30 = .ok (.getfield 9, 3) := by decide +kernel
theorem dX3_init_33 : decode cX3_init 33 = .ok (.iconst 2, 1) := by decide +kernel
theorem dX3_init_34 : decode cX3_init 34 = .ok (.idiv, 1) := by decide +kernel
theorem dX3_init_35 : decode cX3_init 35 = .ok (.iload_n 2, 1) := by decide +kernel
theorem dX3_init_36 : decode cX3_init 36 = .ok (.imul, 1) := by decide +kernel
theorem dX3_init_37 : decode cX3_init 37 = .ok (.putfield 13, 3) := by decide +kernel
theorem dX3_init_40 : decode cX3_init 40 = .ok (.aload_n 0, 1) := by decide +kernel
theorem dX3_init_41 : decode cX3_init 41 = .ok (.new 16, 3) := by decide +kernel
theorem dX3_init_44 : decode cX3_init 44 = .ok (.dup, 1) := by decide +kernel
theorem dX3_init_45 : decode cX3_init 45 = .ok (.aload_n 0, 1) := by decide +kernel
theorem dX3_init_46 : decode cX3_init 46 = .ok (.getfield 9, 3) := by decide +kernel
theorem dX3_init_49 : decode cX3_init 49 = .ok (.invokespecial 18, 3) := by decide +kernel
theorem dX3_init_52 : decode cX3_init 52 = .ok (.putfield 21, 3) := by decide +kernel
theorem dX3_init_55 : decode cX3_init 55 = .ok (.aload_n 0, 1) := by decide +kernel
theorem dX3_init_56 : decode cX3_init 56 = .ok (.new 16, 3) := by decide +kernel
theorem dX3_init_59 : decode cX3_init 59 = .ok (.dup, 1) := by decide +kernel
theorem dX3_init_60 : decode cX3_init 60 = .ok (.aload_n 0, 1) := by decide +kernel
theorem dX3_init_61 : decode cX3_init 61 = .ok (.getfield 9, 3) := by decide +kernel
theorem dX3_init_64 : decode cX3_init 64 = .ok (.invokespecial 18, 3) := by decide +kernel
theorem dX3_init_67 : decode cX3_init 67 = .ok (.putfield 25, 3) := by decide +kernel
theorem dX3_init_70 : decode cX3_init 70 = .ok (.aload_n 0, 1) := by decide +kernel
theorem dX3_init_71 : decode cX3_init 71 = .ok (.new 16, 3) := by decide +kernel
theorem dX3_init_74 : decode cX3_init 74 = .ok (.dup, 1) := by decide +kernel
theorem dX3_init_75 : decode cX3_init 75 = .ok (.aload_n 0, 1) := by decide +kernel
theorem dX3_init_76 : decode cX3_init 76 = .ok (.getfield 9, 3) := by decide +kernel
theorem dX3_init_79 : decode cX3_init 79 = .ok (.invokespecial 18, 3) := by decide +kernel
theorem dX3_init_82 : decode cX3_init 82 = .ok (.putfield 28, 3) := by decide +kernel
theorem dX3_init_85 : decode cX3_init 85 = .ok (.aload_n 0, 1) := by decide +kernel
theorem dX3_init_86 : decode cX3_init 86 = .ok (.getstatic 31, 3) := by decide +kernel
theorem dX3_init_89 : decode cX3_init 89 = .ok (.arraylength, 1) := by decide +kernel
theorem dX3_init_90 : decode cX3_init 90 = .ok (.anewarray 35, 3) := by decide +kernel
theorem dX3_init_93 : decode cX3_init 93 = .ok (.putfield 37, 3) := by decide +kernel
theorem dX3_init_96 : decode cX3_init 96 = .ok (.iconst 0, 1) := by decide +kernel
theorem dX3_init_97 : decode cX3_init 97 = .ok (.istore_n 3, 1) := by decide +kernel
theorem dX3_init_98 : decode cX3_init 98 = .ok (.iload_n 3, 1) := by decide +kernel
theorem dX3_init_99 : decode cX3_init 99 = .ok (.getstatic 31, 3) := by decide +kernel
theorem dX3_init_102 : decode cX3_init 102 = .ok (.arraylength, 1) := by decide +kernel
theorem dX3_init_103 : decode cX3_init 103 = .ok (.if_icmp .ge 28, 3) := by decide +kernel
theorem dX3_init_106 : decode cX3_init 106 = .ok (.aload_n 0, 1) := by decide +kernel
theorem dX3_init_107 : decode cX3_init 107 = .ok (.getfield 37, 3) := by decide +kernel
theorem dX3_init_110 : decode cX3_init 110 = .ok (.iload_n 3, 1) := by decide +kernel
theorem dX3_init_111 : decode cX3_init 111 = .ok (.new 35, 3) := by decide +kernel
theorem dX3_init_114 : decode cX3_init 114 = .ok (.dup, 1) := by decide +kernel
theorem dX3_init_115 : decode cX3_init 115 = .ok (.getstatic 31, 3) := by decide +kernel
theorem dX3_init_118 : decode cX3_init 118 = .ok (.iload_n 3, 1) := by decide +kernel
theorem dX3_init_119 : decode cX3_init 119 = .ok (.iaload, 1) := by decide +kernel
theorem dX3_init_120 : decode cX3_init 120 = .ok (.iload_n 2, 1) := by decide +kernel
theorem dX3_init_121 : decode cX3_init 121 = .ok (.invokespecial 41, 3) := by decide +kernel
theorem dX3_init_124 : decode cX3_init 124 = .ok (.aastore, 1) := by decide +kernel
theorem dX3_init_125 : decode cX3_init 125 = .ok (.iinc 3 1, 3) := by decide +kernel
theorem dX3_init_128 : decode cX3_init 128 = .ok (.goto (-30), 3) := by decide +kernel
theorem dX3_init_131 : decode cX3_init 131 = .ok (.aload_n 0, 1) := by decide +kernel
theorem dX3_init_132 : decode cX3_init 132 = .ok (.new 44, 3) := by decide +kernel
theorem dX3_init_135 : decode cX3_init 135 = .ok (.dup, 1) := by decide +kernel
theorem dX3_init_136 : decode cX3_init 136 = .ok (.invokespecial 46, 3) := by decide +kernel
theorem dX3_init_139 : decode cX3_init 139 = .ok (.putfield 47, 3) := by decide +kernel
theorem dX3_init_142 : decode cX3_init 142 = .ok (.aload_n 0, 1) := by decide +kernel
theorem dX3_init_143 : decode cX3_init 143 = .ok (.aload_n 0, 1) := by decide +kernel
theorem dX3_init_144 : decode cX3_init 144 = .ok (.getfield 9, 3) := by decide +kernel
theorem dX3_init_147 : decode cX3_init 147 = .ok (.newarray .int, 2) := by decide +kernel
theorem dX3_init_149 : decode cX3_init 149 = .ok (.putfield 51, 3) := by decide +kernel
theorem dX3_init_152 : decode cX3_init 152 = .ok (.aload_n 0, 1) := by decide +kernel
theorem dX3_init_153 : decode cX3_init 153 = .ok (.iconst 0, 1) := by decide +kernel
theorem dX3_init_154 : decode cX3_init 154 = .ok (.putfield 54, 3) := by decide +kernel
theorem dX3_init_157 : decode cX3_init 157 = .ok (.aload_n 0, 1) := by decide +kernel
theorem dX3_init_158 : decode cX3_init 158 = .ok (.iconst 0, 1) := by decide +kernel
theorem dX3_init_159 : decode cX3_init 159 = .ok (.putfield 58, 3) := by decide +kernel
theorem dX3_init_162 : decode cX3_init 162 = .ok (.return_, 1) := by decide +kernel
set_option maxRecDepth 20000 in
theorem ggX3_init__X1_prepare : GoodIn wsX3_init_ wsX1_prepare := goodIn_r _ [8, 9, 10, 11, 12, 13, 14, 15, 16, 17, 18, 19, 20, 38, 39, 40, 41, 42, 43] (by decide +kernel) (by decide +kernel)
set_option maxRecDepth 20000 in
theorem gX3_init__X1_prepare : GoodIn wsX3_init_ (wsV RX3 61 RX1 yX1_prepare wsX1_prepare) := goodIn_app (goodIn_of _ (by decide +kernel)) ggX3_init__X1_prepare
set_option maxRecDepth 20000 in
theorem ggX3_init__X0_prepare : GoodIn wsX3_init_ wsX0_prepare := goodIn_r _ [25, 26, 27, 17, 15, 18, 19, 20, 14, 16, 44, 45] (by decide +kernel) (by decide +kernel)
set_option maxRecDepth 20000 in
theorem gX3_init__X0_prepare : GoodIn wsX3_init_ (wsV RX3 64 RX0 yX0_prepare wsX0_prepare) := goodIn_app (goodIn_of _ (by decide +kernel)) ggX3_init__X0_prepare
theorem dX3_init__0 : decode cX3_init_ 0 = .ok (.aload_n 0, 1) := by decide +kernel
theorem dX3_init__1 : decode cX3_init_ 1 = .ok (.getfield 54, 3) := by decide +kernel
theorem dX3_init__4 : decode cX3_init_ 4 = .ok (.ifCond .eq 5, 3) := by decide +kernel
theorem dX3_init__7 : decode cX3_init_ 7 = .ok (.iconst 0, 1) := by decide +kernel
theorem dX3_init__8 : decode cX3_init_ 8 = .ok (.ireturn, 1) := by decide +kernel
theorem dX3_init__9 : decode cX3_init_ 9 = .ok (.iconst 0, 1) := by decide +kernel
theorem dX3_init__10 : decode cX3_init_ 10 = .ok (.istore_n 1, 1) := by decide +kernel
theorem dX3_init__11 : decode cX3_init_ 11 = .ok (.iload_n 1, 1) := by decide +kernel
theorem dX3_init__12 : decode cX3_init_ 12 = .ok (.aload_n 0, 1) := by decide +kernel
theorem dX3_init__13 : decode cX3_init_ 13 = .ok (.getfield 37, 3) := by decide +kernel
theorem dX3_init__16 : decode cX3_init_ 16 = .ok (.arraylength, 1) := by decide +kernel
theorem dX3_init__17 : decode cX3_init_ 17 = .ok (.if_icmp .ge 18, 3) := by decide +kernel
theorem dX3_init__20 : decode cX3_init_ 20 = .ok (.aload_n 0, 1) := by decide +kernel
theorem dX3_init__21 : decode cX3_init_ 21 = .ok (.getfield 37, 3) := by decide +kernel
theorem dX3_init__24 : decode cX3_init_ 24 = .ok (.iload_n 1, 1) := by decide +kernel
theorem dX3_init__25 : decode cX3_init_ 25 = .ok (.aaload, 1) := by decide +kernel
theorem dX3_init__26 : decode cX3_init_ 26 = .ok (.invokevirtual 61, 3) := by decide +kernel
theorem dX3_init__29 : decode cX3_init_ 29 = .ok (.iinc 1 1, 3) := by decide +kernel
theorem dX3_init__32 : decode cX3_init_ 32 = .ok (.goto (-21), 3) := by decide +kernel
theorem dX3_init__35 : decode cX3_init_ 35 = .ok (.aload_n 0, 1) := by decide +kernel
theorem dX3_init__36 : decode cX3_init_ 36 = .ok (.getfield 47, 3) := by decide +kernel
theorem dX3_init__39 : decode cX3_init_ 39 = .ok (.invokevirtual 64, 3) := by decide +kernel
theorem dX3_init__42 : decode cX3_init_ 42 = .ok (.aload_n 0, 1) := by decide +kernel
theorem dX3_init__43 : decode cX3_init_ 43 = .ok (.iconst 1, 1) := by decide +kernel
theorem dX3_init__44 : decode cX3_init_ 44 = .ok (.putfield 54, 3) := by decide +kernel
theorem dX3_init__47 : decode cX3_init_ 47 = .ok (.iconst 1, 1) := by decide +kernel
theorem dX3_init__48 : decode cX3_init_ 48 = .ok (.ireturn, 1) := by decide +kernel
set_option maxRecDepth 20000 in
theorem ggX3_clear_X2_empty : GoodIn wsX3_clear wsX2_empty := goodIn_r _ [9, 10, 21, 22] (by decide +kernel) (by decide +kernel)
set_option maxRecDepth 20000 in
theorem gX3_clear_X2_empty : GoodIn wsX3_clear (wsV RX3 65 RX2 yX2_empty wsX2_empty) := goodIn_app (goodIn_of _ (by decide +kernel)) ggX3_clear_X2_empty
theorem dX3_clear_0 : decode cX3_clear 0 = .ok (.aload_n 0, 1) := by decide +kernel
theorem dX3_clear_1 : decode cX3_clear 1 = .ok (.getfield 21, 3) := by decide +kernel
theorem dX3_clear_4 : decode cX3_clear 4 = .ok (.invokevirtual 65, 3) := by decide +kernel
theorem dX3_clear_7 : decode cX3_clear 7 = .ok (.aload_n 0, 1) := by decide +kernel
theorem dX3_clear_8 : decode cX3_clear 8 = .ok (.getfield 25, 3) := by decide +kernel
theorem dX3_clear_11 : decode cX3_clear 11 = .ok (.invokevirtual 65, 3) := by decide +kernel
theorem dX3_clear_14 : decode cX3_clear 14 = .ok (.aload_n 0, 1) := by decide +kernel
theorem dX3_clear_15 : decode cX3_clear 15 = .ok (.getfield 28, 3) := by decide +kernel
theorem dX3_clear_18 : decode cX3_clear 18 = .ok (.invokevirtual 65, 3) := by decide +kernel
theorem dX3_clear_21 : decode cX3_clear 21 = .ok (.aload_n 0, 1) := by decide +kernel
theorem dX3_clear_22 : decode cX3_clear 22 = .ok (.iconst 0, 1) := by decide +kernel
theorem dX3_clear_23 : decode cX3_clear 23 = .ok (.putfield 58, 3) := by decide +kernel
theorem dX3_clear_26 : decode cX3_clear 26 = .ok (.return_, 1) := by decide +kernel
set_option maxRecDepth 20000 in
theorem ggX3_feedA_X2_append : GoodIn wsX3_feedA wsX2_append := goodIn_r _ [6, 7, 8, 9, 10, 11, 12, 13, 14, 15, 16, 27, 28] (by decide +kernel) (by decide +kernel)
set_option maxRecDepth 20000 in
theorem gX3_feedA_X2_append : GoodIn wsX3_feedA (wsV RX3 68 RX2 yX2_append wsX2_append) := goodIn_app (goodIn_of _ (by decide +kernel)) ggX3_feedA_X2_append
theorem dX3_feedA_0 : decode cX3_feedA 0 = .ok (.aload_n 0, 1) := by decide +kernel
theorem dX3_feedA_1 : decode cX3_feedA 1 = .ok (.getfield 21, 3) := by decide +kernel
theorem dX3_feedA_4 : decode cX3_feedA 4 = .ok (.iload_n 1, 1) := by decide +kernel
theorem dX3_feedA_5 : decode cX3_feedA 5 = .ok (.iconst 1, 1) := by decide +kernel
theorem dX3_feedA_6 : decode cX3_feedA 6 = .ok (.invokevirtual 68, 3) := by decide +kernel
theorem dX3_feedA_9 : decode cX3_feedA 9 = .ok (.ireturn, 1) := by decide +kernel
set_option maxRecDepth 20000 in
theorem ggX3_feedB_X2_append : GoodIn wsX3_feedB wsX2_append := goodIn_r _ [6, 7, 8, 9, 10, 11, 12, 13, 14, 15, 16, 27, 28] (by decide +kernel) (by decide +kernel)
set_option maxRecDepth 20000 in
theorem gX3_feedB_X2_append : GoodIn wsX3_feedB (wsV RX3 68 RX2 yX2_append wsX2_append) := goodIn_app (goodIn_of _ (by decide +kernel)) ggX3_feedB_X2_append
theorem dX3_feedB_0 : decode cX3_feedB 0 = .ok (.aload_n 0, 1) := by decide +kernel
theorem dX3_feedB_1 : decode cX3_feedB 1 = .ok (.getfield 25, 3) := by decide +kernel
theorem dX3_feedB_4 : decode cX3_feedB 4 = .ok (.iload_n 1, 1) := by decide +kernel
theorem dX3_feedB_5 : decode cX3_feedB 5 = .ok (.iconst 1, 1) := by decide +kernel
theorem dX3_feedB_6 : decode cX3_feedB 6 = .ok (.invokevirtual 68, 3) := by decide +kernel
theorem dX3_feedB_9 : decode cX3_feedB 9 = .ok (.ireturn, 1) := by decide +kernel
set_option maxRecDepth 20000 in
theorem ggX3_repeat_X3_isRow : GoodIn wsX3_repeat wsX3_isRow := goodIn_r _ [4] (by decide +kernel) (by decide +kernel)
set_option maxRecDepth 20000 in
theorem gX3_repeat_X3_isRow : GoodIn wsX3_repeat (va_wsS RX3 72 yX3_isRow wsX3_isRow) := goodIn_app (goodIn_of _ (by decide +kernel)) ggX3_repeat_X3_isRow
set_option maxRecDepth 20000 in
theorem ggX3_repeat_X3_rowOf : GoodIn wsX3_repeat wsX3_rowOf := goodIn_r _ [8, 9, 10, 26, 27, 28, 29, 30, 31, 32, 33, 34, 35] (by decide +kernel) (by decide +kernel)
set_option maxRecDepth 20000 in
theorem gX3_repeat_X3_rowOf : GoodIn wsX3_repeat (wsV RX3 76 RX3 yX3_rowOf wsX3_rowOf) := goodIn_app (goodIn_of _ (by decide +kernel)) ggX3_repeat_X3_rowOf
set_option maxRecDepth 20000 in
theorem ggX3_repeat_X2_append : GoodIn wsX3_repeat wsX2_append := goodIn_r _ [15, 16, 17, 18, 19, 20, 21, 22, 23, 24, 25, 36, 37] (by decide +kernel) (by decide +kernel)
set_option maxRecDepth 20000 in
theorem gX3_repeat_X2_append : GoodIn wsX3_repeat (wsV RX3 68 RX2 yX2_append wsX2_append) := goodIn_app (goodIn_of _ (by decide +kernel)) ggX3_repeat_X2_append
theorem dX3_repeat_0 : decode cX3_repeat 0 = .ok (.iload_n 1, 1) := by decide +kernel
theorem dX3_repeat_1 : decode cX3_repeat 1 = .ok (.invokestatic 72, 3) := by decide +kernel
theorem dX3_repeat_4 : decode cX3_repeat 4 = .ok (.ifCond .eq 20, 3) := by decide +kernel
theorem dX3_repeat_7 : decode cX3_repeat 7 = .ok (.aload_n 0, 1) := by decide +kernel
theorem dX3_repeat_8 : decode cX3_repeat 8 = .ok (.iload_n 1, 1) := by decide +kernel
theorem dX3_repeat_9 : decode cX3_repeat 9 = .ok (.invokevirtual 76, 3) := by decide +kernel
theorem dX3_repeat_12 : decode cX3_repeat 12 = .ok (.iload_n 2, 1) := by decide +kernel
theorem dX3_repeat_13 : decode cX3_repeat 13 = .ok (.iload_n 3, 1) := by decide +kernel
theorem dX3_repeat_14 : decode cX3_repeat 14 = .ok (.invokevirtual 68, 3) := by decide +kernel
theorem dX3_repeat_17 : decode cX3_repeat 17 = .ok (.ifCond .eq 7, 3) := by decide +kernel
theorem dX3_repeat_20 : decode cX3_repeat 20 = .ok (.iconst 1, 1) := by decide +kernel
theorem dX3_repeat_21 : decode cX3_repeat 21 = .ok (.goto 4, 3) := by decide +kernel
theorem dX3_repeat_24 : decode cX3_repeat 24 = .ok (.iconst 0, 1) := by decide +kernel
theorem dX3_repeat_25 : decode cX3_repeat 25 = .ok (.ireturn, 1) := by decide +kernel
set_option maxRecDepth 20000 in
theorem ggX3_multiply_X2_count : GoodIn wsX3_multiply wsX2_count := goodIn_r _ [13, 14, 112, 113] (by decide +kernel) (by decide +kernel)
set_option maxRecDepth 20000 in
theorem gX3_multiply_X2_count : GoodIn wsX3_multiply (wsV RX3 80 RX2 yX2_count wsX2_count) := goodIn_app (goodIn_of _ (by decide +kernel)) ggX3_multiply_X2_count
set_option maxRecDepth 20000 in
theorem ggX3_multiply_X1_convolve : GoodIn wsX3_multiply wsX1_convolve := goodIn_r _ [19, 20, 21, 22, 23, 12, 24, 25, 14, 26, 27, 28, 29, 30, 31, 32, 33, 34, 35, 36, 37, 38, 39, 18, 40, 41, 42, 43, 44, 45, 46, 47, 48, 49, 50, 51, 52, 53, 54, 55, 56, 57, 58, 59, 60, 114, 115, 116, 117, 118, 119, 112, 113] (by decide +kernel) (by decide +kernel)
set_option maxRecDepth 20000 in
theorem gX3_multiply_X1_convolve : GoodIn wsX3_multiply (wsV RX3 84 RX1 yX1_convolve wsX1_convolve) := goodIn_app (goodIn_of _ (by decide +kernel)) ggX3_multiply_X1_convolve
set_option maxRecDepth 20000 in
theorem ggX3_multiply_X3_carryInto : GoodIn wsX3_multiply wsX3_carryInto := goodIn_r _ [65, 66, 67, 5, 68, 69, 70, 71, 12, 72, 14, 73, 74, 75, 18, 76, 20, 46, 77, 47, 78, 79, 80, 81, 82, 83, 84, 85, 86, 87, 88, 89, 90, 91, 92, 93, 25, 30, 31, 32, 33, 34, 35, 36, 94, 95, 96, 97, 98, 99, 100, 101, 102, 103, 104, 105, 106, 107, 108, 109, 110, 111, 112, 113, 114, 115, 116, 117, 118, 119, 120, 121] (by decide +kernel) (by decide +kernel)
set_option maxRecDepth 20000 in
theorem gX3_multiply_X3_carryInto : GoodIn wsX3_multiply (wsV RX3 88 RX3 yX3_carryInto wsX3_carryInto) := goodIn_app (goodIn_of _ (by decide +kernel)) ggX3_multiply_X3_carryInto
theorem dX3_multiply_0 : decode cX3_multiply 0 = .ok (.aload_n 0, 1) := by decide +kernel
theorem dX3_multiply_1 : decode cX3_multiply 1 = .ok (.getfield 21, 3) := by decide +kernel
theorem dX3_multiply_4 : decode cX3_multiply 4 = .ok (.invokevirtual 80, 3) := by decide +kernel
theorem dX3_multiply_7 : decode cX3_multiply 7 = .ok (.aload_n 0, 1) := by decide +kernel
theorem dX3_multiply_8 : decode cX3_multiply 8 = .ok (.getfield 25, 3) := by decide +kernel
theorem dX3_multiply_11 : decode cX3_multiply 11 = .ok (.invokevirtual 80, 3) := by decide +kernel
theorem dX3_multiply_14 : decode cX3_multiply 14 = .ok (.iadd, 1) := by decide +kernel
theorem dX3_multiply_15 : decode cX3_multiply 15 = .ok (.istore_n 1, 1) := by decide +kernel
theorem dX3_multiply_16 : decode cX3_multiply 16 = .ok (.aload_n 0, 1) := by decide +kernel
theorem dX3_multiply_17 : decode cX3_multiply 17 = .ok (.getfield 54, 3) := by decide +kernel
theorem dX3_multiply_20 : decode cX3_multiply 20 = .ok (.ifCond .eq 11, 3) := by decide +kernel
theorem dX3_multiply_23 : decode cX3_multiply 23 = .ok (.iload_n 1, 1) := by decide +kernel
theorem dX3_multiply_24 : decode cX3_multiply 24 = .ok (.aload_n 0, 1) := by decide +kernel
theorem dX3_multiply_25 : decode cX3_multiply 25 = .ok (.getfield 9, 3) := by decide +kernel
theorem dX3_multiply_28 : decode cX3_multiply 28 = .ok (.if_icmp .le 5, 3) := by decide +kernel
theorem dX3_multiply_31 : decode cX3_multiply 31 = .ok (.iconst 0, 1) := by decide +kernel
theorem dX3_multiply_32 : decode cX3_multiply 32 = .ok (.ireturn, 1) := by decide +kernel
theorem dX3_multiply_33 : decode cX3_multiply 33 = .ok (.iconst 0, 1) := by decide +kernel
theorem dX3_multiply_34 : decode cX3_multiply 34 = .ok (.istore_n 2, 1) := by decide +kernel
theorem dX3_multiply_35 : decode cX3_multiply 35 = .ok (.iload_n 2, 1) := by decide +kernel
theorem dX3_multiply_36 : decode cX3_multiply 36 = .ok (.aload_n 0, 1) := by decide +kernel
theorem dX3_multiply_37 : decode cX3_multiply 37 = .ok (.getfield 37, 3) := by decide +kernel
theorem dX3_multiply_40 : decode cX3_multiply 40 = .ok (.arraylength, 1) := by decide +kernel
theorem dX3_multiply_41 : decode cX3_multiply 41 = .ok (.if_icmp .ge 30, 3) := by decide +kernel
theorem dX3_multiply_44 : decode cX3_multiply 44 = .ok (.aload_n 0, 1) := by decide +kernel
theorem dX3_multiply_45 : decode cX3_multiply 45 = .ok (.getfield 37, 3) := by decide +kernel
theorem dX3_multiply_48 : decode cX3_multiply 48 = .ok (.iload_n 2, 1) := by decide +kernel
theorem dX3_multiply_49 : decode cX3_multiply 49 = .ok (.aaload, 1) := by decide +kernel
theorem dX3_multiply_50 : decode cX3_multiply 50 = .ok (.aload_n 0, 1) := by decide +kernel
theorem dX3_multiply_51 : decode cX3_multiply 51 = .ok (.getfield 21, 3) := by decide +kernel
theorem dX3_multiply_54 : decode cX3_multiply 54 = .ok (.aload_n 0, 1) := by decide +kernel
theorem dX3_multiply_55 : decode cX3_multiply 55 = .ok (.getfield 25, 3) := by decide +kernel
theorem dX3_multiply_58 : decode cX3_multiply 58 = .ok (.aload_n 0, 1) := by decide +kernel
theorem dX3_multiply_59 : decode cX3_multiply 59 = .ok (.getfield 51, 3) := by decide +kernel
theorem dX3_multiply_62 : decode cX3_multiply 62 = .ok (.invokevirtual 84, 3) := by decide +kernel
theorem dX3_multiply_65 : decode cX3_multiply 65 = .ok (.iinc 2 1, 3) := by decide +kernel
theorem dX3_multiply_68 : decode cX3_multiply 68 = .ok (.goto (-33), 3) := by decide +kernel
theorem dX3_multiply_71 : decode cX3_multiply 71 = .ok (.aload_n 0, 1) := by decide +kernel
theorem dX3_multiply_72 : decode cX3_multiply 72 = .ok (.iload_n 1, 1) := by decide +kernel
theorem dX3_multiply_73 : decode cX3_multiply 73 = .ok (.invokevirtual 88, 3) := by decide +kernel
theorem dX3_multiply_76 : decode cX3_multiply 76 = .ok (.aload_n 0, 1) := by decide +kernel
theorem dX3_multiply_77 : decode cX3_multiply 77 = .ok (.bipush 9, 2) := by decide +kernel
theorem dX3_multiply_79 : decode cX3_multiply 79 = .ok (.aload_n 0, 1) := by decide +kernel
theorem dX3_multiply_80 : decode cX3_multiply 80 = .ok (.getfield 13, 3) := by decide +kernel
theorem dX3_multiply_83 : decode cX3_multiply 83 = .ok (.imul, 1) := by decide +kernel
theorem dX3_multiply_84 : decode cX3_multiply 84 = .ok (.putfield 58, 3) := by decide +kernel
theorem dX3_multiply_87 : decode cX3_multiply 87 = .ok (.iconst 1, 1) := by decide +kernel
theorem dX3_multiply_88 : decode cX3_multiply 88 = .ok (.ireturn, 1) := by decide +kernel
set_option maxRecDepth 20000 in
theorem ggX3_square_X2_count : GoodIn wsX3_square wsX2_count := goodIn_r _ [11, 12, 110, 111] (by decide +kernel) (by decide +kernel)
set_option maxRecDepth 20000 in
theorem gX3_square_X2_count : GoodIn wsX3_square (wsV RX3 80 RX2 yX2_count wsX2_count) := goodIn_app (goodIn_of _ (by decide +kernel)) ggX3_square_X2_count
set_option maxRecDepth 20000 in
theorem ggX3_square_X1_convolveWithItself : GoodIn wsX3_square wsX1_convolveWithItself := goodIn_r _ [17, 18, 19, 20, 21, 10, 22, 23, 12, 24, 25, 26, 27, 28, 29, 30, 31, 32, 33, 34, 35, 36, 37, 16, 38, 39, 40, 41, 42, 43, 44, 45, 46, 47, 48, 49, 50, 51, 52, 53, 54, 55, 56, 57, 58, 112, 113, 114, 115, 116, 117, 110, 111] (by decide +kernel) (by decide +kernel)
set_option maxRecDepth 20000 in
theorem gX3_square_X1_convolveWithItself : GoodIn wsX3_square (wsV RX3 91 RX1 yX1_convolveWithItself wsX1_convolveWithItself) := goodIn_app (goodIn_of _ (by decide +kernel)) ggX3_square_X1_convolveWithItself
set_option maxRecDepth 20000 in
theorem ggX3_square_X3_carryInto : GoodIn wsX3_square wsX3_carryInto := goodIn_r _ [63, 64, 65, 4, 66, 67, 68, 69, 10, 70, 12, 71, 72, 73, 16, 74, 18, 44, 75, 45, 76, 77, 78, 79, 80, 81, 82, 83, 84, 85, 86, 87, 88, 89, 90, 91, 23, 28, 29, 30, 31, 32, 33, 34, 92, 93, 94, 95, 96, 97, 98, 99, 100, 101, 102, 103, 104, 105, 106, 107, 108, 109, 110, 111, 112, 113, 114, 115, 116, 117, 118, 119] (by decide +kernel) (by decide +kernel)
set_option maxRecDepth 20000 in
theorem gX3_square_X3_carryInto : GoodIn wsX3_square (wsV RX3 88 RX3 yX3_carryInto wsX3_carryInto) := goodIn_app (goodIn_of _ (by decide +kernel)) ggX3_square_X3_carryInto
theorem dX3_square_0 : decode cX3_square 0 = .ok (.iconst 2, 1) := by decide +kernel
theorem dX3_square_1 : decode cX3_square 1 = .ok (.aload_n 0, 1) := by decide +kernel
theorem dX3_square_2 : decode cX3_square 2 = .ok (.getfield 21, 3) := by decide +kernel
theorem dX3_square_5 : decode cX3_square 5 = .ok (.invokevirtual 80, 3) := by decide +kernel
theorem dX3_square_8 : decode cX3_square 8 = .ok (.imul, 1) := by decide +kernel
theorem dX3_square_9 : decode cX3_square 9 = .ok (.istore_n 1, 1) := by decide +kernel
theorem dX3_square_10 : decode cX3_square 10 = .ok (.aload_n 0, 1) := by decide +kernel
theorem dX3_square_11 : decode cX3_square 11 = .ok (.getfield 54, 3) := by decide +kernel
theorem dX3_square_14 : decode cX3_square 14 = .ok (.ifCond .eq 11, 3) := by decide +kernel
theorem dX3_square_17 : decode cX3_square 17 = .ok (.iload_n 1, 1) := by decide +kernel
theorem dX3_square_18 : decode cX3_square 18 = .ok (.aload_n 0, 1) := by decide +kernel
theorem dX3_square_19 : decode cX3_square 19 = .ok (.getfield 9, 3) := by decide +kernel
theorem dX3_square_22 : decode cX3_square 22 = .ok (.if_icmp .le 5, 3) := by decide +kernel
theorem dX3_square_25 : decode cX3_square 25 = .ok (.iconst 0, 1) := by decide +kernel
theorem dX3_square_26 : decode cX3_square 26 = .ok (.ireturn, 1) := by decide +kernel
theorem dX3_square_27 : decode cX3_square 27 = .ok (.iconst 0, 1) := by decide +kernel
theorem dX3_square_28 : decode cX3_square 28 = .ok (.istore_n 2, 1) := by decide +kernel
theorem dX3_square_29 : decode cX3_square 29 = .ok (.iload_n 2, 1) := by decide +kernel
theorem dX3_square_30 : decode cX3_square 30 = .ok (.aload_n 0, 1) := by decide +kernel
theorem dX3_square_31 : decode cX3_square 31 = .ok (.getfield 37, 3) := by decide +kernel
theorem dX3_square_34 : decode cX3_square 34 = .ok (.arraylength, 1) := by decide +kernel
theorem dX3_square_35 : decode cX3_square 35 = .ok (.if_icmp .ge 22, 3) := by decide +kernel
theorem dX3_square_38 : decode cX3_square 38 = .ok (.aload_n 0, 1) := by decide +kernel
theorem dX3_square_39 : decode cX3_square 39 = .ok (.getfield 37, 3) := by decide +kernel
theorem dX3_square_42 : decode cX3_square 42 = .ok (.iload_n 2, 1) := by decide +kernel
theorem dX3_square_43 : decode cX3_square 43 = .ok (.aaload, 1) := by decide +kernel
theorem dX3_square_44 : decode cX3_square 44 = .ok (.aload_n 0, 1) := by decide +kernel
theorem dX3_square_45 : decode cX3_square 45 = .ok (.getfield 21, 3) := by decide +kernel
theorem dX3_square_48 : decode cX3_square 48 = .ok (.invokevirtual 91, 3) := by decide +kernel
theorem dX3_square_51 : decode cX3_square 51 = .ok (.iinc 2 1, 3) := by decide +kernel
theorem dX3_square_54 : decode cX3_square 54 = .ok (.goto (-25), 3) := by decide +kernel
theorem dX3_square_57 : decode cX3_square 57 = .ok (.aload_n 0, 1) := by decide +kernel
theorem dX3_square_58 : decode cX3_square 58 = .ok (.iload_n 1, 1) := by decide +kernel
theorem dX3_square_59 : decode cX3_square 59 = .ok (.invokevirtual 88, 3) := by decide +kernel
theorem dX3_square_62 : decode cX3_square 62 = .ok (.aload_n 0, 1) := by decide +kernel
theorem dX3_square_63 : decode cX3_square 63 = .ok (.bipush 6, 2) := by decide +kernel
theorem dX3_square_65 : decode cX3_square 65 = .ok (.aload_n 0, 1) := by decide +kernel
theorem dX3_square_66 : decode cX3_square 66 = .ok (.getfield 13, 3) := by decide +kernel
theorem dX3_square_69 : decode cX3_square 69 = .ok (.imul, 1) := by decide +kernel
theorem dX3_square_70 : decode cX3_square 70 = .ok (.putfield 58, 3) := by decide +kernel
theorem dX3_square_73 : decode cX3_square 73 = .ok (.iconst 1, 1) := by decide +kernel
theorem dX3_square_74 : decode cX3_square 74 = .ok (.ireturn, 1) := by decide +kernel
set_option maxRecDepth 20000 in
theorem ggX3_length_X2_count : GoodIn wsX3_length wsX2_count := goodIn_r _ [6, 7, 18, 19] (by decide +kernel) (by decide +kernel)
set_option maxRecDepth 20000 in
theorem gX3_length_X2_count : GoodIn wsX3_length (wsV RX3 80 RX2 yX2_count wsX2_count) := goodIn_app (goodIn_of _ (by decide +kernel)) ggX3_length_X2_count
theorem dX3_length_0 : decode cX3_length 0 = .ok (.aload_n 0, 1) := by decide +kernel
theorem dX3_length_1 : decode cX3_length 1 = .ok (.getfield 28, 3) := by decide +kernel
theorem dX3_length_4 : decode cX3_length 4 = .ok (.invokevirtual 80, 3) := by decide +kernel
theorem dX3_length_7 : decode cX3_length 7 = .ok (.ireturn, 1) := by decide +kernel
set_option maxRecDepth 20000 in
theorem ggX3_digit_X2_count : GoodIn wsX3_digit wsX2_count := goodIn_r _ [6, 7, 23, 24] (by decide +kernel) (by decide +kernel)
set_option maxRecDepth 20000 in
theorem gX3_digit_X2_count : GoodIn wsX3_digit (wsV RX3 80 RX2 yX2_count wsX2_count) := goodIn_app (goodIn_of _ (by decide +kernel)) ggX3_digit_X2_count
set_option maxRecDepth 20000 in
theorem ggX3_digit_X2_at : GoodIn wsX3_digit wsX2_at := goodIn_r _ [11, 12, 23, 24] (by decide +kernel) (by decide +kernel)
set_option maxRecDepth 20000 in
theorem gX3_digit_X2_at : GoodIn wsX3_digit (wsV RX3 95 RX2 yX2_at wsX2_at) := goodIn_app (goodIn_of _ (by decide +kernel)) ggX3_digit_X2_at
theorem dX3_digit_0 : decode cX3_digit 0 = .ok (.iload_n 1, 1) := by decide +kernel
theorem dX3_digit_1 : decode cX3_digit 1 = .ok (.ifCond .lt 25, 3) := by decide +kernel
theorem dX3_digit_4 : decode cX3_digit 4 = .ok (.iload_n 1, 1) := by decide +kernel
theorem dX3_digit_5 : decode cX3_digit 5 = .ok (.aload_n 0, 1) := by decide +kernel
theorem dX3_digit_6 : decode cX3_digit 6 = .ok (.getfield 28, 3) := by decide +kernel
theorem dX3_digit_9 : decode cX3_digit 9 = .ok (.invokevirtual 80, 3) := by decide +kernel
theorem dX3_digit_12 : decode cX3_digit 12 = .ok (.if_icmp .ge 14, 3) := by decide +kernel
theorem dX3_digit_15 : decode cX3_digit 15 = .ok (.aload_n 0, 1) := by decide +kernel
theorem dX3_digit_16 : decode cX3_digit 16 = .ok (.getfield 28, 3) := by decide +kernel
theorem dX3_digit_19 : decode cX3_digit 19 = .ok (.iload_n 1, 1) := by decide +kernel
theorem dX3_digit_20 : decode cX3_digit 20 = .ok (.invokevirtual 95, 3) := by decide +kernel
theorem dX3_digit_23 : decode cX3_digit 23 = .ok (.goto 4, 3) := by decide +kernel
theorem dX3_digit_26 : decode cX3_digit 26 = .ok (.iconst (-1), 1) := by decide +kernel
theorem dX3_digit_27 : decode cX3_digit 27 = .ok (.ireturn, 1) := by decide +kernel
theorem dX3_butterflies_0 : decode cX3_butterflies 0 = .ok (.aload_n 0, 1) := by decide +kernel
theorem dX3_butterflies_1 : decode cX3_butterflies 1 = .ok (.getfield 58, 3) := by decide +kernel
theorem dX3_butterflies_4 : decode cX3_butterflies 4 = .ok (.ireturn, 1) := by decide +kernel
set_option maxRecDepth 20000 in
theorem ggX3_spectrum_X3_isRow : GoodIn wsX3_spectrum wsX3_isRow := goodIn_r _ [7] (by decide +kernel) (by decide +kernel)
set_option maxRecDepth 20000 in
theorem gX3_spectrum_X3_isRow : GoodIn wsX3_spectrum (va_wsS RX3 72 yX3_isRow wsX3_isRow) := goodIn_app (goodIn_of _ (by decide +kernel)) ggX3_spectrum_X3_isRow
set_option maxRecDepth 20000 in
theorem ggX3_spectrum_X3_rowOf : GoodIn wsX3_spectrum wsX3_rowOf := goodIn_r _ [11, 12, 13, 32, 33, 34, 35, 36, 37, 38, 39, 40, 41] (by decide +kernel) (by decide +kernel)
set_option maxRecDepth 20000 in
theorem gX3_spectrum_X3_rowOf : GoodIn wsX3_spectrum (wsV RX3 76 RX3 yX3_rowOf wsX3_rowOf) := goodIn_app (goodIn_of _ (by decide +kernel)) ggX3_spectrum_X3_rowOf
set_option maxRecDepth 20000 in
theorem ggX3_spectrum_X1_spectrumNumber : GoodIn wsX3_spectrum wsX1_spectrumNumber := goodIn_r _ [18, 19, 20, 21, 22, 23, 24, 25, 26, 27, 28, 29, 30, 31, 42, 43, 44, 45, 46, 47, 48, 49] (by decide +kernel) (by decide +kernel)
set_option maxRecDepth 20000 in
theorem gX3_spectrum_X1_spectrumNumber : GoodIn wsX3_spectrum (wsV RX3 99 RX1 yX1_spectrumNumber wsX1_spectrumNumber) := goodIn_app (goodIn_of _ (by decide +kernel)) ggX3_spectrum_X1_spectrumNumber
theorem dX3_spectrum_0 : decode cX3_spectrum 0 = .ok (.aload_n 0, 1) := by decide +kernel
theorem dX3_spectrum_1 : decode cX3_spectrum 1 = .ok (.getfield 54, 3) := by decide +kernel
theorem dX3_spectrum_4 : decode cX3_spectrum 4 = .ok (.ifCond .eq 10, 3) := by decide +kernel
theorem dX3_spectrum_7 : decode cX3_spectrum 7 = .ok (.iload_n 1, 1) := by decide +kernel
theorem dX3_spectrum_8 : decode cX3_spectrum 8 = .ok (.invokestatic 72, 3) := by decide +kernel
theorem dX3_spectrum_11 : decode cX3_spectrum 11 = .ok (.ifCond .ne 5, 3) := by decide +kernel
theorem dX3_spectrum_14 : decode cX3_spectrum 14 = .ok (.iconst (-1), 1) := by decide +kernel
theorem dX3_spectrum_15 : decode cX3_spectrum 15 = .ok (.ireturn, 1) := by decide +kernel
theorem dX3_spectrum_16 : decode cX3_spectrum 16 = .ok (.iload_n 2, 1) := by decide +kernel
theorem dX3_spectrum_17 : decode cX3_spectrum 17 = .ok (.ifCond .lt 24, 3) := by decide +kernel
theorem dX3_spectrum_20 : decode cX3_spectrum 20 = .ok (.iload_n 2, 1) := by decide +kernel
theorem dX3_spectrum_21 : decode cX3_spectrum 21 = .ok (.aload_n 0, 1) := by decide +kernel
theorem dX3_spectrum_22 : decode cX3_spectrum 22 = .ok (.getfield 37, 3) := by decide +kernel
theorem dX3_spectrum_25 : decode cX3_spectrum 25 = .ok (.arraylength, 1) := by decide +kernel
theorem dX3_spectrum_26 : decode cX3_spectrum 26 = .ok (.if_icmp .ge 15, 3) := by decide +kernel
theorem dX3_spectrum_29 : decode cX3_spectrum 29 = .ok (.iload_n 3, 1) := by decide +kernel
theorem dX3_spectrum_30 : decode cX3_spectrum 30 = .ok (.ifCond .lt 11, 3) := by decide +kernel
theorem dX3_spectrum_33 : decode cX3_spectrum 33 = .ok (.iload_n 3, 1) := by decide +kernel
theorem dX3_spectrum_34 : decode cX3_spectrum 34 = .ok (.aload_n 0, 1) := by decide +kernel
theorem dX3_spectrum_35 : decode cX3_spectrum 35 = .ok (.getfield 9, 3) := by decide +kernel
theorem dX3_spectrum_38 : decode cX3_spectrum 38 = .ok (.if_icmp .lt 5, 3) := by decide +kernel
theorem dX3_spectrum_41 : decode cX3_spectrum 41 = .ok (.iconst (-1), 1) := by decide +kernel
theorem dX3_spectrum_42 : decode cX3_spectrum 42 = .ok (.ireturn, 1) := by decide +kernel
theorem dX3_spectrum_43 : decode cX3_spectrum 43 = .ok (.aload_n 0, 1) := by decide +kernel
theorem dX3_spectrum_44 : decode cX3_spectrum 44 = .ok (.getfield 37, 3) := by decide +kernel
theorem dX3_spectrum_47 : decode cX3_spectrum 47 = .ok (.iload_n 2, 1) := by decide +kernel
theorem dX3_spectrum_48 : decode cX3_spectrum 48 = .ok (.aaload, 1) := by decide +kernel
theorem dX3_spectrum_49 : decode cX3_spectrum 49 = .ok (.aload_n 0, 1) := by decide +kernel
theorem dX3_spectrum_50 : decode cX3_spectrum 50 = .ok (.iload_n 1, 1) := by decide +kernel
theorem dX3_spectrum_51 : decode cX3_spectrum 51 = .ok (.invokevirtual 76, 3) := by decide +kernel
theorem dX3_spectrum_54 : decode cX3_spectrum 54 = .ok (.iload_n 3, 1) := by decide +kernel
theorem dX3_spectrum_55 : decode cX3_spectrum 55 = .ok (.invokevirtual 99, 3) := by decide +kernel
theorem dX3_spectrum_58 : decode cX3_spectrum 58 = .ok (.ireturn, 1) := by decide +kernel
set_option maxRecDepth 20000 in
theorem ggX3_take_X3_isRow : GoodIn wsX3_take wsX3_isRow := goodIn_r _ [5] (by decide +kernel) (by decide +kernel)
set_option maxRecDepth 20000 in
theorem gX3_take_X3_isRow : GoodIn wsX3_take (va_wsS RX3 72 yX3_isRow wsX3_isRow) := goodIn_app (goodIn_of _ (by decide +kernel)) ggX3_take_X3_isRow
set_option maxRecDepth 20000 in
theorem ggX3_take_X3_rowOf : GoodIn wsX3_take wsX3_rowOf := goodIn_r _ [9, 10, 11, 31, 32, 33, 34, 35, 36, 37, 38, 39, 40] (by decide +kernel) (by decide +kernel)
set_option maxRecDepth 20000 in
theorem gX3_take_X3_rowOf : GoodIn wsX3_take (wsV RX3 76 RX3 yX3_rowOf wsX3_rowOf) := goodIn_app (goodIn_of _ (by decide +kernel)) ggX3_take_X3_rowOf
set_option maxRecDepth 20000 in
theorem ggX3_take_X2_copyFrom : GoodIn wsX3_take wsX2_copyFrom := goodIn_r _ [16, 17, 18, 19, 20, 21, 22, 41, 42] (by decide +kernel) (by decide +kernel)
set_option maxRecDepth 20000 in
theorem gX3_take_X2_copyFrom : GoodIn wsX3_take (wsV RX3 103 RX2 yX2_copyFrom wsX2_copyFrom) := goodIn_app (goodIn_of _ (by decide +kernel)) ggX3_take_X2_copyFrom
set_option maxRecDepth 20000 in
theorem ggX3_take_X2_trim : GoodIn wsX3_take wsX2_trim := goodIn_r _ [26, 18, 27, 28, 29, 15, 30, 17, 41, 42] (by decide +kernel) (by decide +kernel)
set_option maxRecDepth 20000 in
theorem gX3_take_X2_trim : GoodIn wsX3_take (wsV RX3 106 RX2 yX2_trim wsX2_trim) := goodIn_app (goodIn_of _ (by decide +kernel)) ggX3_take_X2_trim
theorem dX3_take_0 : decode cX3_take 0 = .ok (.iload_n 1, 1) := by decide +kernel
theorem dX3_take_1 : decode cX3_take 1 = .ok (.invokestatic 72, 3) := by decide +kernel
theorem dX3_take_4 : decode cX3_take 4 = .ok (.ifCond .ne 5, 3) := by decide +kernel
theorem dX3_take_7 : decode cX3_take 7 = .ok (.iconst 0, 1) := by decide +kernel
theorem dX3_take_8 : decode cX3_take 8 = .ok (.ireturn, 1) := by decide +kernel
theorem dX3_take_9 : decode cX3_take 9 = .ok (.aload_n 0, 1) := by decide +kernel
theorem dX3_take_10 : decode cX3_take 10 = .ok (.getfield 28, 3) := by decide +kernel
theorem dX3_take_13 : decode cX3_take 13 = .ok (.aload_n 0, 1) := by decide +kernel
theorem dX3_take_14 : decode cX3_take 14 = .ok (.iload_n 1, 1) := by decide +kernel
theorem dX3_take_15 : decode cX3_take 15 = .ok (.invokevirtual 76, 3) := by decide +kernel
theorem dX3_take_18 : decode cX3_take 18 = .ok (.invokevirtual 103, 3) := by decide +kernel
theorem dX3_take_21 : decode cX3_take 21 = .ok (.aload_n 0, 1) := by decide +kernel
theorem dX3_take_22 : decode cX3_take 22 = .ok (.getfield 28, 3) := by decide +kernel
theorem dX3_take_25 : decode cX3_take 25 = .ok (.invokevirtual 106, 3) := by decide +kernel
theorem dX3_take_28 : decode cX3_take 28 = .ok (.iconst 1, 1) := by decide +kernel
theorem dX3_take_29 : decode cX3_take 29 = .ok (.ireturn, 1) := by decide +kernel
set_option maxRecDepth 20000 in
theorem ggX3_give_X3_isRow : GoodIn wsX3_give wsX3_isRow := goodIn_r _ [5] (by decide +kernel) (by decide +kernel)
set_option maxRecDepth 20000 in
theorem gX3_give_X3_isRow : GoodIn wsX3_give (va_wsS RX3 72 yX3_isRow wsX3_isRow) := goodIn_app (goodIn_of _ (by decide +kernel)) ggX3_give_X3_isRow
set_option maxRecDepth 20000 in
theorem ggX3_give_X3_rowOf : GoodIn wsX3_give wsX3_rowOf := goodIn_r _ [9, 10, 11, 23, 24, 25, 26, 27, 28, 29, 30, 31, 32] (by decide +kernel) (by decide +kernel)
set_option maxRecDepth 20000 in
theorem gX3_give_X3_rowOf : GoodIn wsX3_give (wsV RX3 76 RX3 yX3_rowOf wsX3_rowOf) := goodIn_app (goodIn_of _ (by decide +kernel)) ggX3_give_X3_rowOf
set_option maxRecDepth 20000 in
theorem ggX3_give_X2_copyFrom : GoodIn wsX3_give wsX2_copyFrom := goodIn_r _ [16, 17, 18, 19, 20, 21, 22, 33, 34] (by decide +kernel) (by decide +kernel)
set_option maxRecDepth 20000 in
theorem gX3_give_X2_copyFrom : GoodIn wsX3_give (wsV RX3 103 RX2 yX2_copyFrom wsX2_copyFrom) := goodIn_app (goodIn_of _ (by decide +kernel)) ggX3_give_X2_copyFrom
theorem dX3_give_0 : decode cX3_give 0 = .ok (.iload_n 1, 1) := by decide +kernel
theorem dX3_give_1 : decode cX3_give 1 = .ok (.invokestatic 72, 3) := by decide +kernel
theorem dX3_give_4 : decode cX3_give 4 = .ok (.ifCond .ne 5, 3) := by decide +kernel
theorem dX3_give_7 : decode cX3_give 7 = .ok (.iconst 0, 1) := by decide +kernel
theorem dX3_give_8 : decode cX3_give 8 = .ok (.ireturn, 1) := by decide +kernel
theorem dX3_give_9 : decode cX3_give 9 = .ok (.aload_n 0, 1) := by decide +kernel
theorem dX3_give_10 : decode cX3_give 10 = .ok (.iload_n 1, 1) := by decide +kernel
theorem dX3_give_11 : decode cX3_give 11 = .ok (.invokevirtual 76, 3) := by decide +kernel
theorem dX3_give_14 : decode cX3_give 14 = .ok (.aload_n 0, 1) := by decide +kernel
theorem dX3_give_15 : decode cX3_give 15 = .ok (.getfield 28, 3) := by decide +kernel
theorem dX3_give_18 : decode cX3_give 18 = .ok (.invokevirtual 103, 3) := by decide +kernel
theorem dX3_give_21 : decode cX3_give 21 = .ok (.iconst 1, 1) := by decide +kernel
theorem dX3_give_22 : decode cX3_give 22 = .ok (.ireturn, 1) := by decide +kernel
set_option maxRecDepth 20000 in
theorem ggX3_compare_X2_comparedTo : GoodIn wsX3_compare wsX2_comparedTo := goodIn_r _ [7, 8, 9, 10, 11, 6, 12, 13, 24, 25] (by decide +kernel) (by decide +kernel)
set_option maxRecDepth 20000 in
theorem gX3_compare_X2_comparedTo : GoodIn wsX3_compare (wsV RX3 109 RX2 yX2_comparedTo wsX2_comparedTo) := goodIn_app (goodIn_of _ (by decide +kernel)) ggX3_compare_X2_comparedTo
theorem dX3_compare_0 : decode cX3_compare 0 = .ok (.aload_n 0, 1) := by decide +kernel
theorem dX3_compare_1 : decode cX3_compare 1 = .ok (.getfield 21, 3) := by decide +kernel
theorem dX3_compare_4 : decode cX3_compare 4 = .ok (.aload_n 0, 1) := by decide +kernel
theorem dX3_compare_5 : decode cX3_compare 5 = .ok (.getfield 25, 3) := by decide +kernel
theorem dX3_compare_8 : decode cX3_compare 8 = .ok (.invokevirtual 109, 3) := by decide +kernel
theorem dX3_compare_11 : decode cX3_compare 11 = .ok (.ireturn, 1) := by decide +kernel
set_option maxRecDepth 20000 in
theorem ggX3_rest_X2_remainder : GoodIn wsX3_rest wsX2_remainder := goodIn_r _ [7, 8, 9, 10, 21, 22] (by decide +kernel) (by decide +kernel)
set_option maxRecDepth 20000 in
theorem gX3_rest_X2_remainder : GoodIn wsX3_rest (wsV RX3 114 RX2 yX2_remainder wsX2_remainder) := goodIn_app (goodIn_of _ (by decide +kernel)) ggX3_rest_X2_remainder
theorem dX3_rest_0 : decode cX3_rest 0 = .ok (.iload_n 1, 1) := by decide +kernel
theorem dX3_rest_1 : decode cX3_rest 1 = .ok (.iconst 1, 1) := by decide +kernel
theorem dX3_rest_2 : decode cX3_rest 2 = .ok (.if_icmp .lt 9, 3) := by decide +kernel
theorem dX3_rest_5 : decode cX3_rest 5 = .ok (.iload_n 1, 1) := by decide +kernel
theorem dX3_rest_6 : decode cX3_rest 6 = .ok (.ldc 113, 2) := by decide +kernel
theorem dX3_rest_8 : decode cX3_rest 8 = .ok (.if_icmp .le 5, 3) := by decide +kernel
theorem dX3_rest_11 : decode cX3_rest 11 = .ok (.iconst (-1), 1) := by decide +kernel
theorem dX3_rest_12 : decode cX3_rest 12 = .ok (.ireturn, 1) := by decide +kernel
theorem dX3_rest_13 : decode cX3_rest 13 = .ok (.aload_n 0, 1) := by decide +kernel
theorem dX3_rest_14 : decode cX3_rest 14 = .ok (.getfield 28, 3) := by decide +kernel
theorem dX3_rest_17 : decode cX3_rest 17 = .ok (.iload_n 1, 1) := by decide +kernel
theorem dX3_rest_18 : decode cX3_rest 18 = .ok (.invokevirtual 114, 3) := by decide +kernel
theorem dX3_rest_21 : decode cX3_rest 21 = .ok (.ireturn, 1) := by decide +kernel
theorem dX3_isRow_0 : decode cX3_isRow 0 = .ok (.iload_n 0, 1) := by decide +kernel
theorem dX3_isRow_1 : decode cX3_isRow 1 = .ok (.ifCond .eq 8, 3) := by decide +kernel
theorem dX3_isRow_4 : decode cX3_isRow 4 = .ok (.iload_n 0, 1) := by decide +kernel
theorem dX3_isRow_5 : decode cX3_isRow 5 = .ok (.iconst 1, 1) := by decide +kernel
theorem dX3_isRow_6 : decode cX3_isRow 6 = .ok (.if_icmp .ne 7, 3) := by decide +kernel
theorem dX3_isRow_9 : decode cX3_isRow 9 = .ok (.iconst 1, 1) := by decide +kernel
theorem dX3_isRow_10 : decode cX3_isRow 10 = .ok (.goto 4, 3) := by decide +kernel
theorem dX3_isRow_13 : decode cX3_isRow 13 = .ok (.iconst 0, 1) := by decide +kernel
theorem dX3_isRow_14 : decode cX3_isRow 14 = .ok (.ireturn, 1) := by decide +kernel
theorem dX3_rowOf_0 : decode cX3_rowOf 0 = .ok (.iload_n 1, 1) := by decide +kernel
theorem dX3_rowOf_1 : decode cX3_rowOf 1 = .ok (.ifCond .ne 10, 3) := by decide +kernel
theorem dX3_rowOf_4 : decode cX3_rowOf 4 = .ok (.aload_n 0, 1) := by decide +kernel
theorem dX3_rowOf_5 : decode cX3_rowOf 5 = .ok (.getfield 21, 3) := by decide +kernel
theorem dX3_rowOf_8 : decode cX3_rowOf 8 = .ok (.goto 7, 3) := by decide +kernel
theorem dX3_rowOf_11 : decode cX3_rowOf 11 = .ok (.aload_n 0, 1) := by decide +kernel
theorem dX3_rowOf_12 : decode cX3_rowOf 12 = .ok (.getfield 25, 3) := by decide +kernel
theorem dX3_rowOf_15 : decode cX3_rowOf 15 = .ok (.areturn, 1) := by decide +kernel
set_option maxRecDepth 20000 in
theorem ggX3_carryInto_X2_empty : GoodIn wsX3_carryInto wsX2_empty := goodIn_r _ [9, 10, 62, 63] (by decide +kernel) (by decide +kernel)
set_option maxRecDepth 20000 in
theorem gX3_carryInto_X2_empty : GoodIn wsX3_carryInto (wsV RX3 65 RX2 yX2_empty wsX2_empty) := goodIn_app (goodIn_of _ (by decide +kernel)) ggX3_carryInto_X2_empty
set_option maxRecDepth 20000 in
theorem ggX3_carryInto_X1_coefficient : GoodIn wsX3_carryInto wsX1_coefficient := goodIn_r _ [15, 16, 17, 18, 19, 64, 65, 66, 67, 68, 69] (by decide +kernel) (by decide +kernel)
set_option maxRecDepth 20000 in
theorem gX3_carryInto_X1_coefficient : GoodIn wsX3_carryInto (wsV RX3 117 RX1 yX1_coefficient wsX1_coefficient) := goodIn_app (goodIn_of _ (by decide +kernel)) ggX3_carryInto_X1_coefficient
set_option maxRecDepth 20000 in
theorem ggX3_carryInto_X0_join : GoodIn wsX3_carryInto wsX0_join := goodIn_r _ [24, 25, 26, 27, 28, 29, 30, 70, 71] (by decide +kernel) (by decide +kernel)
set_option maxRecDepth 20000 in
theorem gX3_carryInto_X0_join : GoodIn wsX3_carryInto (wsV RX3 120 RX0 yX0_join wsX0_join) := goodIn_app (goodIn_of _ (by decide +kernel)) ggX3_carryInto_X0_join
set_option maxRecDepth 20000 in
theorem ggX3_carryInto_X2_append : GoodIn wsX3_carryInto wsX2_append := goodIn_r _ [34, 35, 36, 10, 37, 38, 39, 40, 41, 42, 43, 62, 63] (by decide +kernel) (by decide +kernel)
set_option maxRecDepth 20000 in
theorem gX3_carryInto_X2_append : GoodIn wsX3_carryInto (wsV RX3 68 RX2 yX2_append wsX2_append) := goodIn_app (goodIn_of _ (by decide +kernel)) ggX3_carryInto_X2_append
set_option maxRecDepth 20000 in
theorem ggX3_carryInto_X2_trim : GoodIn wsX3_carryInto wsX2_trim := goodIn_r _ [47, 10, 48, 49, 50, 8, 51, 36, 62, 63] (by decide +kernel) (by decide +kernel)
set_option maxRecDepth 20000 in
theorem gX3_carryInto_X2_trim : GoodIn wsX3_carryInto (wsV RX3 106 RX2 yX2_trim wsX2_trim) := goodIn_app (goodIn_of _ (by decide +kernel)) ggX3_carryInto_X2_trim
theorem dX3_carryInto_0 : decode cX3_carryInto 0 = .ok (.aload_n 0, 1) := by decide +kernel
theorem dX3_carryInto_1 : decode cX3_carryInto 1 = .ok (.getfield 28, 3) := by decide +kernel
theorem dX3_carryInto_4 : decode cX3_carryInto 4 = .ok (.invokevirtual 65, 3) := by decide +kernel
theorem dX3_carryInto_7 : decode cX3_carryInto 7 = .ok (.lconst 0, 1) := by decide +kernel
theorem dX3_carryInto_8 : decode cX3_carryInto 8 = .ok (.lstore_n 2, 1) := by decide +kernel
theorem dX3_carryInto_9 : decode cX3_carryInto 9 = .ok (.iconst 0, 1) := by decide +kernel
theorem dX3_carryInto_10 : decode cX3_carryInto 10 = .ok (.istore 4, 2) := by decide +kernel
theorem dX3_carryInto_12 : decode cX3_carryInto 12 = .ok (.iload 4, 2) := by decide +kernel
theorem dX3_carryInto_14 : decode cX3_carryInto 14 = .ok (.iload_n 1, 1) := by decide +kernel
theorem dX3_carryInto_15 : decode cX3_carryInto 15 = .ok (.if_icmp .ge 75, 3) := by decide +kernel
theorem dX3_carryInto_18 : decode cX3_carryInto 18 = .ok (.lload_n 2, 1) := by decide +kernel
theorem dX3_carryInto_19 : decode cX3_carryInto 19 = .ok (.aload_n 0, 1) := by decide +kernel
theorem dX3_carryInto_20 : decode cX3_carryInto 20 = .ok (.getfield 47, 3) := by decide +kernel
theorem dX3_carryInto_23 : decode cX3_carryInto 23 = .ok (.aload_n 0, 1) := by decide +kernel
theorem dX3_carryInto_24 : decode cX3_carryInto 24 = .ok (.getfield 37, 3) := by decide +kernel
theorem dX3_carryInto_27 : decode cX3_carryInto 27 = .ok (.iconst 0, 1) := by decide +kernel
theorem dX3_carryInto_28 : decode cX3_carryInto 28 = .ok (.aaload, 1) := by decide +kernel
theorem dX3_carryInto_29 : decode cX3_carryInto 29 = .ok (.iload 4, 2) := by decide +kernel
theorem dX3_carryInto_31 : decode cX3_carryInto 31 = .ok (.invokevirtual 117, 3) := by decide +kernel
theorem dX3_carryInto_34 : decode cX3_carryInto 34 = .ok (.i2l, 1) := by decide +kernel
theorem dX3_carryInto_35 : decode cX3_carryInto 35 = .ok (.aload_n 0, 1) := by decide +kernel
theorem dX3_carryInto_36 : decode cX3_carryInto 36 = .ok (.getfield 37, 3) := by decide +kernel
theorem dX3_carryInto_39 : decode cX3_carryInto 39 = .ok (.iconst 1, 1) := by decide +kernel
theorem dX3_carryInto_40 : decode cX3_carryInto 40 = .ok (.aaload, 1) := by decide +kernel
theorem dX3_carryInto_41 : decode cX3_carryInto 41 = .ok (.iload 4, 2) := by decide +kernel
theorem dX3_carryInto_43 : decode cX3_carryInto 43 = .ok (.invokevirtual 117, 3) := by decide +kernel
theorem dX3_carryInto_46 : decode cX3_carryInto 46 = .ok (.i2l, 1) := by decide +kernel
theorem dX3_carryInto_47 : decode cX3_carryInto 47 = .ok (.aload_n 0, 1) := by decide +kernel
theorem dX3_carryInto_48 : decode cX3_carryInto 48 = .ok (.getfield 37, 3) := by decide +kernel
theorem dX3_carryInto_51 : decode cX3_carryInto 51 = .ok (.iconst 2, 1) := by decide +kernel
theorem dX3_carryInto_52 : decode cX3_carryInto 52 = .ok (.aaload, 1) := by decide +kernel
theorem dX3_carryInto_53 : decode cX3_carryInto 53 = .ok (.iload 4, 2) := by decide +kernel
theorem dX3_carryInto_55 : decode cX3_carryInto 55 = .ok (.invokevirtual 117, 3) := by decide +kernel
theorem dX3_carryInto_58 : decode cX3_carryInto 58 = .ok (.i2l, 1) := by decide +kernel
theorem dX3_carryInto_59 : decode cX3_carryInto 59 = .ok (.invokevirtual 120, 3) := by decide +kernel
theorem dX3_carryInto_62 : decode cX3_carryInto 62 = .ok (.ladd, 1) := by decide +kernel
theorem dX3_carryInto_63 : decode cX3_carryInto 63 = .ok (.lstore_n 2, 1) := by decide +kernel
theorem dX3_carryInto_64 : decode cX3_carryInto 64 = .ok (.aload_n 0, 1) := by decide +kernel
theorem dX3_carryInto_65 : decode cX3_carryInto 65 = .ok (.getfield 28, 3) := by decide +kernel
theorem dX3_carryInto_68 : decode cX3_carryInto 68 = .ok (.lload_n 2, 1) := by decide +kernel
theorem dX3_carryInto_69 : decode cX3_carryInto 69 = .ok (.ldc2_w 124, 3) := by decide +kernel
theorem dX3_carryInto_72 : decode cX3_carryInto 72 = .ok (.land, 1) := by decide +kernel
theorem dX3_carryInto_73 : decode cX3_carryInto 73 = .ok (.l2i, 1) := by decide +kernel
theorem dX3_carryInto_74 : decode cX3_carryInto 74 = .ok (.iconst 1, 1) := by decide +kernel
theorem dX3_carryInto_75 : decode cX3_carryInto 75 = .ok (.invokevirtual 68, 3) := by decide +kernel
theorem dX3_carryInto_78 : decode cX3_carryInto 78 = .ok (.pop, 1) := by decide +kernel
theorem dX3_carryInto_79 : decode cX3_carryInto 79 = .ok (.lload_n 2, 1) := by decide +kernel
theorem dX3_carryInto_80 : decode cX3_carryInto 80 = .ok (.bipush 15, 2) := by decide +kernel
theorem dX3_carryInto_82 : decode cX3_carryInto 82 = .ok (.lshr, 1) := by decide +kernel
theorem dX3_carryInto_83 : decode cX3_carryInto 83 = .ok (.lstore_n 2, 1) := by decide +kernel
theorem dX3_carryInto_84 : decode cX3_carryInto 84 = .ok (.iinc 4 1, 3) := by decide +kernel
theorem dX3_carryInto_87 : decode cX3_carryInto 87 = .ok (.goto (-75), 3) := by decide +kernel
theorem dX3_carryInto_90 : decode cX3_carryInto 90 = .ok (.aload_n 0, 1) := by decide +kernel
theorem dX3_carryInto_91 : decode cX3_carryInto 91 = .ok (.getfield 28, 3) := by decide +kernel
theorem dX3_carryInto_94 : decode cX3_carryInto 94 = .ok (.invokevirtual 106, 3) := by decide +kernel
theorem dX3_carryInto_97 : decode cX3_carryInto 97 = .ok (.return_, 1) := by decide +kernel
theorem dX3_power_0 : decode cX3_power 0 = .ok (.lconst 1, 1) := by decide +kernel
theorem dX3_power_1 : decode cX3_power 1 = .ok (.lstore 6, 2) := by decide +kernel
theorem dX3_power_3 : decode cX3_power 3 = .ok (.lload_n 0, 1) := by decide +kernel
theorem dX3_power_4 : decode cX3_power 4 = .ok (.lload 4, 2) := by decide +kernel
theorem dX3_power_6 : decode cX3_power 6 = .ok (.lrem, 1) := by decide +kernel
theorem dX3_power_7 : decode cX3_power 7 = .ok (.lstore 8, 2) := by decide +kernel
theorem dX3_power_9 : decode cX3_power 9 = .ok (.iconst 0, 1) := by decide +kernel
theorem dX3_power_10 : decode cX3_power 10 = .ok (.istore 10, 2) := by decide +kernel
theorem dX3_power_12 : decode cX3_power 12 = .ok (.iload 10, 2) := by decide +kernel
theorem dX3_power_14 : decode cX3_power 14 = .ok (.bipush 31, 2) := by decide +kernel
theorem dX3_power_16 : decode cX3_power 16 = .ok (.if_icmp .ge 40, 3) := by decide +kernel
theorem dX3_power_19 : decode cX3_power 19 = .ok (.lload_n 2, 1) := by decide +kernel
theorem dX3_power_20 : decode cX3_power 20 = .ok (.iload 10, 2) := by decide +kernel
theorem dX3_power_22 : decode cX3_power 22 = .ok (.lshr, 1) := by decide +kernel
theorem dX3_power_23 : decode cX3_power 23 = .ok (.lconst 1, 1) := by decide +kernel
theorem dX3_power_24 : decode cX3_power 24 = .ok (.land, 1) := by decide +kernel
theorem dX3_power_25 : decode cX3_power 25 = .ok (.lconst 1, 1) := by decide +kernel
theorem dX3_power_26 : decode cX3_power 26 = .ok (.lcmp, 1) := by decide +kernel
theorem dX3_power_27 : decode cX3_power 27 = .ok (.ifCond .ne 13, 3) := by decide +kernel
theorem dX3_power_30 : decode cX3_power 30 = .ok (.lload 6, 2) := by decide +kernel
theorem dX3_power_32 : decode cX3_power 32 = .ok (.lload 8, 2) := by decide +kernel
theorem dX3_power_34 : decode cX3_power 34 = .ok (.lmul, 1) := by decide +kernel
theorem dX3_power_35 : decode cX3_power 35 = .ok (.lload 4, 2) := by decide +kernel
theorem dX3_power_37 : decode cX3_power 37 = .ok (.lrem, 1) := by decide +kernel
theorem dX3_power_38 : decode cX3_power 38 = .ok (.lstore 6, 2) := by decide +kernel
theorem dX3_power_40 : decode cX3_power 40 = .ok (.lload 8, 2) := by decide +kernel
theorem dX3_power_42 : decode cX3_power 42 = .ok (.lload 8, 2) := by decide +kernel
theorem dX3_power_44 : decode cX3_power 44 = .ok (.lmul, 1) := by decide +kernel
theorem dX3_power_45 : decode cX3_power 45 = .ok (.lload 4, 2) := by decide +kernel
theorem dX3_power_47 : decode cX3_power 47 = .ok (.lrem, 1) := by decide +kernel
theorem dX3_power_48 : decode cX3_power 48 = .ok (.lstore 8, 2) := by decide +kernel
theorem dX3_power_50 : decode cX3_power 50 = .ok (.iinc 10 1, 3) := by decide +kernel
theorem dX3_power_53 : decode cX3_power 53 = .ok (.goto (-41), 3) := by decide +kernel
theorem dX3_power_56 : decode cX3_power 56 = .ok (.lload 6, 2) := by decide +kernel
theorem dX3_power_58 : decode cX3_power 58 = .ok (.lreturn, 1) := by decide +kernel
set_option maxRecDepth 20000 in
theorem ggX3_inverse_X3_power : GoodIn wsX3_inverse wsX3_power := goodIn_r _ [5] (by decide +kernel) (by decide +kernel)
set_option maxRecDepth 20000 in
theorem gX3_inverse_X3_power : GoodIn wsX3_inverse (va_wsS RX3 128 yX3_power wsX3_power) := goodIn_app (goodIn_of _ (by decide +kernel)) ggX3_inverse_X3_power
theorem dX3_inverse_0 : decode cX3_inverse 0 = .ok (.lload_n 0, 1) := by decide +kernel
theorem dX3_inverse_1 : decode cX3_inverse 1 = .ok (.lload_n 2, 1) := by decide +kernel
theorem dX3_inverse_2 : decode cX3_inverse 2 = .ok (.ldc2_w 126, 3) := by decide +kernel
theorem dX3_inverse_5 : decode cX3_inverse 5 = .ok (.lsub, 1) := by decide +kernel
theorem dX3_inverse_6 : decode cX3_inverse 6 = .ok (.lload_n 2, 1) := by decide +kernel
theorem dX3_inverse_7 : decode cX3_inverse 7 = .ok (.invokestatic 128, 3) := by decide +kernel
theorem dX3_inverse_10 : decode cX3_inverse 10 = .ok (.lreturn, 1) := by decide +kernel
theorem dX4_init_0 : decode cX4_init 0 = .ok (.aload_n 0, 1) := by decide +kernel
theorem dX4_init_1 : decode cX4_init 1 = .ok (.invokespecial 1, 3) := by decide +kernel
theorem dX4_init_4 : decode cX4_init 4 = .ok (.aload_n 0, 1) := by decide +kernel
theorem dX4_init_5 : decode cX4_init 5 = .ok (.sipush 2048, 3) := by decide +kernel
theorem dX4_init_8 : decode cX4_init 8 = .ok (.newarray .int, 2) := by decide +kernel
theorem dX4_init_10 : decode cX4_init 10 = .ok (.putfield 7, 3) := by decide +kernel
theorem dX4_init_13 : decode cX4_init 13 = .ok (.aload_n 0, 1) := by decide +kernel
theorem dX4_init_14 : decode cX4_init 14 = .ok (.iconst 2, 1) := by decide +kernel
theorem dX4_init_15 : decode cX4_init 15 = .ok (.newarray .int, 2) := by decide +kernel
theorem dX4_init_17 : decode cX4_init 17 = .ok (.putfield 13, 3) := by decide +kernel
theorem dX4_init_20 : decode cX4_init 20 = .ok (.aload_n 0, 1) := by decide +kernel
theorem dX4_init_21 : decode cX4_init 21 = .ok (.sipush 2048, 3) := by decide +kernel
theorem dX4_init_24 : decode cX4_init 24 = .ok (.newarray .int, 2) := by decide +kernel
theorem dX4_init_26 : decode cX4_init 26 = .ok (.putfield 16, 3) := by decide +kernel
theorem dX4_init_29 : decode cX4_init 29 = .ok (.aload_n 0, 1) := by decide +kernel
theorem dX4_init_30 : decode cX4_init 30 = .ok (.iload_n 1, 1) := by decide +kernel
theorem dX4_init_31 : decode cX4_init 31 = .ok (.iconst 1, 1) := by decide +kernel
theorem dX4_init_32 : decode cX4_init 32 = .ok (.if_icmp .lt 13, 3) := by decide +kernel
theorem dX4_init_35 : decode cX4_init 35 = .ok (.iload_n 1, 1) := by decide +kernel
theorem dX4_init_36 : decode cX4_init 36 = .ok (.bipush 10, 2) := by decide +kernel
theorem dX4_init_38 : decode cX4_init 38 = .ok (.if_icmp .gt 7, 3) := by decide +kernel
theorem dX4_init_41 : decode cX4_init 41 = .ok (.iload_n 1, 1) := by decide +kernel
theorem dX4_init_42 : decode cX4_init 42 = .ok (.goto 4, 3) := by decide +kernel
theorem dX4_init_45 : decode cX4_init 45 = .ok (.iconst 1, 1) := by decide +kernel
theorem dX4_init_46 : decode cX4_init 46 = .ok (.putfield 19, 3) := by decide +kernel
theorem dX4_init_49 : decode cX4_init 49 = .ok (.aload_n 0, 1) := by decide +kernel
theorem dX4_init_50 : decode cX4_init 50 = .ok (.iconst 1, 1) := by decide +kernel
theorem dX4_init_51 : decode cX4_init 51 = .ok (.aload_n 0, 1) := by decide +kernel
theorem dX4_init_52 : decode cX4_init 52 = .ok (.getfield 19, 3) := by decide +kernel
theorem dX4_init_55 : decode cX4_init 55 = .ok (.ishl, 1) := by decide +kernel
theorem dX4_init_56 : decode cX4_init 56 = .ok (.putfield 23, 3) := by decide +kernel
theorem dX4_init_59 : decode cX4_init 59 = .ok (.return_, 1) := by decide +kernel
theorem dX4_init__0 : decode cX4_init_ 0 = .ok (.aload_n 0, 1) := by decide +kernel
theorem dX4_init__1 : decode cX4_init_ 1 = .ok (.getfield 26, 3) := by decide +kernel
theorem dX4_init__4 : decode cX4_init_ 4 = .ok (.istore_n 1, 1) := by decide +kernel
theorem dX4_init__5 : decode cX4_init_ 5 = .ok (.aload_n 0, 1) := by decide +kernel
theorem dX4_init__6 : decode cX4_init_ 6 = .ok (.iconst 1, 1) := by decide +kernel
theorem dX4_init__7 : decode cX4_init_ 7 = .ok (.putfield 26, 3) := by decide +kernel
theorem dX4_init__10 : decode cX4_init_ 10 = .ok (.iload_n 1, 1) := by decide +kernel
theorem dX4_init__11 : decode cX4_init_ 11 = .ok (.ifCond .ne 7, 3) := by decide +kernel
theorem dX4_init__14 : decode cX4_init_ 14 = .ok (.iconst 1, 1) := by decide +kernel
theorem dX4_init__15 : decode cX4_init_ 15 = .ok (.goto 4, 3) := by decide +kernel
theorem dX4_init__18 : decode cX4_init_ 18 = .ok (.iconst 0, 1) := by decide +kernel
theorem dX4_init__19 : decode cX4_init_ 19 = .ok (.ireturn, 1) := by decide +kernel
theorem dX4_clear_0 : decode cX4_clear 0 = .ok (.aload_n 0, 1) := by decide +kernel
theorem dX4_clear_1 : decode cX4_clear 1 = .ok (.getfield 13, 3) := by decide +kernel
theorem dX4_clear_4 : decode cX4_clear 4 = .ok (.iconst 0, 1) := by decide +kernel
theorem dX4_clear_5 : decode cX4_clear 5 = .ok (.iconst 0, 1) := by decide +kernel
theorem dX4_clear_6 : decode cX4_clear 6 = .ok (.iastore, 1) := by decide +kernel
theorem dX4_clear_7 : decode cX4_clear 7 = .ok (.aload_n 0, 1) := by decide +kernel
theorem dX4_clear_8 : decode cX4_clear 8 = .ok (.getfield 13, 3) := by decide +kernel
theorem dX4_clear_11 : decode cX4_clear 11 = .ok (.iconst 1, 1) := by decide +kernel
theorem dX4_clear_12 : decode cX4_clear 12 = .ok (.iconst 0, 1) := by decide +kernel
theorem dX4_clear_13 : decode cX4_clear 13 = .ok (.iastore, 1) := by decide +kernel
theorem dX4_clear_14 : decode cX4_clear 14 = .ok (.aload_n 0, 1) := by decide +kernel
theorem dX4_clear_15 : decode cX4_clear 15 = .ok (.iconst 0, 1) := by decide +kernel
theorem dX4_clear_16 : decode cX4_clear 16 = .ok (.putfield 30, 3) := by decide +kernel
theorem dX4_clear_19 : decode cX4_clear 19 = .ok (.aload_n 0, 1) := by decide +kernel
theorem dX4_clear_20 : decode cX4_clear 20 = .ok (.iconst 0, 1) := by decide +kernel
theorem dX4_clear_21 : decode cX4_clear 21 = .ok (.putfield 33, 3) := by decide +kernel
theorem dX4_clear_24 : decode cX4_clear 24 = .ok (.return_, 1) := by decide +kernel
theorem dX4_isDigit_0 : decode cX4_isDigit 0 = .ok (.iload_n 0, 1) := by decide +kernel
theorem dX4_isDigit_1 : decode cX4_isDigit 1 = .ok (.ifCond .lt 13, 3) := by decide +kernel
theorem dX4_isDigit_4 : decode cX4_isDigit 4 = .ok (.iload_n 0, 1) := by decide +kernel
theorem dX4_isDigit_5 : decode cX4_isDigit 5 = .ok (.ldc 36, 2) := by decide +kernel
theorem dX4_isDigit_7 : decode cX4_isDigit 7 = .ok (.if_icmp .ge 7, 3) := by decide +kernel
theorem dX4_isDigit_10 : decode cX4_isDigit 10 = .ok (.iconst 1, 1) := by decide +kernel
theorem dX4_isDigit_11 : decode cX4_isDigit 11 = .ok (.goto 4, 3) := by decide +kernel
theorem dX4_isDigit_14 : decode cX4_isDigit 14 = .ok (.iconst 0, 1) := by decide +kernel
theorem dX4_isDigit_15 : decode cX4_isDigit 15 = .ok (.ireturn, 1) := by decide +kernel
theorem dX4_isRow_0 : decode cX4_isRow 0 = .ok (.iload_n 0, 1) := by decide +kernel
theorem dX4_isRow_1 : decode cX4_isRow 1 = .ok (.ifCond .eq 8, 3) := by decide +kernel
theorem dX4_isRow_4 : decode cX4_isRow 4 = .ok (.iload_n 0, 1) := by decide +kernel
theorem dX4_isRow_5 : decode cX4_isRow 5 = .ok (.iconst 1, 1) := by decide +kernel
theorem dX4_isRow_6 : decode cX4_isRow 6 = .ok (.if_icmp .ne 7, 3) := by decide +kernel
theorem dX4_isRow_9 : decode cX4_isRow 9 = .ok (.iconst 1, 1) := by decide +kernel
theorem dX4_isRow_10 : decode cX4_isRow 10 = .ok (.goto 4, 3) := by decide +kernel
theorem dX4_isRow_13 : decode cX4_isRow 13 = .ok (.iconst 0, 1) := by decide +kernel
theorem dX4_isRow_14 : decode cX4_isRow 14 = .ok (.ireturn, 1) := by decide +kernel
set_option maxRecDepth 20000 in
theorem ggX4_repeat_X4_isRow : GoodIn wsX4_repeat wsX4_isRow := goodIn_r _ [7] (by decide +kernel) (by decide +kernel)
set_option maxRecDepth 20000 in
theorem gX4_repeat_X4_isRow : GoodIn wsX4_repeat (va_wsS RX4 37 yX4_isRow wsX4_isRow) := goodIn_app (goodIn_of _ (by decide +kernel)) ggX4_repeat_X4_isRow
set_option maxRecDepth 20000 in
theorem ggX4_repeat_X4_isDigit : GoodIn wsX4_repeat wsX4_isDigit := goodIn_r _ [10, 11] (by decide +kernel) (by decide +kernel)
set_option maxRecDepth 20000 in
theorem gX4_repeat_X4_isDigit : GoodIn wsX4_repeat (va_wsS RX4 41 yX4_isDigit wsX4_isDigit) := goodIn_app (goodIn_of _ (by decide +kernel)) ggX4_repeat_X4_isDigit
theorem dX4_repeat_0 : decode cX4_repeat 0 = .ok (.iload_n 1, 1) := by decide +kernel
theorem dX4_repeat_1 : decode cX4_repeat 1 = .ok (.invokestatic 37, 3) := by decide +kernel
theorem dX4_repeat_4 : decode cX4_repeat 4 = .ok (.ifCond .eq 29, 3) := by decide +kernel
theorem dX4_repeat_7 : decode cX4_repeat 7 = .ok (.iload_n 2, 1) := by decide +kernel
theorem dX4_repeat_8 : decode cX4_repeat 8 = .ok (.invokestatic 41, 3) := by decide +kernel
theorem dX4_repeat_11 : decode cX4_repeat 11 = .ok (.ifCond .eq 22, 3) := by decide +kernel
theorem dX4_repeat_14 : decode cX4_repeat 14 = .ok (.iload_n 3, 1) := by decide +kernel
theorem dX4_repeat_15 : decode cX4_repeat 15 = .ok (.ifCond .lt 18, 3) := by decide +kernel
theorem dX4_repeat_18 : decode cX4_repeat 18 = .ok (.iload_n 3, 1) := by decide +kernel
theorem dX4_repeat_19 : decode cX4_repeat 19 = .ok (.aload_n 0, 1) := by decide +kernel
theorem dX4_repeat_20 : decode cX4_repeat 20 = .ok (.getfield 23, 3) := by decide +kernel
theorem dX4_repeat_23 : decode cX4_repeat 23 = .ok (.aload_n 0, 1) := by decide +kernel
theorem dX4_repeat_24 : decode cX4_repeat 24 = .ok (.getfield 13, 3) := by decide +kernel
theorem dX4_repeat_27 : decode cX4_repeat 27 = .ok (.iload_n 1, 1) := by decide +kernel
theorem dX4_repeat_28 : decode cX4_repeat 28 = .ok (.iaload, 1) := by decide +kernel
theorem dX4_repeat_29 : decode cX4_repeat 29 = .ok (.isub, 1) := by decide +kernel
theorem dX4_repeat_30 : decode cX4_repeat 30 = .ok (.if_icmp .le 5, 3) := by decide +kernel
theorem dX4_repeat_33 : decode cX4_repeat 33 = .ok (.iconst 0, 1) := by decide +kernel
theorem dX4_repeat_34 : decode cX4_repeat 34 = .ok (.ireturn, 1) := by decide +kernel
theorem dX4_repeat_35 : decode cX4_repeat 35 = .ok (.iconst 0, 1) := by decide +kernel
theorem dX4_repeat_36 : decode cX4_repeat 36 = .ok (.istore 4, 2) := by decide +kernel
theorem dX4_repeat_38 : decode cX4_repeat 38 = .ok (.iload 4, 2) := by decide +kernel
theorem dX4_repeat_40 : decode cX4_repeat 40 = .ok (.iload_n 3, 1) := by decide +kernel
theorem dX4_repeat_41 : decode cX4_repeat 41 = .ok (.if_icmp .ge 30, 3) := by decide +kernel
theorem dX4_repeat_44 : decode cX4_repeat 44 = .ok (.aload_n 0, 1) := by decide +kernel
theorem dX4_repeat_45 : decode cX4_repeat 45 = .ok (.getfield 7, 3) := by decide +kernel
theorem dX4_repeat_48 : decode cX4_repeat 48 = .ok (.sipush 1024, 3) := by decide +kernel
theorem dX4_repeat_51 : decode cX4_repeat 51 = .ok (.iload_n 1, 1) := by decide +kernel
theorem dX4_repeat_52 : decode cX4_repeat 52 = .ok (.imul, 1) := by decide +kernel
theorem dX4_repeat_53 : decode cX4_repeat 53 = .ok (.aload_n 0, 1) := by decide +kernel
theorem dX4_repeat_54 : decode cX4_repeat 54 = .ok (.getfield 13, 3) := by decide +kernel
theorem dX4_repeat_57 : decode cX4_repeat 57 = .ok (.iload_n 1, 1) := by decide +kernel
theorem dX4_repeat_58 : decode cX4_repeat 58 = .ok (.iaload, 1) := by decide +kernel
theorem dX4_repeat_59 : decode cX4_repeat 59 = .ok (.iadd, 1) := by decide +kernel
theorem dX4_repeat_60 : decode cX4_repeat 60 = .ok (.iload 4, 2) := by decide +kernel
theorem dX4_repeat_62 : decode cX4_repeat 62 = .ok (.iadd, 1) := by decide +kernel
theorem dX4_repeat_63 : decode cX4_repeat 63 = .ok (.iload_n 2, 1) := by decide +kernel
theorem dX4_repeat_64 : decode cX4_repeat 64 = .ok (.iastore, 1) := by decide +kernel
theorem dX4_repeat_65 : decode cX4_repeat 65 = .ok (.iinc 4 1, 3) := by decide +kernel
theorem dX4_repeat_68 : decode cX4_repeat 68 = .ok (.goto (-30), 3) := by decide +kernel
theorem dX4_repeat_71 : decode cX4_repeat 71 = .ok (.aload_n 0, 1) := by decide +kernel
theorem dX4_repeat_72 : decode cX4_repeat 72 = .ok (.getfield 13, 3) := by decide +kernel
theorem dX4_repeat_75 : decode cX4_repeat 75 = .ok (.iload_n 1, 1) := by decide +kernel
theorem dX4_repeat_76 : decode cX4_repeat 76 = .ok (.dup2, 1) := by decide +kernel
theorem dX4_repeat_77 : decode cX4_repeat 77 = .ok (.iaload, 1) := by decide +kernel
theorem dX4_repeat_78 : decode cX4_repeat 78 = .ok (.iload_n 3, 1) := by decide +kernel
theorem dX4_repeat_79 : decode cX4_repeat 79 = .ok (.iadd, 1) := by decide +kernel
theorem dX4_repeat_80 : decode cX4_repeat 80 = .ok (.iastore, 1) := by decide +kernel
theorem dX4_repeat_81 : decode cX4_repeat 81 = .ok (.iconst 1, 1) := by decide +kernel
theorem dX4_repeat_82 : decode cX4_repeat 82 = .ok (.ireturn, 1) := by decide +kernel
set_option maxRecDepth 20000 in
theorem ggX4_feedA_X4_repeat : GoodIn wsX4_feedA wsX4_repeat := goodIn_r _ [5, 6, 7, 8, 9, 10, 4, 11, 12, 13, 14, 15, 16, 17, 18, 19, 20, 21, 22, 23] (by decide +kernel) (by decide +kernel)
set_option maxRecDepth 20000 in
theorem gX4_feedA_X4_repeat : GoodIn wsX4_feedA (wsV RX4 44 RX4 yX4_repeat wsX4_repeat) := goodIn_app (goodIn_of _ (by decide +kernel)) ggX4_feedA_X4_repeat
theorem dX4_feedA_0 : decode cX4_feedA 0 = .ok (.aload_n 0, 1) := by decide +kernel
theorem dX4_feedA_1 : decode cX4_feedA 1 = .ok (.iconst 0, 1) := by decide +kernel
theorem dX4_feedA_2 : decode cX4_feedA 2 = .ok (.iload_n 1, 1) := by decide +kernel
theorem dX4_feedA_3 : decode cX4_feedA 3 = .ok (.iconst 1, 1) := by decide +kernel
theorem dX4_feedA_4 : decode cX4_feedA 4 = .ok (.invokevirtual 44, 3) := by decide +kernel
theorem dX4_feedA_7 : decode cX4_feedA 7 = .ok (.ireturn, 1) := by decide +kernel
set_option maxRecDepth 20000 in
theorem ggX4_feedB_X4_repeat : GoodIn wsX4_feedB wsX4_repeat := goodIn_r _ [5, 6, 7, 8, 9, 10, 4, 11, 12, 13, 14, 15, 16, 17, 18, 19, 20, 21, 22, 23] (by decide +kernel) (by decide +kernel)
set_option maxRecDepth 20000 in
theorem gX4_feedB_X4_repeat : GoodIn wsX4_feedB (wsV RX4 44 RX4 yX4_repeat wsX4_repeat) := goodIn_app (goodIn_of _ (by decide +kernel)) ggX4_feedB_X4_repeat
theorem dX4_feedB_0 : decode cX4_feedB 0 = .ok (.aload_n 0, 1) := by decide +kernel
theorem dX4_feedB_1 : decode cX4_feedB 1 = .ok (.iconst 1, 1) := by decide +kernel
theorem dX4_feedB_2 : decode cX4_feedB 2 = .ok (.iload_n 1, 1) := by decide +kernel
theorem dX4_feedB_3 : decode cX4_feedB 3 = .ok (.iconst 1, 1) := by decide +kernel
theorem dX4_feedB_4 : decode cX4_feedB 4 = .ok (.invokevirtual 44, 3) := by decide +kernel
theorem dX4_feedB_7 : decode cX4_feedB 7 = .ok (.ireturn, 1) := by decide +kernel
theorem dX4_trim_0 : decode cX4_trim 0 = .ok (.aload_n 0, 1) := by decide +kernel
theorem dX4_trim_1 : decode cX4_trim 1 = .ok (.getfield 30, 3) := by decide +kernel
theorem dX4_trim_4 : decode cX4_trim 4 = .ok (.ifCond .le 30, 3) := by decide +kernel
theorem dX4_trim_7 : decode cX4_trim 7 = .ok (.aload_n 0, 1) := by decide +kernel
theorem dX4_trim_8 : decode cX4_trim 8 = .ok (.getfield 16, 3) := by decide +kernel
theorem dX4_trim_11 : decode cX4_trim 11 = .ok (.aload_n 0, 1) := by decide +kernel
theorem dX4_trim_12 : decode cX4_trim 12 = .ok (.getfield 30, 3) := by decide +kernel
theorem dX4_trim_15 : decode cX4_trim 15 = .ok (.iconst 1, 1) := by decide +kernel
theorem dX4_trim_16 : decode cX4_trim 16 = .ok (.isub, 1) := by decide +kernel
theorem dX4_trim_17 : decode cX4_trim 17 = .ok (.iaload, 1) := by decide +kernel
theorem dX4_trim_18 : decode cX4_trim 18 = .ok (.ifCond .ne 16, 3) := by decide +kernel
theorem dX4_trim_21 : decode cX4_trim 21 = .ok (.aload_n 0, 1) := by decide +kernel
theorem dX4_trim_22 : decode cX4_trim 22 = .ok (.dup, 1) := by decide +kernel
theorem dX4_trim_23 : decode cX4_trim 23 = .ok (.getfield 30, 3) := by decide +kernel
theorem dX4_trim_26 : decode cX4_trim 26 = .ok (.iconst 1, 1) := by decide +kernel
theorem dX4_trim_27 : decode cX4_trim 27 = .ok (.isub, 1) := by decide +kernel
theorem dX4_trim_28 : decode cX4_trim 28 = .ok (.putfield 30, 3) := by decide +kernel
theorem dX4_trim_31 : decode cX4_trim 31 = .ok (.goto (-31), 3) := by decide +kernel
theorem dX4_trim_34 : decode cX4_trim 34 = .ok (.return_, 1) := by decide +kernel
set_option maxRecDepth 20000 in
theorem ggX4_by_X4_trim : GoodIn wsX4_by wsX4_trim := goodIn_r _ [13, 2, 3, 14, 15, 16, 17, 18, 19, 20, 21] (by decide +kernel) (by decide +kernel)
set_option maxRecDepth 20000 in
theorem gX4_by_X4_trim : GoodIn wsX4_by (wsV RX4 50 RX4 yX4_trim wsX4_trim) := goodIn_app (goodIn_of _ (by decide +kernel)) ggX4_by_X4_trim
theorem dX4_by_0 : decode cX4_by 0 = .ok (.aload_n 0, 1) := by decide +kernel
theorem dX4_by_1 : decode cX4_by 1 = .ok (.aload_n 0, 1) := by decide +kernel
theorem dX4_by_2 : decode cX4_by 2 = .ok (.getfield 13, 3) := by decide +kernel
theorem dX4_by_5 : decode cX4_by 5 = .ok (.iconst 0, 1) := by decide +kernel
theorem dX4_by_6 : decode cX4_by 6 = .ok (.iaload, 1) := by decide +kernel
theorem dX4_by_7 : decode cX4_by 7 = .ok (.aload_n 0, 1) := by decide +kernel
theorem dX4_by_8 : decode cX4_by 8 = .ok (.getfield 13, 3) := by decide +kernel
theorem dX4_by_11 : decode cX4_by 11 = .ok (.iload_n 1, 1) := by decide +kernel
theorem dX4_by_12 : decode cX4_by 12 = .ok (.iaload, 1) := by decide +kernel
theorem dX4_by_13 : decode cX4_by 13 = .ok (.iadd, 1) := by decide +kernel
theorem dX4_by_14 : decode cX4_by 14 = .ok (.putfield 30, 3) := by decide +kernel
theorem dX4_by_17 : decode cX4_by 17 = .ok (.iconst 0, 1) := by decide +kernel
theorem dX4_by_18 : decode cX4_by 18 = .ok (.istore_n 3, 1) := by decide +kernel
theorem dX4_by_19 : decode cX4_by 19 = .ok (.iload_n 3, 1) := by decide +kernel
theorem dX4_by_20 : decode cX4_by 20 = .ok (.aload_n 0, 1) := by decide +kernel
theorem dX4_by_21 : decode cX4_by 21 = .ok (.getfield 30, 3) := by decide +kernel
theorem dX4_by_24 : decode cX4_by 24 = .ok (.if_icmp .ge 16, 3) := by decide +kernel
theorem dX4_by_27 : decode cX4_by 27 = .ok (.aload_n 0, 1) := by decide +kernel
theorem dX4_by_28 : decode cX4_by 28 = .ok (.getfield 16, 3) := by decide +kernel
theorem dX4_by_31 : decode cX4_by 31 = .ok (.iload_n 3, 1) := by decide +kernel
theorem dX4_by_32 : decode cX4_by 32 = .ok (.iconst 0, 1) := by decide +kernel
theorem dX4_by_33 : decode cX4_by 33 = .ok (.iastore, 1) := by decide +kernel
theorem dX4_by_34 : decode cX4_by 34 = .ok (.iinc 3 1, 3) := by decide +kernel
theorem dX4_by_37 : decode cX4_by 37 = .ok (.goto (-18), 3) := by decide +kernel
theorem dX4_by_40 : decode cX4_by 40 = .ok (.iconst 0, 1) := by decide +kernel
theorem dX4_by_41 : decode cX4_by 41 = .ok (.istore_n 3, 1) := by decide +kernel
theorem dX4_by_42 : decode cX4_by 42 = .ok (.iload_n 3, 1) := by decide +kernel
theorem dX4_by_43 : decode cX4_by 43 = .ok (.aload_n 0, 1) := by decide +kernel
theorem dX4_by_44 : decode cX4_by 44 = .ok (.getfield 13, 3) := by decide +kernel
theorem dX4_by_47 : decode cX4_by 47 = .ok (.iconst 0, 1) := by decide +kernel
theorem dX4_by_48 : decode cX4_by 48 = .ok (.iaload, 1) := by decide +kernel
theorem dX4_by_49 : decode cX4_by 49 = .ok (.if_icmp .ge 119, 3) := by decide +kernel
theorem dX4_by_52 : decode cX4_by 52 = .ok (.lconst 0, 1) := by decide +kernel
theorem dX4_by_53 : decode cX4_by 53 = .ok (.lstore 4, 2) := by decide +kernel
theorem dX4_by_55 : decode cX4_by 55 = .ok (.iconst 0, 1) := by decide +kernel
theorem dX4_by_56 : decode cX4_by 56 = .ok (.istore 6, 2) := by decide +kernel
theorem dX4_by_58 : decode cX4_by 58 = .ok (.iload 6, 2) := by decide +kernel
theorem dX4_by_60 : decode cX4_by 60 = .ok (.aload_n 0, 1) := by decide +kernel
theorem dX4_by_61 : decode cX4_by 61 = .ok (.getfield 13, 3) := by decide +kernel
theorem dX4_by_64 : decode cX4_by 64 = .ok (.iload_n 1, 1) := by decide +kernel
theorem dX4_by_65 : decode cX4_by 65 = .ok (.iaload, 1) := by decide +kernel
theorem dX4_by_66 : decode cX4_by 66 = .ok (.if_icmp .ge 71, 3) := by decide +kernel
theorem dX4_by_69 : decode cX4_by 69 = .ok (.aload_n 0, 1) := by decide +kernel
theorem dX4_by_70 : decode cX4_by 70 = .ok (.getfield 7, 3) := by decide +kernel
theorem dX4_by_73 : decode cX4_by 73 = .ok (.iload_n 3, 1) := by decide +kernel
theorem dX4_by_74 : decode cX4_by 74 = .ok (.iaload, 1) := by decide +kernel
theorem dX4_by_75 : decode cX4_by 75 = .ok (.i2l, 1) := by decide +kernel
theorem dX4_by_76 : decode cX4_by 76 = .ok (.aload_n 0, 1) := by decide +kernel
theorem dX4_by_77 : decode cX4_by 77 = .ok (.getfield 7, 3) := by decide +kernel
theorem dX4_by_80 : decode cX4_by 80 = .ok (.sipush 1024, 3) := by decide +kernel
theorem dX4_by_83 : decode cX4_by 83 = .ok (.iload_n 1, 1) := by decide +kernel
theorem dX4_by_84 : decode cX4_by 84 = .ok (.imul, 1) := by decide +kernel
theorem dX4_by_85 : decode cX4_by 85 = .ok (.iload 6, 2) := by decide +kernel
theorem dX4_by_87 : decode cX4_by 87 = .ok (.iadd, 1) := by decide +kernel
theorem dX4_by_88 : decode cX4_by 88 = .ok (.iaload, 1) := by decide +kernel
theorem dX4_by_89 : decode cX4_by 89 = .ok (.i2l, 1) := by decide +kernel
theorem dX4_by_90 : decode cX4_by 90 = .ok (.lmul, 1) := by decide +kernel
theorem dX4_by_91 : decode cX4_by 91 = .ok (.aload_n 0, 1) := by decide +kernel
theorem dX4_by_92 : decode cX4_by 92 = .ok (.getfield 16, 3) := by decide +kernel
theorem dX4_by_95 : decode cX4_by 95 = .ok (.iload_n 3, 1) := by decide +kernel
theorem dX4_by_96 : decode cX4_by 96 = .ok (.iload 6, 2) := by decide +kernel
theorem dX4_by_98 : decode cX4_by 98 = .ok (.iadd, 1) := by decide +kernel
theorem dX4_by_99 : decode cX4_by 99 = .ok (.iaload, 1) := by decide +kernel
theorem dX4_by_100 : decode cX4_by 100 = .ok (.i2l, 1) := by decide +kernel
theorem dX4_by_101 : decode cX4_by 101 = .ok (.ladd, 1) := by decide +kernel
theorem dX4_by_102 : decode cX4_by 102 = .ok (.lload 4, 2) := by decide +kernel
theorem dX4_by_104 : decode cX4_by 104 = .ok (.ladd, 1) := by decide +kernel
theorem dX4_by_105 : decode cX4_by 105 = .ok (.lstore 7, 2) := by decide +kernel
theorem dX4_by_107 : decode cX4_by 107 = .ok (.aload_n 0, 1) := by decide +kernel
theorem dX4_by_108 : decode cX4_by 108 = .ok (.getfield 16, 3) := by decide +kernel
theorem dX4_by_111 : decode cX4_by 111 = .ok (.iload_n 3, 1) := by decide +kernel
theorem dX4_by_112 : decode cX4_by 112 = .ok (.iload 6, 2) := by decide +kernel
theorem dX4_by_114 : decode cX4_by 114 = .ok (.iadd, 1) := by decide +kernel
theorem dX4_by_115 : decode cX4_by 115 = .ok (.lload 7, 2) := by decide +kernel
theorem dX4_by_117 : decode cX4_by 117 = .ok (.ldc2_w 48, 3) := by decide +kernel
theorem dX4_by_120 : decode cX4_by 120 = .ok (.lrem, 1) := by decide +kernel
theorem dX4_by_121 : decode cX4_by 121 = .ok (.l2i, 1) := by decide +kernel
theorem dX4_by_122 : decode cX4_by 122 = .ok (.iastore, 1) := by decide +kernel
theorem dX4_by_123 : decode cX4_by 123 = .ok (.lload 7, 2) := by decide +kernel
theorem dX4_by_125 : decode cX4_by 125 = .ok (.ldc2_w 48, 3) := by decide +kernel
theorem dX4_by_128 : decode cX4_by 128 = .ok (.ldiv, 1) := by decide +kernel
theorem dX4_by_129 : decode cX4_by 129 = .ok (.lstore 4, 2) := by decide +kernel
theorem dX4_by_131 : decode cX4_by 131 = .ok (.iinc 6 1, 3) := by decide +kernel
theorem dX4_by_134 : decode cX4_by 134 = .ok (.goto (-76), 3) := by decide +kernel
theorem dX4_by_137 : decode cX4_by 137 = .ok (.aload_n 0, 1) := by decide +kernel
theorem dX4_by_138 : decode cX4_by 138 = .ok (.getfield 13, 3) := by decide +kernel
theorem dX4_by_141 : decode cX4_by 141 = .ok (.iload_n 1, 1) := by decide +kernel
theorem dX4_by_142 : decode cX4_by 142 = .ok (.iaload, 1) := by decide +kernel
theorem dX4_by_143 : decode cX4_by 143 = .ok (.ifCond .le 19, 3) := by decide +kernel
theorem dX4_by_146 : decode cX4_by 146 = .ok (.aload_n 0, 1) := by decide +kernel
theorem dX4_by_147 : decode cX4_by 147 = .ok (.getfield 16, 3) := by decide +kernel
theorem dX4_by_150 : decode cX4_by 150 = .ok (.iload_n 3, 1) := by decide +kernel
theorem dX4_by_151 : decode cX4_by 151 = .ok (.aload_n 0, 1) := by decide +kernel
theorem dX4_by_152 : decode cX4_by 152 = .ok (.getfield 13, 3) := by decide +kernel
theorem dX4_by_155 : decode cX4_by 155 = .ok (.iload_n 1, 1) := by decide +kernel
theorem dX4_by_156 : decode cX4_by 156 = .ok (.iaload, 1) := by decide +kernel
theorem dX4_by_157 : decode cX4_by 157 = .ok (.iadd, 1) := by decide +kernel
theorem dX4_by_158 : decode cX4_by 158 = .ok (.lload 4, 2) := by decide +kernel
theorem dX4_by_160 : decode cX4_by 160 = .ok (.l2i, 1) := by decide +kernel
theorem dX4_by_161 : decode cX4_by 161 = .ok (.iastore, 1) := by decide +kernel
theorem dX4_by_162 : decode cX4_by 162 = .ok (.iinc 3 1, 3) := by decide +kernel
theorem dX4_by_165 : decode cX4_by 165 = .ok (.goto (-123), 3) := by decide +kernel
theorem dX4_by_168 : decode cX4_by 168 = .ok (.aload_n 0, 1) := by decide +kernel
theorem dX4_by_169 : decode cX4_by 169 = .ok (.invokevirtual 50, 3) := by decide +kernel
theorem dX4_by_172 : decode cX4_by 172 = .ok (.aload_n 0, 1) := by decide +kernel
theorem dX4_by_173 : decode cX4_by 173 = .ok (.iload_n 2, 1) := by decide +kernel
theorem dX4_by_174 : decode cX4_by 174 = .ok (.aload_n 0, 1) := by decide +kernel
theorem dX4_by_175 : decode cX4_by 175 = .ok (.getfield 23, 3) := by decide +kernel
theorem dX4_by_178 : decode cX4_by 178 = .ok (.iconst 2, 1) := by decide +kernel
theorem dX4_by_179 : decode cX4_by 179 = .ok (.idiv, 1) := by decide +kernel
theorem dX4_by_180 : decode cX4_by 180 = .ok (.imul, 1) := by decide +kernel
theorem dX4_by_181 : decode cX4_by 181 = .ok (.aload_n 0, 1) := by decide +kernel
theorem dX4_by_182 : decode cX4_by 182 = .ok (.getfield 19, 3) := by decide +kernel
theorem dX4_by_185 : decode cX4_by 185 = .ok (.imul, 1) := by decide +kernel
theorem dX4_by_186 : decode cX4_by 186 = .ok (.putfield 33, 3) := by decide +kernel
theorem dX4_by_189 : decode cX4_by 189 = .ok (.return_, 1) := by decide +kernel
set_option maxRecDepth 20000 in
theorem ggX4_multiply_X4_by : GoodIn wsX4_multiply wsX4_by := goodIn_r _ [8, 2, 9, 10, 11, 12, 3, 13, 14, 15, 16, 17, 7, 18, 19, 20, 21, 22, 23, 24, 25, 26] (by decide +kernel) (by decide +kernel)
set_option maxRecDepth 20000 in
theorem gX4_multiply_X4_by : GoodIn wsX4_multiply (wsV RX4 53 RX4 yX4_by wsX4_by) := goodIn_app (goodIn_of _ (by decide +kernel)) ggX4_multiply_X4_by
theorem dX4_multiply_0 : decode cX4_multiply 0 = .ok (.aload_n 0, 1) := by decide +kernel
theorem dX4_multiply_1 : decode cX4_multiply 1 = .ok (.getfield 26, 3) := by decide +kernel
theorem dX4_multiply_4 : decode cX4_multiply 4 = .ok (.ifCond .eq 23, 3) := by decide +kernel
theorem dX4_multiply_7 : decode cX4_multiply 7 = .ok (.aload_n 0, 1) := by decide +kernel
theorem dX4_multiply_8 : decode cX4_multiply 8 = .ok (.getfield 13, 3) := by decide +kernel
theorem dX4_multiply_11 : decode cX4_multiply 11 = .ok (.iconst 0, 1) := by decide +kernel
theorem dX4_multiply_12 : decode cX4_multiply 12 = .ok (.iaload, 1) := by decide +kernel
theorem dX4_multiply_13 : decode cX4_multiply 13 = .ok (.aload_n 0, 1) := by decide +kernel
theorem dX4_multiply_14 : decode cX4_multiply 14 = .ok (.getfield 13, 3) := by decide +kernel
theorem dX4_multiply_17 : decode cX4_multiply 17 = .ok (.iconst 1, 1) := by decide +kernel
theorem dX4_multiply_18 : decode cX4_multiply 18 = .ok (.iaload, 1) := by decide +kernel
theorem dX4_multiply_19 : decode cX4_multiply 19 = .ok (.iadd, 1) := by decide +kernel
theorem dX4_multiply_20 : decode cX4_multiply 20 = .ok (.aload_n 0, 1) := by decide +kernel
theorem dX4_multiply_21 : decode cX4_multiply 21 = .ok (.getfield 23, 3) := by decide +kernel
theorem dX4_multiply_24 : decode cX4_multiply 24 = .ok (.if_icmp .le 5, 3) := by decide +kernel
theorem dX4_multiply_27 : decode cX4_multiply 27 = .ok (.iconst 0, 1) := by decide +kernel
theorem dX4_multiply_28 : decode cX4_multiply 28 = .ok (.ireturn, 1) := by decide +kernel
theorem dX4_multiply_29 : decode cX4_multiply 29 = .ok (.aload_n 0, 1) := by decide +kernel
theorem dX4_multiply_30 : decode cX4_multiply 30 = .ok (.iconst 1, 1) := by decide +kernel
theorem dX4_multiply_31 : decode cX4_multiply 31 = .ok (.bipush 9, 2) := by decide +kernel
theorem dX4_multiply_33 : decode cX4_multiply 33 = .ok (.invokevirtual 53, 3) := by decide +kernel
theorem dX4_multiply_36 : decode cX4_multiply 36 = .ok (.iconst 1, 1) := by decide +kernel
theorem dX4_multiply_37 : decode cX4_multiply 37 = .ok (.ireturn, 1) := by decide +kernel
set_option maxRecDepth 20000 in
theorem ggX4_square_X4_by : GoodIn wsX4_square wsX4_by := goodIn_r _ [8, 2, 9, 10, 11, 12, 3, 13, 14, 15, 16, 17, 7, 18, 19, 20, 21, 22, 23, 24, 25, 26] (by decide +kernel) (by decide +kernel)
set_option maxRecDepth 20000 in
theorem gX4_square_X4_by : GoodIn wsX4_square (wsV RX4 53 RX4 yX4_by wsX4_by) := goodIn_app (goodIn_of _ (by decide +kernel)) ggX4_square_X4_by
theorem dX4_square_0 : decode cX4_square 0 = .ok (.aload_n 0, 1) := by decide +kernel
theorem dX4_square_1 : decode cX4_square 1 = .ok (.getfield 26, 3) := by decide +kernel
theorem dX4_square_4 : decode cX4_square 4 = .ok (.ifCond .eq 18, 3) := by decide +kernel
theorem dX4_square_7 : decode cX4_square 7 = .ok (.iconst 2, 1) := by decide +kernel
theorem dX4_square_8 : decode cX4_square 8 = .ok (.aload_n 0, 1) := by decide +kernel
theorem dX4_square_9 : decode cX4_square 9 = .ok (.getfield 13, 3) := by decide +kernel
theorem dX4_square_12 : decode cX4_square 12 = .ok (.iconst 0, 1) := by decide +kernel
theorem dX4_square_13 : decode cX4_square 13 = .ok (.iaload, 1) := by decide +kernel
theorem dX4_square_14 : decode cX4_square 14 = .ok (.imul, 1) := by decide +kernel
theorem dX4_square_15 : decode cX4_square 15 = .ok (.aload_n 0, 1) := by decide +kernel
theorem dX4_square_16 : decode cX4_square 16 = .ok (.getfield 23, 3) := by decide +kernel
theorem dX4_square_19 : decode cX4_square 19 = .ok (.if_icmp .le 5, 3) := by decide +kernel
theorem dX4_square_22 : decode cX4_square 22 = .ok (.iconst 0, 1) := by decide +kernel
theorem dX4_square_23 : decode cX4_square 23 = .ok (.ireturn, 1) := by decide +kernel
theorem dX4_square_24 : decode cX4_square 24 = .ok (.aload_n 0, 1) := by decide +kernel
theorem dX4_square_25 : decode cX4_square 25 = .ok (.iconst 0, 1) := by decide +kernel
theorem dX4_square_26 : decode cX4_square 26 = .ok (.bipush 6, 2) := by decide +kernel
theorem dX4_square_28 : decode cX4_square 28 = .ok (.invokevirtual 53, 3) := by decide +kernel
theorem dX4_square_31 : decode cX4_square 31 = .ok (.iconst 1, 1) := by decide +kernel
theorem dX4_square_32 : decode cX4_square 32 = .ok (.ireturn, 1) := by decide +kernel
theorem dX4_length_0 : decode cX4_length 0 = .ok (.aload_n 0, 1) := by decide +kernel
theorem dX4_length_1 : decode cX4_length 1 = .ok (.getfield 30, 3) := by decide +kernel
theorem dX4_length_4 : decode cX4_length 4 = .ok (.ireturn, 1) := by decide +kernel
theorem dX4_digit_0 : decode cX4_digit 0 = .ok (.iload_n 1, 1) := by decide +kernel
theorem dX4_digit_1 : decode cX4_digit 1 = .ok (.ifCond .lt 20, 3) := by decide +kernel
theorem dX4_digit_4 : decode cX4_digit 4 = .ok (.iload_n 1, 1) := by decide +kernel
theorem dX4_digit_5 : decode cX4_digit 5 = .ok (.aload_n 0, 1) := by decide +kernel
theorem dX4_digit_6 : decode cX4_digit 6 = .ok (.getfield 30, 3) := by decide +kernel
theorem dX4_digit_9 : decode cX4_digit 9 = .ok (.if_icmp .ge 12, 3) := by decide +kernel
theorem dX4_digit_12 : decode cX4_digit 12 = .ok (.aload_n 0, 1) := by decide +kernel
theorem dX4_digit_13 : decode cX4_digit 13 = .ok (.getfield 16, 3) := by decide +kernel
theorem dX4_digit_16 : decode cX4_digit 16 = .ok (.iload_n 1, 1) := by decide +kernel
theorem dX4_digit_17 : decode cX4_digit 17 = .ok (.iaload, 1) := by decide +kernel
theorem dX4_digit_18 : decode cX4_digit 18 = .ok (.goto 4, 3) := by decide +kernel
theorem dX4_digit_21 : decode cX4_digit 21 = .ok (.iconst (-1), 1) := by decide +kernel
theorem dX4_digit_22 : decode cX4_digit 22 = .ok (.ireturn, 1) := by decide +kernel
theorem dX4_butterflies_0 : decode cX4_butterflies 0 = .ok (.aload_n 0, 1) := by decide +kernel
theorem dX4_butterflies_1 : decode cX4_butterflies 1 = .ok (.getfield 33, 3) := by decide +kernel
theorem dX4_butterflies_4 : decode cX4_butterflies 4 = .ok (.ireturn, 1) := by decide +kernel
theorem dX4_primeOf_0 : decode cX4_primeOf 0 = .ok (.iload_n 0, 1) := by decide +kernel
theorem dX4_primeOf_1 : decode cX4_primeOf 1 = .ok (.ifCond .ne 9, 3) := by decide +kernel
theorem dX4_primeOf_4 : decode cX4_primeOf 4 = .ok (.ldc2_w 57, 3) := by decide +kernel
theorem dX4_primeOf_7 : decode cX4_primeOf 7 = .ok (.goto 17, 3) := by decide +kernel
theorem dX4_primeOf_10 : decode cX4_primeOf 10 = .ok (.iload_n 0, 1) := by decide +kernel
theorem dX4_primeOf_11 : decode cX4_primeOf 11 = .ok (.iconst 1, 1) := by decide +kernel
theorem dX4_primeOf_12 : decode cX4_primeOf 12 = .ok (.if_icmp .ne 9, 3) := by decide +kernel
theorem dX4_primeOf_15 : decode cX4_primeOf 15 = .ok (.ldc2_w 59, 3) := by decide +kernel
theorem dX4_primeOf_18 : decode cX4_primeOf 18 = .ok (.goto 6, 3) := by decide +kernel
theorem dX4_primeOf_21 : decode cX4_primeOf 21 = .ok (.ldc2_w 61, 3) := by decide +kernel
theorem dX4_primeOf_24 : decode cX4_primeOf 24 = .ok (.lreturn, 1) := by decide +kernel
theorem dX4_power_0 : decode cX4_power 0 = .ok (.lconst 1, 1) := by decide +kernel
theorem dX4_power_1 : decode cX4_power 1 = .ok (.lstore 6, 2) := by decide +kernel
theorem dX4_power_3 : decode cX4_power 3 = .ok (.lload_n 0, 1) := by decide +kernel
theorem dX4_power_4 : decode cX4_power 4 = .ok (.lload 4, 2) := by decide +kernel
theorem dX4_power_6 : decode cX4_power 6 = .ok (.lrem, 1) := by decide +kernel
theorem dX4_power_7 : decode cX4_power 7 = .ok (.lstore 8, 2) := by decide +kernel
theorem dX4_power_9 : decode cX4_power 9 = .ok (.lload_n 2, 1) := by decide +kernel
theorem dX4_power_10 : decode cX4_power 10 = .ok (.lstore 10, 2) := by decide +kernel
theorem dX4_power_12 : decode cX4_power 12 = .ok (.lload 10, 2) := by decide +kernel
theorem dX4_power_14 : decode cX4_power 14 = .ok (.lconst 0, 1) := by decide +kernel
theorem dX4_power_15 : decode cX4_power 15 = .ok (.lcmp, 1) := by decide +kernel
theorem dX4_power_16 : decode cX4_power 16 = .ok (.ifCond .le 50, 3) := by decide +kernel
theorem dX4_power_19 : decode cX4_power 19 = .ok (.lload 10, 2) := by decide +kernel
theorem dX4_power_21 : decode cX4_power 21 = .ok (.ldc2_w 63, 3) := by decide +kernel
theorem dX4_power_24 : decode cX4_power 24 = .ok (.lrem, 1) := by decide +kernel
theorem dX4_power_25 : decode cX4_power 25 = .ok (.lconst 1, 1) := by decide +kernel
theorem dX4_power_26 : decode cX4_power 26 = .ok (.lcmp, 1) := by decide +kernel
theorem dX4_power_27 : decode cX4_power 27 = .ok (.ifCond .ne 14, 3) := by decide +kernel
theorem dX4_power_30 : decode cX4_power 30 = .ok (.lload 6, 2) := by decide +kernel
theorem dX4_power_32 : decode cX4_power 32 = .ok (.lload 8, 2) := by decide +kernel
theorem dX4_power_34 : decode cX4_power 34 = .ok (.lmul, 1) := by decide +kernel
theorem dX4_power_35 : decode cX4_power 35 = .ok (.lload 4, 2) := by decide +kernel
theorem dX4_power_37 : decode cX4_power 37 = .ok (.lrem, 1) := by decide +kernel
theorem dX4_power_38 : decode cX4_power 38 = .ok (.goto 5, 3) := by decide +kernel
theorem dX4_power_41 : decode cX4_power 41 = .ok (.lload 6, 2) := by decide +kernel
theorem dX4_power_43 : decode cX4_power 43 = .ok (.lstore 6, 2) := by decide +kernel
theorem dX4_power_45 : decode cX4_power 45 = .ok (.lload 8, 2) := by decide +kernel
theorem dX4_power_47 : decode cX4_power 47 = .ok (.lload 8, 2) := by decide +kernel
theorem dX4_power_49 : decode cX4_power 49 = .ok (.lmul, 1) := by decide +kernel
theorem dX4_power_50 : decode cX4_power 50 = .ok (.lload 4, 2) := by decide +kernel
theorem dX4_power_52 : decode cX4_power 52 = .ok (.lrem, 1) := by decide +kernel
theorem dX4_power_53 : decode cX4_power 53 = .ok (.lstore 8, 2) := by decide +kernel
theorem dX4_power_55 : decode cX4_power 55 = .ok (.lload 10, 2) := by decide +kernel
theorem dX4_power_57 : decode cX4_power 57 = .ok (.ldc2_w 63, 3) := by decide +kernel
theorem dX4_power_60 : decode cX4_power 60 = .ok (.ldiv, 1) := by decide +kernel
theorem dX4_power_61 : decode cX4_power 61 = .ok (.lstore 10, 2) := by decide +kernel
theorem dX4_power_63 : decode cX4_power 63 = .ok (.goto (-51), 3) := by decide +kernel
theorem dX4_power_66 : decode cX4_power 66 = .ok (.lload 6, 2) := by decide +kernel
theorem dX4_power_68 : decode cX4_power 68 = .ok (.lreturn, 1) := by decide +kernel
set_option maxRecDepth 20000 in
theorem ggX4_spectrum_X4_isRow : GoodIn wsX4_spectrum wsX4_isRow := goodIn_r _ [9] (by decide +kernel) (by decide +kernel)
set_option maxRecDepth 20000 in
theorem gX4_spectrum_X4_isRow : GoodIn wsX4_spectrum (va_wsS RX4 37 yX4_isRow wsX4_isRow) := goodIn_app (goodIn_of _ (by decide +kernel)) ggX4_spectrum_X4_isRow
set_option maxRecDepth 20000 in
theorem ggX4_spectrum_X4_primeOf : GoodIn wsX4_spectrum wsX4_primeOf := goodIn_r _ [12, 13, 14, 15] (by decide +kernel) (by decide +kernel)
set_option maxRecDepth 20000 in
theorem gX4_spectrum_X4_primeOf : GoodIn wsX4_spectrum (va_wsS RX4 65 yX4_primeOf wsX4_primeOf) := goodIn_app (goodIn_of _ (by decide +kernel)) ggX4_spectrum_X4_primeOf
set_option maxRecDepth 20000 in
theorem ggX4_spectrum_X4_power : GoodIn wsX4_spectrum wsX4_power := goodIn_r _ [18, 19] (by decide +kernel) (by decide +kernel)
set_option maxRecDepth 20000 in
theorem gX4_spectrum_X4_power : GoodIn wsX4_spectrum (va_wsS RX4 71 yX4_power wsX4_power) := goodIn_app (goodIn_of _ (by decide +kernel)) ggX4_spectrum_X4_power
theorem dX4_spectrum_0 : decode cX4_spectrum 0 = .ok (.aload_n 0, 1) := by decide +kernel
theorem dX4_spectrum_1 : decode cX4_spectrum 1 = .ok (.getfield 26, 3) := by decide +kernel
theorem dX4_spectrum_4 : decode cX4_spectrum 4 = .ok (.ifCond .eq 31, 3) := by decide +kernel
theorem dX4_spectrum_7 : decode cX4_spectrum 7 = .ok (.iload_n 1, 1) := by decide +kernel
theorem dX4_spectrum_8 : decode cX4_spectrum 8 = .ok (.invokestatic 37, 3) := by decide +kernel
theorem dX4_spectrum_11 : decode cX4_spectrum 11 = .ok (.ifCond .eq 24, 3) := by decide +kernel
theorem dX4_spectrum_14 : decode cX4_spectrum 14 = .ok (.iload_n 2, 1) := by decide +kernel
theorem dX4_spectrum_15 : decode cX4_spectrum 15 = .ok (.ifCond .lt 20, 3) := by decide +kernel
theorem dX4_spectrum_18 : decode cX4_spectrum 18 = .ok (.iload_n 2, 1) := by decide +kernel
theorem dX4_spectrum_19 : decode cX4_spectrum 19 = .ok (.iconst 2, 1) := by decide +kernel
theorem dX4_spectrum_20 : decode cX4_spectrum 20 = .ok (.if_icmp .gt 15, 3) := by decide +kernel
theorem dX4_spectrum_23 : decode cX4_spectrum 23 = .ok (.iload_n 3, 1) := by decide +kernel
theorem dX4_spectrum_24 : decode cX4_spectrum 24 = .ok (.ifCond .lt 11, 3) := by decide +kernel
theorem dX4_spectrum_27 : decode cX4_spectrum 27 = .ok (.iload_n 3, 1) := by decide +kernel
theorem dX4_spectrum_28 : decode cX4_spectrum 28 = .ok (.aload_n 0, 1) := by decide +kernel
theorem dX4_spectrum_29 : decode cX4_spectrum 29 = .ok (.getfield 23, 3) := by decide +kernel
theorem dX4_spectrum_32 : decode cX4_spectrum 32 = .ok (.if_icmp .lt 5, 3) := by decide +kernel
theorem dX4_spectrum_35 : decode cX4_spectrum 35 = .ok (.iconst (-1), 1) := by decide +kernel
theorem dX4_spectrum_36 : decode cX4_spectrum 36 = .ok (.ireturn, 1) := by decide +kernel
theorem dX4_spectrum_37 : decode cX4_spectrum 37 = .ok (.iload_n 2, 1) := by decide +kernel
theorem dX4_spectrum_38 : decode cX4_spectrum 38 = .ok (.invokestatic 65, 3) := by decide +kernel
theorem dX4_spectrum_41 : decode cX4_spectrum 41 = .ok (.lstore 4, 2) := by decide +kernel
theorem dX4_spectrum_43 : decode cX4_spectrum 43 = .ok (.ldc2_w 69, 3) := by decide +kernel
theorem dX4_spectrum_46 : decode cX4_spectrum 46 = .ok (.lload 4, 2) := by decide +kernel
theorem dX4_spectrum_48 : decode cX4_spectrum 48 = .ok (.lconst 1, 1) := by decide +kernel
theorem dX4_spectrum_49 : decode cX4_spectrum 49 = .ok (.lsub, 1) := by decide +kernel
theorem dX4_spectrum_50 : decode cX4_spectrum 50 = .ok (.aload_n 0, 1) := by decide +kernel
theorem dX4_spectrum_51 : decode cX4_spectrum 51 = .ok (.getfield 23, 3) := by decide +kernel
theorem dX4_spectrum_54 : decode cX4_spectrum 54 = .ok (.i2l, 1) := by decide +kernel
theorem dX4_spectrum_55 : decode cX4_spectrum 55 = .ok (.ldiv, 1) := by decide +kernel
theorem dX4_spectrum_56 : decode cX4_spectrum 56 = .ok (.lload 4, 2) := by decide +kernel
theorem dX4_spectrum_58 : decode cX4_spectrum 58 = .ok (.invokestatic 71, 3) := by decide +kernel
theorem dX4_spectrum_61 : decode cX4_spectrum 61 = .ok (.iload_n 3, 1) := by decide +kernel
theorem dX4_spectrum_62 : decode cX4_spectrum 62 = .ok (.i2l, 1) := by decide +kernel
theorem dX4_spectrum_63 : decode cX4_spectrum 63 = .ok (.lload 4, 2) := by decide +kernel
theorem dX4_spectrum_65 : decode cX4_spectrum 65 = .ok (.invokestatic 71, 3) := by decide +kernel
theorem dX4_spectrum_68 : decode cX4_spectrum 68 = .ok (.lstore 6, 2) := by decide +kernel
theorem dX4_spectrum_70 : decode cX4_spectrum 70 = .ok (.lconst 0, 1) := by decide +kernel
theorem dX4_spectrum_71 : decode cX4_spectrum 71 = .ok (.lstore 8, 2) := by decide +kernel
theorem dX4_spectrum_73 : decode cX4_spectrum 73 = .ok (.aload_n 0, 1) := by decide +kernel
theorem dX4_spectrum_74 : decode cX4_spectrum 74 = .ok (.getfield 13, 3) := by decide +kernel
theorem dX4_spectrum_77 : decode cX4_spectrum 77 = .ok (.iload_n 1, 1) := by decide +kernel
theorem dX4_spectrum_78 : decode cX4_spectrum 78 = .ok (.iaload, 1) := by decide +kernel
theorem dX4_spectrum_79 : decode cX4_spectrum 79 = .ok (.iconst 1, 1) := by decide +kernel
theorem dX4_spectrum_80 : decode cX4_spectrum 80 = .ok (.isub, 1) := by decide +kernel
theorem dX4_spectrum_81 : decode cX4_spectrum 81 = .ok (.istore 10, 2) := by decide +kernel
theorem dX4_spectrum_83 : decode cX4_spectrum 83 = .ok (.iload 10, 2) := by decide +kernel
theorem dX4_spectrum_85 : decode cX4_spectrum 85 = .ok (.ifCond .lt 34, 3) := by decide +kernel
theorem dX4_spectrum_88 : decode cX4_spectrum 88 = .ok (.lload 8, 2) := by decide +kernel
theorem dX4_spectrum_90 : decode cX4_spectrum 90 = .ok (.lload 6, 2) := by decide +kernel
theorem dX4_spectrum_92 : decode cX4_spectrum 92 = .ok (.lmul, 1) := by decide +kernel
theorem dX4_spectrum_93 : decode cX4_spectrum 93 = .ok (.aload_n 0, 1) := by decide +kernel
theorem dX4_spectrum_94 : decode cX4_spectrum 94 = .ok (.getfield 7, 3) := by decide +kernel
theorem dX4_spectrum_97 : decode cX4_spectrum 97 = .ok (.sipush 1024, 3) := by decide +kernel
theorem dX4_spectrum_100 : decode cX4_spectrum 100 = .ok (.iload_n 1, 1) := by decide +kernel
theorem dX4_spectrum_101 : decode cX4_spectrum 101 = .ok (.imul, 1) := by decide +kernel
theorem dX4_spectrum_102 : decode cX4_spectrum 102 = .ok (.iload 10, 2) := by decide +kernel
theorem dX4_spectrum_104 : decode cX4_spectrum 104 = .ok (.iadd, 1) := by decide +kernel
theorem dX4_spectrum_105 : decode cX4_spectrum 105 = .ok (.iaload, 1) := by decide +kernel
theorem dX4_spectrum_106 : decode cX4_spectrum 106 = .ok (.i2l, 1) := by decide +kernel
theorem dX4_spectrum_107 : decode cX4_spectrum 107 = .ok (.ladd, 1) := by decide +kernel
theorem dX4_spectrum_108 : decode cX4_spectrum 108 = .ok (.lload 4, 2) := by decide +kernel
theorem dX4_spectrum_110 : decode cX4_spectrum 110 = .ok (.lrem, 1) := by decide +kernel
theorem dX4_spectrum_111 : decode cX4_spectrum 111 = .ok (.lstore 8, 2) := by decide +kernel
theorem dX4_spectrum_113 : decode cX4_spectrum 113 = .ok (.iinc 10 (-1), 3) := by decide +kernel
theorem dX4_spectrum_116 : decode cX4_spectrum 116 = .ok (.goto (-33), 3) := by decide +kernel
theorem dX4_spectrum_119 : decode cX4_spectrum 119 = .ok (.lload 8, 2) := by decide +kernel
theorem dX4_spectrum_121 : decode cX4_spectrum 121 = .ok (.l2i, 1) := by decide +kernel
theorem dX4_spectrum_122 : decode cX4_spectrum 122 = .ok (.ireturn, 1) := by decide +kernel
set_option maxRecDepth 20000 in
theorem ggX4_take_X4_isRow : GoodIn wsX4_take wsX4_isRow := goodIn_r _ [8] (by decide +kernel) (by decide +kernel)
set_option maxRecDepth 20000 in
theorem gX4_take_X4_isRow : GoodIn wsX4_take (va_wsS RX4 37 yX4_isRow wsX4_isRow) := goodIn_app (goodIn_of _ (by decide +kernel)) ggX4_take_X4_isRow
set_option maxRecDepth 20000 in
theorem ggX4_take_X4_trim : GoodIn wsX4_take wsX4_trim := goodIn_r _ [12, 2, 3, 13, 14, 15, 16, 17, 18, 19, 20] (by decide +kernel) (by decide +kernel)
set_option maxRecDepth 20000 in
theorem gX4_take_X4_trim : GoodIn wsX4_take (wsV RX4 50 RX4 yX4_trim wsX4_trim) := goodIn_app (goodIn_of _ (by decide +kernel)) ggX4_take_X4_trim
theorem dX4_take_0 : decode cX4_take 0 = .ok (.iload_n 1, 1) := by decide +kernel
theorem dX4_take_1 : decode cX4_take 1 = .ok (.invokestatic 37, 3) := by decide +kernel
theorem dX4_take_4 : decode cX4_take 4 = .ok (.ifCond .ne 5, 3) := by decide +kernel
theorem dX4_take_7 : decode cX4_take 7 = .ok (.iconst 0, 1) := by decide +kernel
theorem dX4_take_8 : decode cX4_take 8 = .ok (.ireturn, 1) := by decide +kernel
theorem dX4_take_9 : decode cX4_take 9 = .ok (.aload_n 0, 1) := by decide +kernel
theorem dX4_take_10 : decode cX4_take 10 = .ok (.aload_n 0, 1) := by decide +kernel
theorem dX4_take_11 : decode cX4_take 11 = .ok (.getfield 13, 3) := by decide +kernel
theorem dX4_take_14 : decode cX4_take 14 = .ok (.iload_n 1, 1) := by decide +kernel
theorem dX4_take_15 : decode cX4_take 15 = .ok (.iaload, 1) := by decide +kernel
theorem dX4_take_16 : decode cX4_take 16 = .ok (.putfield 30, 3) := by decide +kernel
theorem dX4_take_19 : decode cX4_take 19 = .ok (.iconst 0, 1) := by decide +kernel
theorem dX4_take_20 : decode cX4_take 20 = .ok (.istore_n 2, 1) := by decide +kernel
theorem dX4_take_21 : decode cX4_take 21 = .ok (.iload_n 2, 1) := by decide +kernel
theorem dX4_take_22 : decode cX4_take 22 = .ok (.aload_n 0, 1) := by decide +kernel
theorem dX4_take_23 : decode cX4_take 23 = .ok (.getfield 30, 3) := by decide +kernel
theorem dX4_take_26 : decode cX4_take 26 = .ok (.if_icmp .ge 27, 3) := by decide +kernel
theorem dX4_take_29 : decode cX4_take 29 = .ok (.aload_n 0, 1) := by decide +kernel
theorem dX4_take_30 : decode cX4_take 30 = .ok (.getfield 16, 3) := by decide +kernel
theorem dX4_take_33 : decode cX4_take 33 = .ok (.iload_n 2, 1) := by decide +kernel
theorem dX4_take_34 : decode cX4_take 34 = .ok (.aload_n 0, 1) := by decide +kernel
theorem dX4_take_35 : decode cX4_take 35 = .ok (.getfield 7, 3) := by decide +kernel
theorem dX4_take_38 : decode cX4_take 38 = .ok (.sipush 1024, 3) := by decide +kernel
theorem dX4_take_41 : decode cX4_take 41 = .ok (.iload_n 1, 1) := by decide +kernel
theorem dX4_take_42 : decode cX4_take 42 = .ok (.imul, 1) := by decide +kernel
theorem dX4_take_43 : decode cX4_take 43 = .ok (.iload_n 2, 1) := by decide +kernel
theorem dX4_take_44 : decode cX4_take 44 = .ok (.iadd, 1) := by decide +kernel
theorem dX4_take_45 : decode cX4_take 45 = .ok (.iaload, 1) := by decide +kernel
theorem dX4_take_46 : decode cX4_take 46 = .ok (.iastore, 1) := by decide +kernel
theorem dX4_take_47 : decode cX4_take 47 = .ok (.iinc 2 1, 3) := by decide +kernel
theorem dX4_take_50 : decode cX4_take 50 = .ok (.goto (-29), 3) := by decide +kernel
theorem dX4_take_53 : decode cX4_take 53 = .ok (.aload_n 0, 1) := by decide +kernel
theorem dX4_take_54 : decode cX4_take 54 = .ok (.invokevirtual 50, 3) := by decide +kernel
theorem dX4_take_57 : decode cX4_take 57 = .ok (.iconst 1, 1) := by decide +kernel
theorem dX4_take_58 : decode cX4_take 58 = .ok (.ireturn, 1) := by decide +kernel
set_option maxRecDepth 20000 in
theorem ggX4_give_X4_isRow : GoodIn wsX4_give wsX4_isRow := goodIn_r _ [8] (by decide +kernel) (by decide +kernel)
set_option maxRecDepth 20000 in
theorem gX4_give_X4_isRow : GoodIn wsX4_give (va_wsS RX4 37 yX4_isRow wsX4_isRow) := goodIn_app (goodIn_of _ (by decide +kernel)) ggX4_give_X4_isRow
theorem dX4_give_0 : decode cX4_give 0 = .ok (.iload_n 1, 1) := by decide +kernel
theorem dX4_give_1 : decode cX4_give 1 = .ok (.invokestatic 37, 3) := by decide +kernel
theorem dX4_give_4 : decode cX4_give 4 = .ok (.ifCond .ne 5, 3) := by decide +kernel
theorem dX4_give_7 : decode cX4_give 7 = .ok (.iconst 0, 1) := by decide +kernel
theorem dX4_give_8 : decode cX4_give 8 = .ok (.ireturn, 1) := by decide +kernel
theorem dX4_give_9 : decode cX4_give 9 = .ok (.aload_n 0, 1) := by decide +kernel
theorem dX4_give_10 : decode cX4_give 10 = .ok (.getfield 13, 3) := by decide +kernel
theorem dX4_give_13 : decode cX4_give 13 = .ok (.iload_n 1, 1) := by decide +kernel
theorem dX4_give_14 : decode cX4_give 14 = .ok (.aload_n 0, 1) := by decide +kernel
theorem dX4_give_15 : decode cX4_give 15 = .ok (.getfield 30, 3) := by decide +kernel
theorem dX4_give_18 : decode cX4_give 18 = .ok (.iastore, 1) := by decide +kernel
theorem dX4_give_19 : decode cX4_give 19 = .ok (.iconst 0, 1) := by decide +kernel
theorem dX4_give_20 : decode cX4_give 20 = .ok (.istore_n 2, 1) := by decide +kernel
theorem dX4_give_21 : decode cX4_give 21 = .ok (.iload_n 2, 1) := by decide +kernel
theorem dX4_give_22 : decode cX4_give 22 = .ok (.aload_n 0, 1) := by decide +kernel
theorem dX4_give_23 : decode cX4_give 23 = .ok (.getfield 30, 3) := by decide +kernel
theorem dX4_give_26 : decode cX4_give 26 = .ok (.if_icmp .ge 27, 3) := by decide +kernel
theorem dX4_give_29 : decode cX4_give 29 = .ok (.aload_n 0, 1) := by decide +kernel
theorem dX4_give_30 : decode cX4_give 30 = .ok (.getfield 7, 3) := by decide +kernel
theorem dX4_give_33 : decode cX4_give 33 = .ok (.sipush 1024, 3) := by decide +kernel
theorem dX4_give_36 : decode cX4_give 36 = .ok (.iload_n 1, 1) := by decide +kernel
theorem dX4_give_37 : decode cX4_give 37 = .ok (.imul, 1) := by decide +kernel
theorem dX4_give_38 : decode cX4_give 38 = .ok (.iload_n 2, 1) := by decide +kernel
theorem dX4_give_39 : decode cX4_give 39 = .ok (.iadd, 1) := by decide +kernel
theorem dX4_give_40 : decode cX4_give 40 = .ok (.aload_n 0, 1) := by decide +kernel
theorem dX4_give_41 : decode cX4_give 41 = .ok (.getfield 16, 3) := by decide +kernel
theorem dX4_give_44 : decode cX4_give 44 = .ok (.iload_n 2, 1) := by decide +kernel
theorem dX4_give_45 : decode cX4_give 45 = .ok (.iaload, 1) := by decide +kernel
theorem dX4_give_46 : decode cX4_give 46 = .ok (.iastore, 1) := by decide +kernel
theorem dX4_give_47 : decode cX4_give 47 = .ok (.iinc 2 1, 3) := by decide +kernel
theorem dX4_give_50 : decode cX4_give 50 = .ok (.goto (-29), 3) := by decide +kernel
theorem dX4_give_53 : decode cX4_give 53 = .ok (.iconst 1, 1) := by decide +kernel
theorem dX4_give_54 : decode cX4_give 54 = .ok (.ireturn, 1) := by decide +kernel
theorem dX4_digitOf_0 : decode cX4_digitOf 0 = .ok (.iload_n 2, 1) := by decide +kernel
theorem dX4_digitOf_1 : decode cX4_digitOf 1 = .ok (.aload_n 0, 1) := by decide +kernel
theorem dX4_digitOf_2 : decode cX4_digitOf 2 = .ok (.getfield 13, 3) := by decide +kernel
theorem dX4_digitOf_5 : decode cX4_digitOf 5 = .ok (.iload_n 1, 1) := by decide +kernel
theorem dX4_digitOf_6 : decode cX4_digitOf 6 = .ok (.iaload, 1) := by decide +kernel
theorem dX4_digitOf_7 : decode cX4_digitOf 7 = .ok (.if_icmp .ge 18, 3) := by decide +kernel
theorem dX4_digitOf_10 : decode cX4_digitOf 10 = .ok (.aload_n 0, 1) := by decide +kernel
theorem dX4_digitOf_11 : decode cX4_digitOf 11 = .ok (.getfield 7, 3) := by decide +kernel
theorem dX4_digitOf_14 : decode cX4_digitOf 14 = .ok (.sipush 1024, 3) := by decide +kernel
theorem dX4_digitOf_17 : decode cX4_digitOf 17 = .ok (.iload_n 1, 1) := by decide +kernel
theorem dX4_digitOf_18 : decode cX4_digitOf 18 = .ok (.imul, 1) := by decide +kernel
theorem dX4_digitOf_19 : decode cX4_digitOf 19 = .ok (.iload_n 2, 1) := by decide +kernel
theorem dX4_digitOf_20 : decode cX4_digitOf 20 = .ok (.iadd, 1) := by decide +kernel
theorem dX4_digitOf_21 : decode cX4_digitOf 21 = .ok (.iaload, 1) := by decide +kernel
theorem dX4_digitOf_22 : decode cX4_digitOf 22 = .ok (.goto 4, 3) := by decide +kernel
theorem dX4_digitOf_25 : decode cX4_digitOf 25 = .ok (.iconst 0, 1) := by decide +kernel
theorem dX4_digitOf_26 : decode cX4_digitOf 26 = .ok (.ireturn, 1) := by decide +kernel
set_option maxRecDepth 20000 in
theorem ggX4_compare_X4_digitOf : GoodIn wsX4_compare wsX4_digitOf := goodIn_r _ [6, 7, 8, 9, 10, 11, 12, 13, 14, 15, 16] (by decide +kernel) (by decide +kernel)
set_option maxRecDepth 20000 in
theorem gX4_compare_X4_digitOf : GoodIn wsX4_compare (wsV RX4 75 RX4 yX4_digitOf wsX4_digitOf) := goodIn_app (goodIn_of _ (by decide +kernel)) ggX4_compare_X4_digitOf
theorem dX4_compare_0 : decode cX4_compare 0 = .ok (.aload_n 0, 1) := by decide +kernel
theorem dX4_compare_1 : decode cX4_compare 1 = .ok (.getfield 23, 3) := by decide +kernel
theorem dX4_compare_4 : decode cX4_compare 4 = .ok (.iconst 1, 1) := by decide +kernel
theorem dX4_compare_5 : decode cX4_compare 5 = .ok (.isub, 1) := by decide +kernel
theorem dX4_compare_6 : decode cX4_compare 6 = .ok (.istore_n 1, 1) := by decide +kernel
theorem dX4_compare_7 : decode cX4_compare 7 = .ok (.iload_n 1, 1) := by decide +kernel
theorem dX4_compare_8 : decode cX4_compare 8 = .ok (.ifCond .lt 37, 3) := by decide +kernel
theorem dX4_compare_11 : decode cX4_compare 11 = .ok (.aload_n 0, 1) := by decide +kernel
theorem dX4_compare_12 : decode cX4_compare 12 = .ok (.iconst 0, 1) := by decide +kernel
theorem dX4_compare_13 : decode cX4_compare 13 = .ok (.iload_n 1, 1) := by decide +kernel
theorem dX4_compare_14 : decode cX4_compare 14 = .ok (.invokevirtual 75, 3) := by decide +kernel
theorem dX4_compare_17 : decode cX4_compare 17 = .ok (.aload_n 0, 1) := by decide +kernel
theorem dX4_compare_18 : decode cX4_compare 18 = .ok (.iconst 1, 1) := by decide +kernel
theorem dX4_compare_19 : decode cX4_compare 19 = .ok (.iload_n 1, 1) := by decide +kernel
theorem dX4_compare_20 : decode cX4_compare 20 = .ok (.invokevirtual 75, 3) := by decide +kernel
theorem dX4_compare_23 : decode cX4_compare 23 = .ok (.isub, 1) := by decide +kernel
theorem dX4_compare_24 : decode cX4_compare 24 = .ok (.istore_n 2, 1) := by decide +kernel
theorem dX4_compare_25 : decode cX4_compare 25 = .ok (.iload_n 2, 1) := by decide +kernel
theorem dX4_compare_26 : decode cX4_compare 26 = .ok (.ifCond .eq 13, 3) := by decide +kernel
theorem dX4_compare_29 : decode cX4_compare 29 = .ok (.iload_n 2, 1) := by decide +kernel
theorem dX4_compare_30 : decode cX4_compare 30 = .ok (.ifCond .ge 7, 3) := by decide +kernel
theorem dX4_compare_33 : decode cX4_compare 33 = .ok (.iconst (-1), 1) := by decide +kernel
theorem dX4_compare_34 : decode cX4_compare 34 = .ok (.goto 4, 3) := by decide +kernel
theorem dX4_compare_37 : decode cX4_compare 37 = .ok (.iconst 1, 1) := by decide +kernel
theorem dX4_compare_38 : decode cX4_compare 38 = .ok (.ireturn, 1) := by decide +kernel
theorem dX4_compare_39 : decode cX4_compare 39 = .ok (.iinc 1 (-1), 3) := by decide +kernel
theorem dX4_compare_42 : decode cX4_compare 42 = .ok (.goto (-35), 3) := by decide +kernel
theorem dX4_compare_45 : decode cX4_compare 45 = .ok (.iconst 0, 1) := by decide +kernel
theorem dX4_compare_46 : decode cX4_compare 46 = .ok (.ireturn, 1) := by decide +kernel
theorem dX4_rest_0 : decode cX4_rest 0 = .ok (.iload_n 1, 1) := by decide +kernel
theorem dX4_rest_1 : decode cX4_rest 1 = .ok (.iconst 1, 1) := by decide +kernel
theorem dX4_rest_2 : decode cX4_rest 2 = .ok (.if_icmp .lt 9, 3) := by decide +kernel
theorem dX4_rest_5 : decode cX4_rest 5 = .ok (.iload_n 1, 1) := by decide +kernel
theorem dX4_rest_6 : decode cX4_rest 6 = .ok (.ldc 79, 2) := by decide +kernel
theorem dX4_rest_8 : decode cX4_rest 8 = .ok (.if_icmp .le 5, 3) := by decide +kernel
theorem dX4_rest_11 : decode cX4_rest 11 = .ok (.iconst (-1), 1) := by decide +kernel
theorem dX4_rest_12 : decode cX4_rest 12 = .ok (.ireturn, 1) := by decide +kernel
theorem dX4_rest_13 : decode cX4_rest 13 = .ok (.lconst 0, 1) := by decide +kernel
theorem dX4_rest_14 : decode cX4_rest 14 = .ok (.lstore_n 2, 1) := by decide +kernel
theorem dX4_rest_15 : decode cX4_rest 15 = .ok (.aload_n 0, 1) := by decide +kernel
theorem dX4_rest_16 : decode cX4_rest 16 = .ok (.getfield 30, 3) := by decide +kernel
theorem dX4_rest_19 : decode cX4_rest 19 = .ok (.iconst 1, 1) := by decide +kernel
theorem dX4_rest_20 : decode cX4_rest 20 = .ok (.isub, 1) := by decide +kernel
theorem dX4_rest_21 : decode cX4_rest 21 = .ok (.istore 4, 2) := by decide +kernel
theorem dX4_rest_23 : decode cX4_rest 23 = .ok (.iload 4, 2) := by decide +kernel
theorem dX4_rest_25 : decode cX4_rest 25 = .ok (.ifCond .lt 27, 3) := by decide +kernel
theorem dX4_rest_28 : decode cX4_rest 28 = .ok (.lload_n 2, 1) := by decide +kernel
theorem dX4_rest_29 : decode cX4_rest 29 = .ok (.ldc2_w 48, 3) := by decide +kernel
theorem dX4_rest_32 : decode cX4_rest 32 = .ok (.lmul, 1) := by decide +kernel
theorem dX4_rest_33 : decode cX4_rest 33 = .ok (.aload_n 0, 1) := by decide +kernel
theorem dX4_rest_34 : decode cX4_rest 34 = .ok (.getfield 16, 3) := by decide +kernel
theorem dX4_rest_37 : decode cX4_rest 37 = .ok (.iload 4, 2) := by decide +kernel
theorem dX4_rest_39 : decode cX4_rest 39 = .ok (.iaload, 1) := by decide +kernel
theorem dX4_rest_40 : decode cX4_rest 40 = .ok (.i2l, 1) := by decide +kernel
theorem dX4_rest_41 : decode cX4_rest 41 = .ok (.ladd, 1) := by decide +kernel
theorem dX4_rest_42 : decode cX4_rest 42 = .ok (.iload_n 1, 1) := by decide +kernel
theorem dX4_rest_43 : decode cX4_rest 43 = .ok (.i2l, 1) := by decide +kernel
theorem dX4_rest_44 : decode cX4_rest 44 = .ok (.lrem, 1) := by decide +kernel
theorem dX4_rest_45 : decode cX4_rest 45 = .ok (.lstore_n 2, 1) := by decide +kernel
theorem dX4_rest_46 : decode cX4_rest 46 = .ok (.iinc 4 (-1), 3) := by decide +kernel
theorem dX4_rest_49 : decode cX4_rest 49 = .ok (.goto (-26), 3) := by decide +kernel
theorem dX4_rest_52 : decode cX4_rest 52 = .ok (.lload_n 2, 1) := by decide +kernel
theorem dX4_rest_53 : decode cX4_rest 53 = .ok (.l2i, 1) := by decide +kernel
theorem dX4_rest_54 : decode cX4_rest 54 = .ok (.ireturn, 1) := by decide +kernel
theorem dJ9_floorMod_f86c9_0 : decode cJ9_floorMod_f86c9 0 = .ok (.lload_n 0, 1) := by decide +kernel
theorem dJ9_floorMod_f86c9_1 : decode cJ9_floorMod_f86c9 1 = .ok (.lload_n 2, 1) := by decide +kernel
theorem dJ9_floorMod_f86c9_2 : decode cJ9_floorMod_f86c9 2 = .ok (.lrem, 1) := by decide +kernel
theorem dJ9_floorMod_f86c9_3 : decode cJ9_floorMod_f86c9 3 = .ok (.lstore 4, 2) := by decide +kernel
theorem dJ9_floorMod_f86c9_5 : decode cJ9_floorMod_f86c9 5 = .ok (.lload_n 0, 1) := by decide +kernel
theorem dJ9_floorMod_f86c9_6 : decode cJ9_floorMod_f86c9 6 = .ok (.lload_n 2, 1) := by decide +kernel
theorem dJ9_floorMod_f86c9_7 : decode cJ9_floorMod_f86c9 7 = .ok (.lxor, 1) := by decide +kernel
theorem dJ9_floorMod_f86c9_8 : decode cJ9_floorMod_f86c9 8 = .ok (.lconst 0, 1) := by decide +kernel
theorem dJ9_floorMod_f86c9_9 : decode cJ9_floorMod_f86c9 9 = .ok (.lcmp, 1) := by decide +kernel
theorem dJ9_floorMod_f86c9_10 : decode cJ9_floorMod_f86c9 10 = .ok (.ifCond .ge 15, 3) := by decide +kernel
theorem dJ9_floorMod_f86c9_13 : decode cJ9_floorMod_f86c9 13 = .ok (.lload 4, 2) := by decide +kernel
theorem dJ9_floorMod_f86c9_15 : decode cJ9_floorMod_f86c9 15 = .ok (.lconst 0, 1) := by decide +kernel
theorem dJ9_floorMod_f86c9_16 : decode cJ9_floorMod_f86c9 16 = .ok (.lcmp, 1) := by decide +kernel
theorem dJ9_floorMod_f86c9_17 : decode cJ9_floorMod_f86c9 17 = .ok (.ifCond .eq 8, 3) := by decide +kernel
theorem dJ9_floorMod_f86c9_20 : decode cJ9_floorMod_f86c9 20 = .ok (.lload 4, 2) := by decide +kernel
theorem dJ9_floorMod_f86c9_22 : decode cJ9_floorMod_f86c9 22 = .ok (.lload_n 2, 1) := by decide +kernel
theorem dJ9_floorMod_f86c9_23 : decode cJ9_floorMod_f86c9 23 = .ok (.ladd, 1) := by decide +kernel
theorem dJ9_floorMod_f86c9_24 : decode cJ9_floorMod_f86c9 24 = .ok (.lreturn, 1) := by decide +kernel
theorem dJ9_floorMod_f86c9_25 : decode cJ9_floorMod_f86c9 25 = .ok (.lload 4, 2) := by decide +kernel
theorem dJ9_floorMod_f86c9_27 : decode cJ9_floorMod_f86c9 27 = .ok (.lreturn, 1) := by decide +kernel
theorem dJ7_rangeCheck_23922_0 : decode cJ7_rangeCheck_23922 0 = .ok (.iload_n 1, 1) := by decide +kernel
theorem dJ7_rangeCheck_23922_1 : decode cJ7_rangeCheck_23922 1 = .ok (.iload_n 2, 1) := by decide +kernel
theorem dJ7_rangeCheck_23922_2 : decode cJ7_rangeCheck_23922 2 = .ok (.if_icmp .le 44, 3) := by decide +kernel
theorem dJ7_rangeCheck_23922_5 : decode cJ7_rangeCheck_23922 5 = .ok (.new 43, 3) := by decide +kernel
theorem dJ7_rangeCheck_23922_8 : decode cJ7_rangeCheck_23922 8 = .ok (.dup, 1) := by decide +kernel
theorem dJ7_rangeCheck_23922_9 : decode cJ7_rangeCheck_23922 9 = .ok (.new 45, 3) := by decide +kernel
theorem dJ7_rangeCheck_23922_12 : decode cJ7_rangeCheck_23922 12 = .ok (.dup, 1) := by decide +kernel
theorem dJ7_rangeCheck_23922_13 : decode cJ7_rangeCheck_23922 13 = .ok (.invokespecial 47, 3) := by decide +kernel
theorem dJ7_rangeCheck_23922_16 : decode cJ7_rangeCheck_23922 16 = .ok (.ldc 48, 2) := by decide +kernel
theorem dJ7_rangeCheck_23922_18 : decode cJ7_rangeCheck_23922 18 = .ok (.invokevirtual 50, 3) := by decide +kernel
theorem dJ7_rangeCheck_23922_21 : decode cJ7_rangeCheck_23922 21 = .ok (.iload_n 1, 1) := by decide +kernel
theorem dJ7_rangeCheck_23922_22 : decode cJ7_rangeCheck_23922 22 = .ok (.invokevirtual 54, 3) := by decide +kernel
theorem dJ7_rangeCheck_23922_25 : decode cJ7_rangeCheck_23922 25 = .ok (.ldc 57, 2) := by decide +kernel
theorem dJ7_rangeCheck_23922_27 : decode cJ7_rangeCheck_23922 27 = .ok (.invokevirtual 50, 3) := by decide +kernel
theorem dJ7_rangeCheck_23922_30 : decode cJ7_rangeCheck_23922 30 = .ok (.iload_n 2, 1) := by decide +kernel
theorem dJ7_rangeCheck_23922_31 : decode cJ7_rangeCheck_23922 31 = .ok (.invokevirtual 54, 3) := by decide +kernel
theorem dJ7_rangeCheck_23922_34 : decode cJ7_rangeCheck_23922 34 = .ok (.ldc 59, 2) := by decide +kernel
theorem dJ7_rangeCheck_23922_36 : decode cJ7_rangeCheck_23922 36 = .ok (.invokevirtual 50, 3) := by decide +kernel
theorem dJ7_rangeCheck_23922_39 : decode cJ7_rangeCheck_23922 39 = .ok (.invokevirtual 61, 3) := by decide +kernel
theorem dJ7_rangeCheck_23922_42 : decode cJ7_rangeCheck_23922 42 = .ok (.invokespecial 65, 3) := by decide +kernel
theorem dJ7_rangeCheck_23922_45 : decode cJ7_rangeCheck_23922 45 = .ok (.athrow, 1) := by decide +kernel
theorem dJ7_rangeCheck_23922_46 : decode cJ7_rangeCheck_23922 46 = .ok (.iload_n 1, 1) := by decide +kernel
theorem dJ7_rangeCheck_23922_47 : decode cJ7_rangeCheck_23922 47 = .ok (.ifCond .ge 12, 3) := by decide +kernel
theorem dJ7_rangeCheck_23922_50 : decode cJ7_rangeCheck_23922 50 = .ok (.new 68, 3) := by decide +kernel
theorem dJ7_rangeCheck_23922_53 : decode cJ7_rangeCheck_23922 53 = .ok (.dup, 1) := by decide +kernel
theorem dJ7_rangeCheck_23922_54 : decode cJ7_rangeCheck_23922 54 = .ok (.iload_n 1, 1) := by decide +kernel
theorem dJ7_rangeCheck_23922_55 : decode cJ7_rangeCheck_23922 55 = .ok (.invokespecial 70, 3) := by decide +kernel
theorem dJ7_rangeCheck_23922_58 : decode cJ7_rangeCheck_23922 58 = .ok (.athrow, 1) := by decide +kernel
theorem dJ7_rangeCheck_23922_59 : decode cJ7_rangeCheck_23922 59 = .ok (.iload_n 2, 1) := by decide +kernel
theorem dJ7_rangeCheck_23922_60 : decode cJ7_rangeCheck_23922 60 = .ok (.iload_n 0, 1) := by decide +kernel
theorem dJ7_rangeCheck_23922_61 : decode cJ7_rangeCheck_23922 61 = .ok (.if_icmp .le 12, 3) := by decide +kernel
theorem dJ7_rangeCheck_23922_64 : decode cJ7_rangeCheck_23922 64 = .ok (.new 68, 3) := by decide +kernel
theorem dJ7_rangeCheck_23922_67 : decode cJ7_rangeCheck_23922 67 = .ok (.dup, 1) := by decide +kernel
theorem dJ7_rangeCheck_23922_68 : decode cJ7_rangeCheck_23922 68 = .ok (.iload_n 2, 1) := by decide +kernel
theorem dJ7_rangeCheck_23922_69 : decode cJ7_rangeCheck_23922 69 = .ok (.invokespecial 70, 3) := by decide +kernel
theorem dJ7_rangeCheck_23922_72 : decode cJ7_rangeCheck_23922 72 = .ok (.athrow, 1) := by decide +kernel
theorem dJ7_rangeCheck_23922_73 : decode cJ7_rangeCheck_23922 73 = .ok (.return_, 1) := by decide +kernel
set_option maxRecDepth 20000 in
theorem ggJ7_fill_fda19_J7_rangeCheck_23922 : GoodIn wsJ7_fill_fda19 wsJ7_rangeCheck_23922 := goodIn_r _ [4] (by decide +kernel) (by decide +kernel)
set_option maxRecDepth 20000 in
theorem gJ7_fill_fda19_J7_rangeCheck_23922 : GoodIn wsJ7_fill_fda19 (va_wsS RJ7 13 yJ7_rangeCheck_23922 wsJ7_rangeCheck_23922) := goodIn_app (goodIn_of _ (by decide +kernel)) ggJ7_fill_fda19_J7_rangeCheck_23922
theorem dJ7_fill_fda19_0 : decode cJ7_fill_fda19 0 = .ok (.aload_n 0, 1) := by decide +kernel
theorem dJ7_fill_fda19_1 : decode cJ7_fill_fda19 1 = .ok (.arraylength, 1) := by decide +kernel
theorem dJ7_fill_fda19_2 : decode cJ7_fill_fda19 2 = .ok (.iload_n 1, 1) := by decide +kernel
theorem dJ7_fill_fda19_3 : decode cJ7_fill_fda19 3 = .ok (.iload_n 2, 1) := by decide +kernel
theorem dJ7_fill_fda19_4 : decode cJ7_fill_fda19 4 = .ok (.invokestatic 13, 3) := by decide +kernel
theorem dJ7_fill_fda19_7 : decode cJ7_fill_fda19 7 = .ok (.iload_n 1, 1) := by decide +kernel
theorem dJ7_fill_fda19_8 : decode cJ7_fill_fda19 8 = .ok (.istore 4, 2) := by decide +kernel
theorem dJ7_fill_fda19_10 : decode cJ7_fill_fda19 10 = .ok (.iload 4, 2) := by decide +kernel
theorem dJ7_fill_fda19_12 : decode cJ7_fill_fda19 12 = .ok (.iload_n 2, 1) := by decide +kernel
theorem dJ7_fill_fda19_13 : decode cJ7_fill_fda19 13 = .ok (.if_icmp .ge 14, 3) := by decide +kernel
theorem dJ7_fill_fda19_16 : decode cJ7_fill_fda19 16 = .ok (.aload_n 0, 1) := by decide +kernel
theorem dJ7_fill_fda19_17 : decode cJ7_fill_fda19 17 = .ok (.iload 4, 2) := by decide +kernel
theorem dJ7_fill_fda19_19 : decode cJ7_fill_fda19 19 = .ok (.iload_n 3, 1) := by decide +kernel
theorem dJ7_fill_fda19_20 : decode cJ7_fill_fda19 20 = .ok (.iastore, 1) := by decide +kernel
theorem dJ7_fill_fda19_21 : decode cJ7_fill_fda19 21 = .ok (.iinc 4 1, 3) := by decide +kernel
theorem dJ7_fill_fda19_24 : decode cJ7_fill_fda19 24 = .ok (.goto (-14), 3) := by decide +kernel
theorem dJ7_fill_fda19_27 : decode cJ7_fill_fda19 27 = .ok (.return_, 1) := by decide +kernel
theorem dL_cell_0 : decode cL_cell 0 = .ok (.iload_n 1, 1) := by decide +kernel
theorem dL_cell_1 : decode cL_cell 1 = .ok (.aload_n 0, 1) := by decide +kernel
theorem dL_cell_2 : decode cL_cell 2 = .ok (.arraylength, 1) := by decide +kernel
theorem dL_cell_3 : decode cL_cell 3 = .ok (.if_icmp .ge 9, 3) := by decide +kernel
theorem dL_cell_6 : decode cL_cell 6 = .ok (.aload_n 0, 1) := by decide +kernel
theorem dL_cell_7 : decode cL_cell 7 = .ok (.iload_n 1, 1) := by decide +kernel
theorem dL_cell_8 : decode cL_cell 8 = .ok (.iaload, 1) := by decide +kernel
theorem dL_cell_9 : decode cL_cell 9 = .ok (.goto 4, 3) := by decide +kernel
theorem dL_cell_12 : decode cL_cell 12 = .ok (.iconst 0, 1) := by decide +kernel
theorem dL_cell_13 : decode cL_cell 13 = .ok (.ireturn, 1) := by decide +kernel
set_option maxRecDepth 20000 in
theorem ggL_law_L_cell : GoodIn wsL_law wsL_cell := goodIn_r _ [9] (by decide +kernel) (by decide +kernel)
set_option maxRecDepth 20000 in
theorem gL_law_L_cell : GoodIn wsL_law (va_wsS RL 9 yL_cell wsL_cell) := goodIn_app (goodIn_of _ (by decide +kernel)) ggL_law_L_cell
set_option maxRecDepth 20000 in
theorem ggL_law_X3_init : GoodIn wsL_law wsX3_init := goodIn_r _ [12, 13, 14, 15, 16, 17, 18, 19, 20, 21, 22, 23, 24, 25, 26, 27, 28, 29, 30, 31, 32, 33, 34, 35, 36, 37, 38, 39, 40, 41, 42, 43, 44, 45, 46, 47, 48, 49, 50, 51, 52, 53, 54, 55, 56, 57, 58, 351, 352, 353, 354, 355, 356, 357, 358, 359, 360, 369, 370, 371, 372, 373, 374, 375, 376, 377, 378] (by decide +kernel) (by decide +kernel)
set_option maxRecDepth 20000 in
theorem gL_law_X3_init : GoodIn wsL_law (wsX3_init) := ggL_law_X3_init
set_option maxRecDepth 20000 in
theorem ggL_law_X4_init : GoodIn wsL_law wsX4_init := goodIn_r _ [61, 62, 14, 15, 33, 63, 64, 65, 66, 67, 361, 362, 363, 364, 365, 366, 367, 368] (by decide +kernel) (by decide +kernel)
set_option maxRecDepth 20000 in
theorem gL_law_X4_init : GoodIn wsL_law (wsX4_init) := ggL_law_X4_init
set_option maxRecDepth 20000 in
theorem ggL_law_X3_init_ : GoodIn wsL_law wsX3_init_ := goodIn_r _ [71, 35, 26, 32, 72, 73, 74, 28, 75, 76, 47, 49, 50, 52, 77, 2, 78, 79, 80, 81, 82, 83, 84, 85, 31, 86, 57, 58, 351, 352, 353, 354, 355, 356, 357, 358, 359, 360, 371, 372, 373, 374, 375, 376, 377, 378] (by decide +kernel) (by decide +kernel)
set_option maxRecDepth 20000 in
theorem gL_law_X3_init_ : GoodIn wsL_law (wsV RL 21 RX3 yX3_init_ wsX3_init_) := goodIn_app (goodIn_of _ (by decide +kernel)) ggL_law_X3_init_
set_option maxRecDepth 20000 in
theorem ggL_law_X4_init_ : GoodIn wsL_law wsX4_init_ := goodIn_r _ [90, 91, 361, 362, 363, 364, 365, 366, 367, 368] (by decide +kernel) (by decide +kernel)
set_option maxRecDepth 20000 in
theorem gL_law_X4_init_ : GoodIn wsL_law (wsV RL 25 RX4 yX4_init_ wsX4_init_) := goodIn_app (goodIn_of _ (by decide +kernel)) ggL_law_X4_init_
set_option maxRecDepth 20000 in
theorem ggL_law_X3_clear : GoodIn wsL_law wsX3_clear := goodIn_r _ [95, 21, 22, 23, 36, 96, 97, 98, 20, 99, 42, 351, 352, 353, 354, 355, 356, 357, 358, 359, 360, 369, 370] (by decide +kernel) (by decide +kernel)
set_option maxRecDepth 20000 in
theorem gL_law_X3_clear : GoodIn wsL_law (wsV RL 26 RX3 yX3_clear wsX3_clear) := goodIn_app (goodIn_of _ (by decide +kernel)) ggL_law_X3_clear
set_option maxRecDepth 20000 in
theorem ggL_law_X4_clear : GoodIn wsL_law wsX4_clear := goodIn_r _ [103, 64, 104, 105, 361, 362, 363, 364, 365, 366, 367, 368] (by decide +kernel) (by decide +kernel)
set_option maxRecDepth 20000 in
theorem gL_law_X4_clear : GoodIn wsL_law (wsV RL 29 RX4 yX4_clear wsX4_clear) := goodIn_app (goodIn_of _ (by decide +kernel)) ggL_law_X4_clear
set_option maxRecDepth 20000 in
theorem ggL_law_X3_feedA : GoodIn wsL_law wsX3_feedA := goodIn_r _ [109, 21, 110, 111, 112, 20, 113, 114, 41, 42, 115, 116, 117, 118, 119, 120, 121, 351, 352, 353, 354, 355, 356, 357, 358, 359, 360, 369, 370] (by decide +kernel) (by decide +kernel)
set_option maxRecDepth 20000 in
theorem gL_law_X3_feedA : GoodIn wsL_law (wsV RL 30 RX3 yX3_feedA wsX3_feedA) := goodIn_app (goodIn_of _ (by decide +kernel)) ggL_law_X3_feedA
set_option maxRecDepth 20000 in
theorem ggL_law_X4_feedA : GoodIn wsL_law wsX4_feedA := goodIn_r _ [125, 126, 127, 128, 5, 129, 67, 64, 63, 130, 131, 132, 133, 134, 135, 136, 361, 362, 363, 364, 365, 366, 367, 368] (by decide +kernel) (by decide +kernel)
set_option maxRecDepth 20000 in
theorem gL_law_X4_feedA : GoodIn wsL_law (wsV RL 34 RX4 yX4_feedA wsX4_feedA) := goodIn_app (goodIn_of _ (by decide +kernel)) ggL_law_X4_feedA
set_option maxRecDepth 20000 in
theorem ggL_law_X3_feedB : GoodIn wsL_law wsX3_feedB := goodIn_r _ [140, 22, 110, 111, 112, 20, 113, 114, 41, 42, 115, 116, 117, 118, 119, 120, 121, 351, 352, 353, 354, 355, 356, 357, 358, 359, 360, 369, 370] (by decide +kernel) (by decide +kernel)
set_option maxRecDepth 20000 in
theorem gL_law_X3_feedB : GoodIn wsL_law (wsV RL 35 RX3 yX3_feedB wsX3_feedB) := goodIn_app (goodIn_of _ (by decide +kernel)) ggL_law_X3_feedB
set_option maxRecDepth 20000 in
theorem ggL_law_X4_feedB : GoodIn wsL_law wsX4_feedB := goodIn_r _ [144, 126, 127, 128, 5, 129, 67, 64, 63, 130, 131, 132, 133, 134, 135, 136, 361, 362, 363, 364, 365, 366, 367, 368] (by decide +kernel) (by decide +kernel)
set_option maxRecDepth 20000 in
theorem gL_law_X4_feedB : GoodIn wsL_law (wsV RL 38 RX4 yX4_feedB wsX4_feedB) := goodIn_app (goodIn_of _ (by decide +kernel)) ggL_law_X4_feedB
set_option maxRecDepth 20000 in
theorem ggL_law_X3_repeat : GoodIn wsL_law wsX3_repeat := goodIn_r _ [148, 149, 150, 2, 151, 152, 153, 154, 155, 21, 22, 110, 111, 112, 20, 113, 114, 41, 42, 115, 116, 117, 118, 119, 120, 121, 351, 352, 353, 354, 355, 356, 357, 358, 359, 360, 369, 370] (by decide +kernel) (by decide +kernel)
set_option maxRecDepth 20000 in
theorem gL_law_X3_repeat : GoodIn wsL_law (wsV RL 39 RX3 yX3_repeat wsX3_repeat) := goodIn_app (goodIn_of _ (by decide +kernel)) ggL_law_X3_repeat
set_option maxRecDepth 20000 in
theorem ggL_law_X4_repeat : GoodIn wsL_law wsX4_repeat := goodIn_r _ [129, 67, 64, 63, 130, 131, 5, 132, 133, 134, 135, 136, 361, 362, 363, 364, 365, 366, 367, 368] (by decide +kernel) (by decide +kernel)
set_option maxRecDepth 20000 in
theorem gL_law_X4_repeat : GoodIn wsL_law (wsV RL 43 RX4 yX4_repeat wsX4_repeat) := goodIn_app (goodIn_of _ (by decide +kernel)) ggL_law_X4_repeat
set_option maxRecDepth 20000 in
theorem ggL_law_X3_multiply : GoodIn wsL_law wsX3_multiply := goodIn_r _ [160, 21, 22, 35, 16, 26, 34, 17, 36, 161, 162, 163, 20, 164, 42, 165, 166, 167, 28, 168, 51, 169, 170, 171, 172, 41, 173, 174, 175, 176, 115, 116, 117, 118, 119, 120, 121, 177, 178, 179, 180, 48, 181, 182, 183, 184, 49, 47, 50, 185, 186, 187, 188, 189, 190, 191, 192, 193, 194, 195, 196, 197, 198, 199, 2, 200, 23, 32, 201, 96, 97, 98, 99, 202, 203, 204, 205, 52, 206, 207, 208, 31, 209, 57, 58, 210, 211, 212, 213, 110, 111, 112, 113, 114, 214, 215, 216, 217, 218, 219, 220, 221, 351, 352, 353, 354, 355, 356, 357, 358, 359, 360, 369, 370, 371, 372, 373, 374, 375, 376, 377, 378] (by decide +kernel) (by decide +kernel)
set_option maxRecDepth 20000 in
theorem gL_law_X3_multiply : GoodIn wsL_law (wsV RL 44 RX3 yX3_multiply wsX3_multiply) := goodIn_app (goodIn_of _ (by decide +kernel)) ggL_law_X3_multiply
set_option maxRecDepth 20000 in
theorem ggL_law_X4_multiply : GoodIn wsL_law wsX4_multiply := goodIn_r _ [225, 91, 64, 67, 226, 227, 228, 5, 229, 104, 65, 63, 230, 66, 105, 231, 232, 233, 234, 361, 362, 363, 364, 365, 366, 367, 368] (by decide +kernel) (by decide +kernel)
set_option maxRecDepth 20000 in
theorem gL_law_X4_multiply : GoodIn wsL_law (wsV RL 47 RX4 yX4_multiply wsX4_multiply) := goodIn_app (goodIn_of _ (by decide +kernel)) ggL_law_X4_multiply
set_option maxRecDepth 20000 in
theorem ggL_law_X3_square : GoodIn wsL_law wsX3_square := goodIn_r _ [238, 21, 35, 16, 26, 17, 36, 161, 162, 163, 20, 164, 42, 239, 240, 241, 28, 242, 51, 169, 170, 171, 172, 41, 173, 174, 175, 176, 115, 116, 117, 118, 119, 120, 121, 177, 178, 179, 180, 48, 181, 182, 183, 184, 49, 47, 50, 185, 186, 187, 188, 189, 190, 191, 192, 193, 194, 195, 196, 197, 198, 199, 2, 200, 23, 32, 201, 96, 97, 98, 99, 202, 203, 204, 205, 52, 206, 207, 208, 31, 209, 57, 58, 210, 211, 212, 213, 110, 111, 112, 113, 114, 214, 215, 216, 217, 218, 219, 220, 221, 351, 352, 353, 354, 355, 356, 357, 358, 359, 360, 369, 370, 371, 372, 373, 374, 375, 376, 377, 378] (by decide +kernel) (by decide +kernel)
set_option maxRecDepth 20000 in
theorem gL_law_X3_square : GoodIn wsL_law (wsV RL 48 RX3 yX3_square wsX3_square) := goodIn_app (goodIn_of _ (by decide +kernel)) ggL_law_X3_square
set_option maxRecDepth 20000 in
theorem ggL_law_X4_square : GoodIn wsL_law wsX4_square := goodIn_r _ [246, 91, 64, 67, 226, 227, 228, 5, 229, 104, 65, 63, 230, 66, 105, 231, 232, 233, 234, 361, 362, 363, 364, 365, 366, 367, 368] (by decide +kernel) (by decide +kernel)
set_option maxRecDepth 20000 in
theorem gL_law_X4_square : GoodIn wsL_law (wsV RL 51 RX4 yX4_square wsX4_square) := goodIn_app (goodIn_of _ (by decide +kernel)) ggL_law_X4_square
set_option maxRecDepth 20000 in
theorem ggL_law_X3_length : GoodIn wsL_law wsX3_length := goodIn_r _ [250, 23, 161, 162, 163, 20, 164, 42, 351, 352, 353, 354, 355, 356, 357, 358, 359, 360, 369, 370] (by decide +kernel) (by decide +kernel)
set_option maxRecDepth 20000 in
theorem gL_law_X3_length : GoodIn wsL_law (wsV RL 52 RX3 yX3_length wsX3_length) := goodIn_app (goodIn_of _ (by decide +kernel)) ggL_law_X3_length
set_option maxRecDepth 20000 in
theorem ggL_law_X4_length : GoodIn wsL_law wsX4_length := goodIn_r _ [254, 104, 361, 362, 363, 364, 365, 366, 367, 368] (by decide +kernel) (by decide +kernel)
set_option maxRecDepth 20000 in
theorem gL_law_X4_length : GoodIn wsL_law (wsV RL 56 RX4 yX4_length wsX4_length) := goodIn_app (goodIn_of _ (by decide +kernel)) ggL_law_X4_length
set_option maxRecDepth 20000 in
theorem ggL_law_X3_digit : GoodIn wsL_law wsX3_digit := goodIn_r _ [258, 23, 161, 162, 163, 20, 164, 42, 259, 260, 261, 262, 41, 351, 352, 353, 354, 355, 356, 357, 358, 359, 360, 369, 370] (by decide +kernel) (by decide +kernel)
set_option maxRecDepth 20000 in
theorem gL_law_X3_digit : GoodIn wsL_law (wsV RL 57 RX3 yX3_digit wsX3_digit) := goodIn_app (goodIn_of _ (by decide +kernel)) ggL_law_X3_digit
set_option maxRecDepth 20000 in
theorem ggL_law_X4_digit : GoodIn wsL_law wsX4_digit := goodIn_r _ [266, 104, 65, 361, 362, 363, 364, 365, 366, 367, 368] (by decide +kernel) (by decide +kernel)
set_option maxRecDepth 20000 in
theorem gL_law_X4_digit : GoodIn wsL_law (wsV RL 61 RX4 yX4_digit wsX4_digit) := goodIn_app (goodIn_of _ (by decide +kernel)) ggL_law_X4_digit
set_option maxRecDepth 20000 in
theorem ggL_law_X3_butterflies : GoodIn wsL_law wsX3_butterflies := goodIn_r _ [270, 36, 351, 352, 353, 354, 355, 356, 357, 358, 359, 360] (by decide +kernel) (by decide +kernel)
set_option maxRecDepth 20000 in
theorem gL_law_X3_butterflies : GoodIn wsL_law (wsV RL 62 RX3 yX3_butterflies wsX3_butterflies) := goodIn_app (goodIn_of _ (by decide +kernel)) ggL_law_X3_butterflies
set_option maxRecDepth 20000 in
theorem ggL_law_X4_butterflies : GoodIn wsL_law wsX4_butterflies := goodIn_r _ [274, 105, 361, 362, 363, 364, 365, 366, 367, 368] (by decide +kernel) (by decide +kernel)
set_option maxRecDepth 20000 in
theorem gL_law_X4_butterflies : GoodIn wsL_law (wsV RL 65 RX4 yX4_butterflies wsX4_butterflies) := goodIn_app (goodIn_of _ (by decide +kernel)) ggL_law_X4_butterflies
set_option maxRecDepth 20000 in
theorem ggL_law_X3_spectrum : GoodIn wsL_law wsX3_spectrum := goodIn_r _ [278, 35, 26, 16, 149, 150, 2, 151, 152, 153, 154, 155, 21, 22, 279, 280, 281, 28, 282, 50, 47, 283, 162, 163, 20, 164, 42, 284, 260, 261, 262, 41, 351, 352, 353, 354, 355, 356, 357, 358, 359, 360, 371, 372, 373, 374, 375, 376, 369, 370] (by decide +kernel) (by decide +kernel)
set_option maxRecDepth 20000 in
theorem gL_law_X3_spectrum : GoodIn wsL_law (wsV RL 66 RX3 yX3_spectrum wsX3_spectrum) := goodIn_app (goodIn_of _ (by decide +kernel)) ggL_law_X3_spectrum
set_option maxRecDepth 20000 in
theorem ggL_law_X4_spectrum : GoodIn wsL_law wsX4_spectrum := goodIn_r _ [288, 91, 67, 289, 64, 63, 130, 131, 5, 132, 290, 291, 292, 293, 294, 295, 296, 297, 298, 299, 361, 362, 363, 364, 365, 366, 367, 368] (by decide +kernel) (by decide +kernel)
set_option maxRecDepth 20000 in
theorem gL_law_X4_spectrum : GoodIn wsL_law (wsV RL 70 RX4 yX4_spectrum wsX4_spectrum) := goodIn_app (goodIn_of _ (by decide +kernel)) ggL_law_X4_spectrum
set_option maxRecDepth 20000 in
theorem ggL_law_X3_take : GoodIn wsL_law wsX3_take := goodIn_r _ [303, 23, 149, 150, 2, 151, 152, 153, 154, 155, 21, 22, 304, 305, 306, 20, 307, 41, 42, 173, 174, 175, 176, 214, 215, 216, 217, 218, 219, 220, 221, 351, 352, 353, 354, 355, 356, 357, 358, 359, 360, 369, 370] (by decide +kernel) (by decide +kernel)
set_option maxRecDepth 20000 in
theorem gL_law_X3_take : GoodIn wsL_law (wsV RL 71 RX3 yX3_take wsX3_take) := goodIn_app (goodIn_of _ (by decide +kernel)) ggL_law_X3_take
set_option maxRecDepth 20000 in
theorem ggL_law_X4_take : GoodIn wsL_law wsX4_take := goodIn_r _ [311, 64, 104, 65, 63, 130, 131, 5, 132, 231, 232, 233, 234, 361, 362, 363, 364, 365, 366, 367, 368] (by decide +kernel) (by decide +kernel)
set_option maxRecDepth 20000 in
theorem gL_law_X4_take : GoodIn wsL_law (wsV RL 74 RX4 yX4_take wsX4_take) := goodIn_app (goodIn_of _ (by decide +kernel)) ggL_law_X4_take
set_option maxRecDepth 20000 in
theorem ggL_law_X3_give : GoodIn wsL_law wsX3_give := goodIn_r _ [315, 23, 149, 150, 2, 151, 152, 153, 154, 155, 21, 22, 304, 305, 306, 20, 307, 41, 42, 173, 174, 175, 176, 351, 352, 353, 354, 355, 356, 357, 358, 359, 360, 369, 370] (by decide +kernel) (by decide +kernel)
set_option maxRecDepth 20000 in
theorem gL_law_X3_give : GoodIn wsL_law (wsV RL 75 RX3 yX3_give wsX3_give) := goodIn_app (goodIn_of _ (by decide +kernel)) ggL_law_X3_give
set_option maxRecDepth 20000 in
theorem ggL_law_X4_give : GoodIn wsL_law wsX4_give := goodIn_r _ [319, 64, 104, 63, 65, 130, 131, 5, 132, 361, 362, 363, 364, 365, 366, 367, 368] (by decide +kernel) (by decide +kernel)
set_option maxRecDepth 20000 in
theorem gL_law_X4_give : GoodIn wsL_law (wsV RL 78 RX4 yX4_give wsX4_give) := goodIn_app (goodIn_of _ (by decide +kernel)) ggL_law_X4_give
set_option maxRecDepth 20000 in
theorem ggL_law_X3_compare : GoodIn wsL_law wsX3_compare := goodIn_r _ [323, 21, 22, 324, 325, 326, 20, 327, 41, 218, 219, 220, 221, 42, 351, 352, 353, 354, 355, 356, 357, 358, 359, 360, 369, 370] (by decide +kernel) (by decide +kernel)
set_option maxRecDepth 20000 in
theorem gL_law_X3_compare : GoodIn wsL_law (wsV RL 79 RX3 yX3_compare wsX3_compare) := goodIn_app (goodIn_of _ (by decide +kernel)) ggL_law_X3_compare
set_option maxRecDepth 20000 in
theorem ggL_law_X4_compare : GoodIn wsL_law wsX4_compare := goodIn_r _ [331, 67, 332, 333, 334, 5, 335, 64, 63, 361, 362, 363, 364, 365, 366, 367, 368] (by decide +kernel) (by decide +kernel)
set_option maxRecDepth 20000 in
theorem gL_law_X4_compare : GoodIn wsL_law (wsV RL 82 RX4 yX4_compare wsX4_compare) := goodIn_app (goodIn_of _ (by decide +kernel)) ggL_law_X4_compare
set_option maxRecDepth 20000 in
theorem ggL_law_X3_rest : GoodIn wsL_law wsX3_rest := goodIn_r _ [339, 340, 23, 341, 342, 343, 20, 344, 42, 345, 41, 351, 352, 353, 354, 355, 356, 357, 358, 359, 360, 369, 370] (by decide +kernel) (by decide +kernel)
set_option maxRecDepth 20000 in
theorem gL_law_X3_rest : GoodIn wsL_law (wsV RL 83 RX3 yX3_rest wsX3_rest) := goodIn_app (goodIn_of _ (by decide +kernel)) ggL_law_X3_rest
set_option maxRecDepth 20000 in
theorem ggL_law_X4_rest : GoodIn wsL_law wsX4_rest := goodIn_r _ [349, 350, 104, 230, 65, 361, 362, 363, 364, 365, 366, 367, 368] (by decide +kernel) (by decide +kernel)
set_option maxRecDepth 20000 in
theorem gL_law_X4_rest : GoodIn wsL_law (wsV RL 86 RX4 yX4_rest wsX4_rest) := goodIn_app (goodIn_of _ (by decide +kernel)) ggL_law_X4_rest
theorem dL_law_0 : decode cL_law 0 = .ok (.new 7, 3) := by decide +kernel
theorem dL_law_3 : decode cL_law 3 = .ok (.dup, 1) := by decide +kernel
theorem dL_law_4 : decode cL_law 4 = .ok (.aload_n 0, 1) := by decide +kernel
theorem dL_law_5 : decode cL_law 5 = .ok (.iconst 0, 1) := by decide +kernel
theorem dL_law_6 : decode cL_law 6 = .ok (.invokestatic 9, 3) := by decide +kernel
theorem dL_law_9 : decode cL_law 9 = .ok (.invokespecial 15, 3) := by decide +kernel
theorem dL_law_12 : decode cL_law 12 = .ok (.astore_n 1, 1) := by decide +kernel
theorem dL_law_13 : decode cL_law 13 = .ok (.new 18, 3) := by decide +kernel
theorem dL_law_16 : decode cL_law 16 = .ok (.dup, 1) := by decide +kernel
theorem dL_law_17 : decode cL_law 17 = .ok (.aload_n 0, 1) := by decide +kernel
theorem dL_law_18 : decode cL_law 18 = .ok (.iconst 0, 1) := by decide +kernel
theorem dL_law_19 : decode cL_law 19 = .ok (.invokestatic 9, 3) := by decide +kernel
theorem dL_law_22 : decode cL_law 22 = .ok (.invokespecial 20, 3) := by decide +kernel
theorem dL_law_25 : decode cL_law 25 = .ok (.astore_n 2, 1) := by decide +kernel
theorem dL_law_26 : decode cL_law 26 = .ok (.iconst 1, 1) := by decide +kernel
theorem dL_law_27 : decode cL_law 27 = .ok (.istore_n 3, 1) := by decide +kernel
theorem dL_law_28 : decode cL_law 28 = .ok (.iload_n 3, 1) := by decide +kernel
theorem dL_law_29 : decode cL_law 29 = .ok (.aload_n 0, 1) := by decide +kernel
theorem dL_law_30 : decode cL_law 30 = .ok (.arraylength, 1) := by decide +kernel
theorem dL_law_31 : decode cL_law 31 = .ok (.iconst 4, 1) := by decide +kernel
theorem dL_law_32 : decode cL_law 32 = .ok (.isub, 1) := by decide +kernel
theorem dL_law_33 : decode cL_law 33 = .ok (.if_icmp .gt 402, 3) := by decide +kernel
theorem dL_law_36 : decode cL_law 36 = .ok (.aload_n 0, 1) := by decide +kernel
theorem dL_law_37 : decode cL_law 37 = .ok (.iload_n 3, 1) := by decide +kernel
theorem dL_law_38 : decode cL_law 38 = .ok (.iaload, 1) := by decide +kernel
theorem dL_law_39 : decode cL_law 39 = .ok (.bipush 15, 2) := by decide +kernel
theorem dL_law_41 : decode cL_law 41 = .ok (.iand, 1) := by decide +kernel
theorem dL_law_42 : decode cL_law 42 = .ok (.tableswitch 387 0 14 #[74, 87, 98, 121, 144, 187, 200, 213, 226, 249, 262, 305, 328, 351, 364], 74) := by decide +kernel
theorem dL_law_116 : decode cL_law 116 = .ok (.aload_n 1, 1) := by decide +kernel
theorem dL_law_117 : decode cL_law 117 = .ok (.invokevirtual 21, 3) := by decide +kernel
theorem dL_law_120 : decode cL_law 120 = .ok (.aload_n 2, 1) := by decide +kernel
theorem dL_law_121 : decode cL_law 121 = .ok (.invokevirtual 25, 3) := by decide +kernel
theorem dL_law_124 : decode cL_law 124 = .ok (.if_icmp .eq 305, 3) := by decide +kernel
theorem dL_law_127 : decode cL_law 127 = .ok (.iconst 0, 1) := by decide +kernel
theorem dL_law_128 : decode cL_law 128 = .ok (.ireturn, 1) := by decide +kernel
theorem dL_law_129 : decode cL_law 129 = .ok (.aload_n 1, 1) := by decide +kernel
theorem dL_law_130 : decode cL_law 130 = .ok (.invokevirtual 26, 3) := by decide +kernel
theorem dL_law_133 : decode cL_law 133 = .ok (.aload_n 2, 1) := by decide +kernel
theorem dL_law_134 : decode cL_law 134 = .ok (.invokevirtual 29, 3) := by decide +kernel
theorem dL_law_137 : decode cL_law 137 = .ok (.goto 292, 3) := by decide +kernel
theorem dL_law_140 : decode cL_law 140 = .ok (.aload_n 1, 1) := by decide +kernel
theorem dL_law_141 : decode cL_law 141 = .ok (.aload_n 0, 1) := by decide +kernel
theorem dL_law_142 : decode cL_law 142 = .ok (.iload_n 3, 1) := by decide +kernel
theorem dL_law_143 : decode cL_law 143 = .ok (.iconst 1, 1) := by decide +kernel
theorem dL_law_144 : decode cL_law 144 = .ok (.iadd, 1) := by decide +kernel
theorem dL_law_145 : decode cL_law 145 = .ok (.iaload, 1) := by decide +kernel
theorem dL_law_146 : decode cL_law 146 = .ok (.invokevirtual 30, 3) := by decide +kernel
theorem dL_law_149 : decode cL_law 149 = .ok (.aload_n 2, 1) := by decide +kernel
theorem dL_law_150 : decode cL_law 150 = .ok (.aload_n 0, 1) := by decide +kernel
theorem dL_law_151 : decode cL_law 151 = .ok (.iload_n 3, 1) := by decide +kernel
theorem dL_law_152 : decode cL_law 152 = .ok (.iconst 1, 1) := by decide +kernel
theorem dL_law_153 : decode cL_law 153 = .ok (.iadd, 1) := by decide +kernel
theorem dL_law_154 : decode cL_law 154 = .ok (.iaload, 1) := by decide +kernel
theorem dL_law_155 : decode cL_law 155 = .ok (.invokevirtual 34, 3) := by decide +kernel
theorem dL_law_158 : decode cL_law 158 = .ok (.if_icmp .eq 271, 3) := by decide +kernel
theorem dL_law_161 : decode cL_law 161 = .ok (.iconst 0, 1) := by decide +kernel
theorem dL_law_162 : decode cL_law 162 = .ok (.ireturn, 1) := by decide +kernel
theorem dL_law_163 : decode cL_law 163 = .ok (.aload_n 1, 1) := by decide +kernel
theorem dL_law_164 : decode cL_law 164 = .ok (.aload_n 0, 1) := by decide +kernel
theorem dL_law_165 : decode cL_law 165 = .ok (.iload_n 3, 1) := by decide +kernel
theorem dL_law_166 : decode cL_law 166 = .ok (.iconst 1, 1) := by decide +kernel
theorem dL_law_167 : decode cL_law 167 = .ok (.iadd, 1) := by decide +kernel
theorem dL_law_168 : decode cL_law 168 = .ok (.iaload, 1) := by decide +kernel
theorem dL_law_169 : decode cL_law 169 = .ok (.invokevirtual 35, 3) := by decide +kernel
theorem dL_law_172 : decode cL_law 172 = .ok (.aload_n 2, 1) := by decide +kernel
theorem dL_law_173 : decode cL_law 173 = .ok (.aload_n 0, 1) := by decide +kernel
theorem dL_law_174 : decode cL_law 174 = .ok (.iload_n 3, 1) := by decide +kernel
theorem dL_law_175 : decode cL_law 175 = .ok (.iconst 1, 1) := by decide +kernel
theorem dL_law_176 : decode cL_law 176 = .ok (.iadd, 1) := by decide +kernel
theorem dL_law_177 : decode cL_law 177 = .ok (.iaload, 1) := by decide +kernel
theorem dL_law_178 : decode cL_law 178 = .ok (.invokevirtual 38, 3) := by decide +kernel
theorem dL_law_181 : decode cL_law 181 = .ok (.if_icmp .eq 248, 3) := by decide +kernel
theorem dL_law_184 : decode cL_law 184 = .ok (.iconst 0, 1) := by decide +kernel
theorem dL_law_185 : decode cL_law 185 = .ok (.ireturn, 1) := by decide +kernel
theorem dL_law_186 : decode cL_law 186 = .ok (.aload_n 1, 1) := by decide +kernel
theorem dL_law_187 : decode cL_law 187 = .ok (.aload_n 0, 1) := by decide +kernel
theorem dL_law_188 : decode cL_law 188 = .ok (.iload_n 3, 1) := by decide +kernel
theorem dL_law_189 : decode cL_law 189 = .ok (.iconst 1, 1) := by decide +kernel
theorem dL_law_190 : decode cL_law 190 = .ok (.iadd, 1) := by decide +kernel
theorem dL_law_191 : decode cL_law 191 = .ok (.iaload, 1) := by decide +kernel
theorem dL_law_192 : decode cL_law 192 = .ok (.aload_n 0, 1) := by decide +kernel
theorem dL_law_193 : decode cL_law 193 = .ok (.iload_n 3, 1) := by decide +kernel
theorem dL_law_194 : decode cL_law 194 = .ok (.iconst 2, 1) := by decide +kernel
theorem dL_law_195 : decode cL_law 195 = .ok (.iadd, 1) := by decide +kernel
theorem dL_law_196 : decode cL_law 196 = .ok (.iaload, 1) := by decide +kernel
theorem dL_law_197 : decode cL_law 197 = .ok (.aload_n 0, 1) := by decide +kernel
theorem dL_law_198 : decode cL_law 198 = .ok (.iload_n 3, 1) := by decide +kernel
theorem dL_law_199 : decode cL_law 199 = .ok (.iconst 3, 1) := by decide +kernel
theorem dL_law_200 : decode cL_law 200 = .ok (.iadd, 1) := by decide +kernel
theorem dL_law_201 : decode cL_law 201 = .ok (.iaload, 1) := by decide +kernel
theorem dL_law_202 : decode cL_law 202 = .ok (.invokevirtual 39, 3) := by decide +kernel
theorem dL_law_205 : decode cL_law 205 = .ok (.aload_n 2, 1) := by decide +kernel
theorem dL_law_206 : decode cL_law 206 = .ok (.aload_n 0, 1) := by decide +kernel
theorem dL_law_207 : decode cL_law 207 = .ok (.iload_n 3, 1) := by decide +kernel
theorem dL_law_208 : decode cL_law 208 = .ok (.iconst 1, 1) := by decide +kernel
theorem dL_law_209 : decode cL_law 209 = .ok (.iadd, 1) := by decide +kernel
theorem dL_law_210 : decode cL_law 210 = .ok (.iaload, 1) := by decide +kernel
theorem dL_law_211 : decode cL_law 211 = .ok (.aload_n 0, 1) := by decide +kernel
theorem dL_law_212 : decode cL_law 212 = .ok (.iload_n 3, 1) := by decide +kernel
theorem dL_law_213 : decode cL_law 213 = .ok (.iconst 2, 1) := by decide +kernel
theorem dL_law_214 : decode cL_law 214 = .ok (.iadd, 1) := by decide +kernel
theorem dL_law_215 : decode cL_law 215 = .ok (.iaload, 1) := by decide +kernel
theorem dL_law_216 : decode cL_law 216 = .ok (.aload_n 0, 1) := by decide +kernel
theorem dL_law_217 : decode cL_law 217 = .ok (.iload_n 3, 1) := by decide +kernel
theorem dL_law_218 : decode cL_law 218 = .ok (.iconst 3, 1) := by decide +kernel
theorem dL_law_219 : decode cL_law 219 = .ok (.iadd, 1) := by decide +kernel
theorem dL_law_220 : decode cL_law 220 = .ok (.iaload, 1) := by decide +kernel
theorem dL_law_221 : decode cL_law 221 = .ok (.invokevirtual 43, 3) := by decide +kernel
theorem dL_law_224 : decode cL_law 224 = .ok (.if_icmp .eq 205, 3) := by decide +kernel
theorem dL_law_227 : decode cL_law 227 = .ok (.iconst 0, 1) := by decide +kernel
theorem dL_law_228 : decode cL_law 228 = .ok (.ireturn, 1) := by decide +kernel
theorem dL_law_229 : decode cL_law 229 = .ok (.aload_n 1, 1) := by decide +kernel
theorem dL_law_230 : decode cL_law 230 = .ok (.invokevirtual 44, 3) := by decide +kernel
theorem dL_law_233 : decode cL_law 233 = .ok (.aload_n 2, 1) := by decide +kernel
theorem dL_law_234 : decode cL_law 234 = .ok (.invokevirtual 47, 3) := by decide +kernel
theorem dL_law_237 : decode cL_law 237 = .ok (.if_icmp .eq 192, 3) := by decide +kernel
theorem dL_law_240 : decode cL_law 240 = .ok (.iconst 0, 1) := by decide +kernel
theorem dL_law_241 : decode cL_law 241 = .ok (.ireturn, 1) := by decide +kernel
theorem dL_law_242 : decode cL_law 242 = .ok (.aload_n 1, 1) := by decide +kernel
theorem dL_law_243 : decode cL_law 243 = .ok (.invokevirtual 48, 3) := by decide +kernel
theorem dL_law_246 : decode cL_law 246 = .ok (.aload_n 2, 1) := by decide +kernel
theorem dL_law_247 : decode cL_law 247 = .ok (.invokevirtual 51, 3) := by decide +kernel
theorem dL_law_250 : decode cL_law 250 = .ok (.if_icmp .eq 179, 3) := by decide +kernel
theorem dL_law_253 : decode cL_law 253 = .ok (.iconst 0, 1) := by decide +kernel
theorem dL_law_254 : decode cL_law 254 = .ok (.ireturn, 1) := by decide +kernel
theorem dL_law_255 : decode cL_law 255 = .ok (.aload_n 1, 1) := by decide +kernel
theorem dL_law_256 : decode cL_law 256 = .ok (.invokevirtual 52, 3) := by decide +kernel
theorem dL_law_259 : decode cL_law 259 = .ok (.aload_n 2, 1) := by decide +kernel
theorem dL_law_260 : decode cL_law 260 = .ok (.invokevirtual 56, 3) := by decide +kernel
theorem dL_law_263 : decode cL_law 263 = .ok (.if_icmp .eq 166, 3) := by decide +kernel
theorem dL_law_266 : decode cL_law 266 = .ok (.iconst 0, 1) := by decide +kernel
theorem dL_law_267 : decode cL_law 267 = .ok (.ireturn, 1) := by decide +kernel
theorem dL_law_268 : decode cL_law 268 = .ok (.aload_n 1, 1) := by decide +kernel
theorem dL_law_269 : decode cL_law 269 = .ok (.aload_n 0, 1) := by decide +kernel
theorem dL_law_270 : decode cL_law 270 = .ok (.iload_n 3, 1) := by decide +kernel
theorem dL_law_271 : decode cL_law 271 = .ok (.iconst 1, 1) := by decide +kernel
theorem dL_law_272 : decode cL_law 272 = .ok (.iadd, 1) := by decide +kernel
theorem dL_law_273 : decode cL_law 273 = .ok (.iaload, 1) := by decide +kernel
theorem dL_law_274 : decode cL_law 274 = .ok (.invokevirtual 57, 3) := by decide +kernel
theorem dL_law_277 : decode cL_law 277 = .ok (.aload_n 2, 1) := by decide +kernel
theorem dL_law_278 : decode cL_law 278 = .ok (.aload_n 0, 1) := by decide +kernel
theorem dL_law_279 : decode cL_law 279 = .ok (.iload_n 3, 1) := by decide +kernel
theorem dL_law_280 : decode cL_law 280 = .ok (.iconst 1, 1) := by decide +kernel
theorem dL_law_281 : decode cL_law 281 = .ok (.iadd, 1) := by decide +kernel
theorem dL_law_282 : decode cL_law 282 = .ok (.iaload, 1) := by decide +kernel
theorem dL_law_283 : decode cL_law 283 = .ok (.invokevirtual 61, 3) := by decide +kernel
theorem dL_law_286 : decode cL_law 286 = .ok (.if_icmp .eq 143, 3) := by decide +kernel
theorem dL_law_289 : decode cL_law 289 = .ok (.iconst 0, 1) := by decide +kernel
theorem dL_law_290 : decode cL_law 290 = .ok (.ireturn, 1) := by decide +kernel
theorem dL_law_291 : decode cL_law 291 = .ok (.aload_n 1, 1) := by decide +kernel
theorem dL_law_292 : decode cL_law 292 = .ok (.invokevirtual 62, 3) := by decide +kernel
theorem dL_law_295 : decode cL_law 295 = .ok (.aload_n 2, 1) := by decide +kernel
theorem dL_law_296 : decode cL_law 296 = .ok (.invokevirtual 65, 3) := by decide +kernel
theorem dL_law_299 : decode cL_law 299 = .ok (.if_icmp .eq 130, 3) := by decide +kernel
theorem dL_law_302 : decode cL_law 302 = .ok (.iconst 0, 1) := by decide +kernel
theorem dL_law_303 : decode cL_law 303 = .ok (.ireturn, 1) := by decide +kernel
theorem dL_law_304 : decode cL_law 304 = .ok (.aload_n 1, 1) := by decide +kernel
theorem dL_law_305 : decode cL_law 305 = .ok (.aload_n 0, 1) := by decide +kernel
theorem dL_law_306 : decode cL_law 306 = .ok (.iload_n 3, 1) := by decide +kernel
theorem dL_law_307 : decode cL_law 307 = .ok (.iconst 1, 1) := by decide +kernel
theorem dL_law_308 : decode cL_law 308 = .ok (.iadd, 1) := by decide +kernel
theorem dL_law_309 : decode cL_law 309 = .ok (.iaload, 1) := by decide +kernel
theorem dL_law_310 : decode cL_law 310 = .ok (.aload_n 0, 1) := by decide +kernel
theorem dL_law_311 : decode cL_law 311 = .ok (.iload_n 3, 1) := by decide +kernel
theorem dL_law_312 : decode cL_law 312 = .ok (.iconst 2, 1) := by decide +kernel
theorem dL_law_313 : decode cL_law 313 = .ok (.iadd, 1) := by decide +kernel
theorem dL_law_314 : decode cL_law 314 = .ok (.iaload, 1) := by decide +kernel
theorem dL_law_315 : decode cL_law 315 = .ok (.aload_n 0, 1) := by decide +kernel
theorem dL_law_316 : decode cL_law 316 = .ok (.iload_n 3, 1) := by decide +kernel
theorem dL_law_317 : decode cL_law 317 = .ok (.iconst 3, 1) := by decide +kernel
theorem dL_law_318 : decode cL_law 318 = .ok (.iadd, 1) := by decide +kernel
theorem dL_law_319 : decode cL_law 319 = .ok (.iaload, 1) := by decide +kernel
theorem dL_law_320 : decode cL_law 320 = .ok (.invokevirtual 66, 3) := by decide +kernel
theorem dL_law_323 : decode cL_law 323 = .ok (.aload_n 2, 1) := by decide +kernel
theorem dL_law_324 : decode cL_law 324 = .ok (.aload_n 0, 1) := by decide +kernel
theorem dL_law_325 : decode cL_law 325 = .ok (.iload_n 3, 1) := by decide +kernel
theorem dL_law_326 : decode cL_law 326 = .ok (.iconst 1, 1) := by decide +kernel
theorem dL_law_327 : decode cL_law 327 = .ok (.iadd, 1) := by decide +kernel
theorem dL_law_328 : decode cL_law 328 = .ok (.iaload, 1) := by decide +kernel
theorem dL_law_329 : decode cL_law 329 = .ok (.aload_n 0, 1) := by decide +kernel
theorem dL_law_330 : decode cL_law 330 = .ok (.iload_n 3, 1) := by decide +kernel
theorem dL_law_331 : decode cL_law 331 = .ok (.iconst 2, 1) := by decide +kernel
theorem dL_law_332 : decode cL_law 332 = .ok (.iadd, 1) := by decide +kernel
theorem dL_law_333 : decode cL_law 333 = .ok (.iaload, 1) := by decide +kernel
theorem dL_law_334 : decode cL_law 334 = .ok (.aload_n 0, 1) := by decide +kernel
theorem dL_law_335 : decode cL_law 335 = .ok (.iload_n 3, 1) := by decide +kernel
theorem dL_law_336 : decode cL_law 336 = .ok (.iconst 3, 1) := by decide +kernel
theorem dL_law_337 : decode cL_law 337 = .ok (.iadd, 1) := by decide +kernel
theorem dL_law_338 : decode cL_law 338 = .ok (.iaload, 1) := by decide +kernel
theorem dL_law_339 : decode cL_law 339 = .ok (.invokevirtual 70, 3) := by decide +kernel
theorem dL_law_342 : decode cL_law 342 = .ok (.if_icmp .eq 87, 3) := by decide +kernel
theorem dL_law_345 : decode cL_law 345 = .ok (.iconst 0, 1) := by decide +kernel
theorem dL_law_346 : decode cL_law 346 = .ok (.ireturn, 1) := by decide +kernel
theorem dL_law_347 : decode cL_law 347 = .ok (.aload_n 1, 1) := by decide +kernel
theorem dL_law_348 : decode cL_law 348 = .ok (.aload_n 0, 1) := by decide +kernel
theorem dL_law_349 : decode cL_law 349 = .ok (.iload_n 3, 1) := by decide +kernel
theorem dL_law_350 : decode cL_law 350 = .ok (.iconst 1, 1) := by decide +kernel
theorem dL_law_351 : decode cL_law 351 = .ok (.iadd, 1) := by decide +kernel
theorem dL_law_352 : decode cL_law 352 = .ok (.iaload, 1) := by decide +kernel
theorem dL_law_353 : decode cL_law 353 = .ok (.invokevirtual 71, 3) := by decide +kernel
theorem dL_law_356 : decode cL_law 356 = .ok (.aload_n 2, 1) := by decide +kernel
theorem dL_law_357 : decode cL_law 357 = .ok (.aload_n 0, 1) := by decide +kernel
theorem dL_law_358 : decode cL_law 358 = .ok (.iload_n 3, 1) := by decide +kernel
theorem dL_law_359 : decode cL_law 359 = .ok (.iconst 1, 1) := by decide +kernel
theorem dL_law_360 : decode cL_law 360 = .ok (.iadd, 1) := by decide +kernel
theorem dL_law_361 : decode cL_law 361 = .ok (.iaload, 1) := by decide +kernel
theorem dL_law_362 : decode cL_law 362 = .ok (.invokevirtual 74, 3) := by decide +kernel
theorem dL_law_365 : decode cL_law 365 = .ok (.if_icmp .eq 64, 3) := by decide +kernel
theorem dL_law_368 : decode cL_law 368 = .ok (.iconst 0, 1) := by decide +kernel
theorem dL_law_369 : decode cL_law 369 = .ok (.ireturn, 1) := by decide +kernel
theorem dL_law_370 : decode cL_law 370 = .ok (.aload_n 1, 1) := by decide +kernel
theorem dL_law_371 : decode cL_law 371 = .ok (.aload_n 0, 1) := by decide +kernel
theorem dL_law_372 : decode cL_law 372 = .ok (.iload_n 3, 1) := by decide +kernel
theorem dL_law_373 : decode cL_law 373 = .ok (.iconst 1, 1) := by decide +kernel
theorem dL_law_374 : decode cL_law 374 = .ok (.iadd, 1) := by decide +kernel
theorem dL_law_375 : decode cL_law 375 = .ok (.iaload, 1) := by decide +kernel
theorem dL_law_376 : decode cL_law 376 = .ok (.invokevirtual 75, 3) := by decide +kernel
theorem dL_law_379 : decode cL_law 379 = .ok (.aload_n 2, 1) := by decide +kernel
theorem dL_law_380 : decode cL_law 380 = .ok (.aload_n 0, 1) := by decide +kernel
theorem dL_law_381 : decode cL_law 381 = .ok (.iload_n 3, 1) := by decide +kernel
theorem dL_law_382 : decode cL_law 382 = .ok (.iconst 1, 1) := by decide +kernel
theorem dL_law_383 : decode cL_law 383 = .ok (.iadd, 1) := by decide +kernel
theorem dL_law_384 : decode cL_law 384 = .ok (.iaload, 1) := by decide +kernel
theorem dL_law_385 : decode cL_law 385 = .ok (.invokevirtual 78, 3) := by decide +kernel
theorem dL_law_388 : decode cL_law 388 = .ok (.if_icmp .eq 41, 3) := by decide +kernel
theorem dL_law_391 : decode cL_law 391 = .ok (.iconst 0, 1) := by decide +kernel
theorem dL_law_392 : decode cL_law 392 = .ok (.ireturn, 1) := by decide +kernel
theorem dL_law_393 : decode cL_law 393 = .ok (.aload_n 1, 1) := by decide +kernel
theorem dL_law_394 : decode cL_law 394 = .ok (.invokevirtual 79, 3) := by decide +kernel
theorem dL_law_397 : decode cL_law 397 = .ok (.aload_n 2, 1) := by decide +kernel
theorem dL_law_398 : decode cL_law 398 = .ok (.invokevirtual 82, 3) := by decide +kernel
theorem dL_law_401 : decode cL_law 401 = .ok (.if_icmp .eq 28, 3) := by decide +kernel
theorem dL_law_404 : decode cL_law 404 = .ok (.iconst 0, 1) := by decide +kernel
theorem dL_law_405 : decode cL_law 405 = .ok (.ireturn, 1) := by decide +kernel
theorem dL_law_406 : decode cL_law 406 = .ok (.aload_n 1, 1) := by decide +kernel
theorem dL_law_407 : decode cL_law 407 = .ok (.aload_n 0, 1) := by decide +kernel
theorem dL_law_408 : decode cL_law 408 = .ok (.iload_n 3, 1) := by decide +kernel
theorem dL_law_409 : decode cL_law 409 = .ok (.iconst 1, 1) := by decide +kernel
theorem dL_law_410 : decode cL_law 410 = .ok (.iadd, 1) := by decide +kernel
theorem dL_law_411 : decode cL_law 411 = .ok (.iaload, 1) := by decide +kernel
theorem dL_law_412 : decode cL_law 412 = .ok (.invokevirtual 83, 3) := by decide +kernel
theorem dL_law_415 : decode cL_law 415 = .ok (.aload_n 2, 1) := by decide +kernel
theorem dL_law_416 : decode cL_law 416 = .ok (.aload_n 0, 1) := by decide +kernel
theorem dL_law_417 : decode cL_law 417 = .ok (.iload_n 3, 1) := by decide +kernel
theorem dL_law_418 : decode cL_law 418 = .ok (.iconst 1, 1) := by decide +kernel
theorem dL_law_419 : decode cL_law 419 = .ok (.iadd, 1) := by decide +kernel
theorem dL_law_420 : decode cL_law 420 = .ok (.iaload, 1) := by decide +kernel
theorem dL_law_421 : decode cL_law 421 = .ok (.invokevirtual 86, 3) := by decide +kernel
theorem dL_law_424 : decode cL_law 424 = .ok (.if_icmp .eq 5, 3) := by decide +kernel
theorem dL_law_427 : decode cL_law 427 = .ok (.iconst 0, 1) := by decide +kernel
theorem dL_law_428 : decode cL_law 428 = .ok (.ireturn, 1) := by decide +kernel
theorem dL_law_429 : decode cL_law 429 = .ok (.iinc 3 4, 3) := by decide +kernel
theorem dL_law_432 : decode cL_law 432 = .ok (.goto (-404), 3) := by decide +kernel
theorem dL_law_435 : decode cL_law 435 = .ok (.iconst 1, 1) := by decide +kernel
theorem dL_law_436 : decode cL_law 436 = .ok (.ireturn, 1) := by decide +kernel
abbrev vwCl : List vw_C := [(RX0, TX0, 2), (RX1, TX1, 6), (RX2, TX2, 2), (RX3, TX3, 10), (RX4, TX4, 8)]
end
section
/-! congruences and sums of whole numbers -/
def cgr (p a b : Int) : Prop := ∃ k : Int, a = b + p * k
theorem cgr_rf (p a : Int) : cgr p a a := ⟨0, by simp⟩
theorem cgr_eq {p a b : Int} (h : a = b) : cgr p a b := ⟨0, by simp [h]⟩
theorem cgr_sy {p a b : Int} (h : cgr p a b) : cgr p b a := by
  obtain ⟨k, h⟩ := h
  exact ⟨-k, by rw [h, Int.mul_neg]; omega⟩
theorem cgr_tr {p a b c : Int} (h : cgr p a b) (h2 : cgr p b c) : cgr p a c := by
  obtain ⟨k, h⟩ := h
  obtain ⟨j, h2⟩ := h2
  exact ⟨k + j, by rw [h, h2, Int.mul_add]; omega⟩
theorem cgr_ad {p a b c d : Int} (h : cgr p a b) (h2 : cgr p c d) : cgr p (a + c) (b + d) := by
  obtain ⟨k, h⟩ := h
  obtain ⟨j, h2⟩ := h2
  exact ⟨k + j, by rw [h, h2, Int.mul_add]; omega⟩
theorem cgr_sb {p a b c d : Int} (h : cgr p a b) (h2 : cgr p c d) : cgr p (a - c) (b - d) := by
  obtain ⟨k, h⟩ := h
  obtain ⟨j, h2⟩ := h2
  exact ⟨k - j, by rw [h, h2, Int.mul_sub]; omega⟩
theorem cgr_ml {p a b c d : Int} (h : cgr p a b) (h2 : cgr p c d) : cgr p (a * c) (b * d) := by
  obtain ⟨k, h⟩ := h
  obtain ⟨j, h2⟩ := h2
  exact ⟨k * d + b * j + p * k * j, by rw [h, h2]; grind⟩
theorem cgr_pw {p a b : Int} (h : cgr p a b) (n : Nat) : cgr p (a ^ n) (b ^ n) := by
  induction n with
  | zero => exact cgr_eq (by simp)
  | succ n ih =>
    rw [Int.pow_succ, Int.pow_succ]
    exact cgr_ml ih h
theorem cgr_md (p a : Int) : cgr p (a % p) a := ⟨-(a / p), by have := Int.emod_add_mul_ediv a p; rw [Int.mul_neg]; omega⟩
theorem cgr_mdN (p a : Nat) : cgr p ((a % p : Nat) : Int) a := by
  rw [Int.natCast_emod]
  exact cgr_md _ _
theorem cgr_un {p a b : Int} (h : cgr p a b) (h1 : 0 ≤ a) (h2 : a < p) (h3 : 0 ≤ b) (h4 : b < p) : a = b := by
  obtain ⟨k, hk⟩ := h
  have e : a % p = b % p := by rw [hk, Int.add_mul_emod_self_left]
  rwa [Int.emod_eq_of_lt h1 h2, Int.emod_eq_of_lt h3 h4] at e
theorem cgr_unN {p a b : Nat} (h : cgr p a b) (h2 : a < p) (h4 : b < p) : a = b := by
  have := cgr_un h (by omega) (by omega) (by omega) (by omega)
  omega
theorem cgr_modN {p a b : Nat} (h : cgr p a b) : a % p = b % p := by
  rcases Nat.eq_zero_or_pos p with h0 | h0
  · subst h0
    obtain ⟨k, hk⟩ := h
    simp at hk
    omega
  · exact cgr_unN (cgr_tr (cgr_mdN p a) (cgr_tr h (cgr_sy (cgr_mdN p b)))) (Nat.mod_lt _ h0) (Nat.mod_lt _ h0)
/-- the sum of f 0, .., f (n - 1) -/
def smf (f : Nat → Int) : Nat → Int
  | 0 => 0
  | n + 1 => smf f n + f n
theorem smf_cg {p : Int} {f g : Nat → Int} {n : Nat} (h : ∀ i, i < n → cgr p (f i) (g i)) : cgr p (smf f n) (smf g n) := by
  induction n with
  | zero => exact cgr_rf _ _
  | succ n ih => exact cgr_ad (ih (fun i hi => h i (by omega))) (h n (by omega))
theorem smf_eq {f g : Nat → Int} {n : Nat} (h : ∀ i, i < n → f i = g i) : smf f n = smf g n := by
  induction n with
  | zero => rfl
  | succ n ih =>
    show smf f n + f n = smf g n + g n
    rw [ih (fun i hi => h i (by omega)), h n (by omega)]
theorem smf_ad (f g : Nat → Int) (n : Nat) : smf (fun i => f i + g i) n = smf f n + smf g n := by
  induction n with
  | zero => rfl
  | succ n ih =>
    show smf (fun i => f i + g i) n + (f n + g n) = (smf f n + f n) + (smf g n + g n)
    rw [ih]
    omega
theorem smf_ml (c : Int) (f : Nat → Int) (n : Nat) : smf (fun i => c * f i) n = c * smf f n := by
  induction n with
  | zero => exact (Int.mul_zero c).symm
  | succ n ih =>
    show smf (fun i => c * f i) n + c * f n = c * (smf f n + f n)
    rw [ih, Int.mul_add]
theorem smf_mr (c : Int) (f : Nat → Int) (n : Nat) : smf (fun i => f i * c) n = smf f n * c := by
  rw [Int.mul_comm, ← smf_ml]
  exact smf_eq fun i _ => Int.mul_comm _ _
theorem smf_ng (f : Nat → Int) (n : Nat) : smf (fun i => - f i) n = - smf f n := by
  induction n with
  | zero => rfl
  | succ n ih =>
    show smf (fun i => - f i) n + - f n = - (smf f n + f n)
    rw [ih]
    omega
theorem smf_z {f : Nat → Int} {n : Nat} (h : ∀ i, i < n → f i = 0) : smf f n = 0 := by
  induction n with
  | zero => rfl
  | succ n ih =>
    show smf f n + f n = 0
    rw [ih (fun i hi => h i (by omega)), h n (by omega)]
    rfl
theorem smf_app (f : Nat → Int) (m n : Nat) : smf f (m + n) = smf f m + smf (fun i => f (m + i)) n := by
  induction n with
  | zero => exact (Int.add_zero _).symm
  | succ n ih =>
    show smf f (m + n) + f (m + n) = smf f m + (smf (fun i => f (m + i)) n + f (m + n))
    rw [ih]
    omega
theorem smf_two (f : Nat → Int) (n : Nat) : smf f (2 * n) = smf (fun i => f (2 * i) + f (2 * i + 1)) n := by
  induction n with
  | zero => rfl
  | succ n ih =>
    show smf f (2 * n) + f (2 * n) + f (2 * n + 1) = smf (fun i => f (2 * i) + f (2 * i + 1)) n + (f (2 * n) + f (2 * n + 1))
    rw [ih]
    omega
theorem smf_swap (f : Nat → Nat → Int) (m n : Nat) : smf (fun i => smf (fun j => f i j) n) m = smf (fun j => smf (fun i => f i j) m) n := by
  induction m with
  | zero => exact (smf_z fun _ _ => rfl).symm
  | succ m ih =>
    show smf (fun i => smf (fun j => f i j) n) m + smf (fun j => f m j) n = smf (fun j => smf (fun i => f i j) m + f m j) n
    rw [ih, smf_ad]
theorem smf_1 {f : Nat → Int} {n k : Nat} (hk : k < n) (h : ∀ i, i < n → i ≠ k → f i = 0) : smf f n = f k := by
  induction n with
  | zero => omega
  | succ n ih =>
    show smf f n + f n = f k
    by_cases hn : k = n
    · subst hn
      rw [smf_z (fun i hi => h i (by omega) (by omega))]
      omega
    · rw [ih (by omega) (fun i hi => h i (by omega)), h n (by omega) (by omega)]
      omega
theorem smf_0 {f : Nat → Int} {m n : Nat} (hmn : m ≤ n) (h : ∀ i, m ≤ i → i < n → f i = 0) : smf f n = smf f m := by
  obtain ⟨d, rfl⟩ : ∃ d, n = m + d := ⟨n - m, by omega⟩
  rw [smf_app, smf_z (fun i hi => h (m + i) (by omega) (by omega))]
  omega
/-- the same over Nat -/
def smN (f : Nat → Nat) : Nat → Nat
  | 0 => 0
  | n + 1 => smN f n + f n
theorem smN_i (f : Nat → Nat) (n : Nat) : ((smN f n : Nat) : Int) = smf (fun i => (f i : Int)) n := by
  induction n with
  | zero => rfl
  | succ n ih =>
    show ((smN f n + f n : Nat) : Int) = smf (fun i => (f i : Int)) n + (f n : Int)
    rw [← ih]
    omega
theorem smN_eq {f g : Nat → Nat} {n : Nat} (h : ∀ i, i < n → f i = g i) : smN f n = smN g n := by
  induction n with
  | zero => rfl
  | succ n ih =>
    show smN f n + f n = smN g n + g n
    rw [ih (fun i hi => h i (by omega)), h n (by omega)]
theorem smN_z {f : Nat → Nat} {n : Nat} (h : ∀ i, i < n → f i = 0) : smN f n = 0 := by
  induction n with
  | zero => rfl
  | succ n ih =>
    show smN f n + f n = 0
    rw [ih (fun i hi => h i (by omega)), h n (by omega)]
theorem smN_le {f : Nat → Nat} {n c : Nat} (h : ∀ i, i < n → f i ≤ c) : smN f n ≤ n * c := by
  induction n with
  | zero => simp [smN]
  | succ n ih =>
    have h1 := ih (fun i hi => h i (by omega))
    have h2 := h n (by omega)
    show smN f n + f n ≤ (n + 1) * c
    rw [Nat.succ_mul]
    omega
theorem smN_1 {f : Nat → Nat} {n k : Nat} (hk : k < n) (h : ∀ i, i < n → i ≠ k → f i = 0) : smN f n = f k := by
  induction n with
  | zero => omega
  | succ n ih =>
    show smN f n + f n = f k
    by_cases hn : k = n
    · subst hn
      rw [smN_z (fun i hi => h i (by omega) (by omega))]
      omega
    · rw [ih (by omega) (fun i hi => h i (by omega)), h n (by omega) (by omega)]
      omega
theorem smN_ad (f g : Nat → Nat) (n : Nat) : smN (fun i => f i + g i) n = smN f n + smN g n := by
  induction n with
  | zero => rfl
  | succ n ih =>
    show smN (fun i => f i + g i) n + (f n + g n) = (smN f n + f n) + (smN g n + g n)
    rw [ih]
    omega
theorem smN_ml (c : Nat) (f : Nat → Nat) (n : Nat) : smN (fun i => c * f i) n = c * smN f n := by
  induction n with
  | zero => exact (Nat.mul_zero c).symm
  | succ n ih =>
    show smN (fun i => c * f i) n + c * f n = c * (smN f n + f n)
    rw [ih, Nat.mul_add]
theorem smN_mr (c : Nat) (f : Nat → Nat) (n : Nat) : smN (fun i => f i * c) n = smN f n * c := by
  rw [Nat.mul_comm, ← smN_ml]
  exact smN_eq fun i _ => Nat.mul_comm _ _
theorem smN_swap (f : Nat → Nat → Nat) (m n : Nat) : smN (fun i => smN (fun j => f i j) n) m = smN (fun j => smN (fun i => f i j) m) n := by
  induction m with
  | zero => exact (smN_z fun _ _ => rfl).symm
  | succ m ih =>
    show smN (fun i => smN (fun j => f i j) n) m + smN (fun j => f m j) n = smN (fun j => smN (fun i => f i j) m + f m j) n
    rw [ih, smN_ad]
theorem smN_app (f : Nat → Nat) (m n : Nat) : smN f (m + n) = smN f m + smN (fun i => f (m + i)) n := by
  induction n with
  | zero => rfl
  | succ n ih =>
    show smN f (m + n) + f (m + n) = smN f m + (smN (fun i => f (m + i)) n + f (m + n))
    rw [ih]
    omega
end
section
/-! the transforms, over whole numbers by a modulus p; w to the power 2 ^ k is -1 by p -/
theorem ipw_add (a : Int) (m n : Nat) : a ^ (m + n) = a ^ m * a ^ n := by
  induction n with
  | zero => simp
  | succ n ih => rw [← Nat.add_assoc, Int.pow_succ, Int.pow_succ, ih, Int.mul_assoc]
theorem ipw_one (n : Nat) : (1 : Int) ^ n = 1 := by
  induction n with
  | zero => rfl
  | succ n ih => rw [Int.pow_succ, ih]; rfl
theorem ipw_mul (a : Int) (m n : Nat) : a ^ (m * n) = (a ^ m) ^ n := by
  induction n with
  | zero => simp
  | succ n ih => rw [Nat.mul_succ, ipw_add, ih, Int.pow_succ]
theorem pm_e {p z : Int} (h : cgr p z (-1)) (q : Nat) : cgr p (z ^ (2 * q)) 1 := by
  rw [ipw_mul]
  have h2 : cgr p (z ^ 2) 1 := by
    have e : z ^ 2 = z * z := by rw [Int.pow_succ, Int.pow_succ]; simp
    rw [e]
    exact cgr_tr (cgr_ml h h) (cgr_eq (by decide))
  have := cgr_pw h2 q
  rwa [ipw_one] at this
theorem pm_o {p z : Int} (h : cgr p z (-1)) (q : Nat) : cgr p (z ^ (2 * q + 1)) (-1) := by
  rw [Int.pow_succ]
  exact cgr_tr (cgr_ml (pm_e h q) h) (cgr_eq (by decide))
/-- the exponent of the point of block b after s stages -/
def ez : Nat → Nat → Nat
  | 0, _ => 0
  | s + 1, c => ez s (c / 2) + (c % 2) * 2 ^ s
theorem ez_e (s b : Nat) : ez (s + 1) (2 * b) = ez s b := by
  show ez s (2 * b / 2) + (2 * b % 2) * 2 ^ s = _
  rw [show 2 * b / 2 = b by omega, show 2 * b % 2 = 0 by omega]
  simp
theorem ez_o (s b : Nat) : ez (s + 1) (2 * b + 1) = ez s b + 2 ^ s := by
  show ez s ((2 * b + 1) / 2) + ((2 * b + 1) % 2) * 2 ^ s = _
  rw [show (2 * b + 1) / 2 = b by omega, show (2 * b + 1) % 2 = 1 by omega]
  simp
/-- what place j of block b (of L places) is to hold after s stages -/
def nd_S (w : Int) (x : Nat → Int) (s b L j : Nat) : Int := smf (fun q => x (j + q * L) * w ^ (ez s b * (j + q * L))) (2 ^ s)
theorem nd_0 (w : Int) (x : Nat → Int) (L j : Nat) : nd_S w x 0 0 L j = x j := by
  show 0 + x (j + 0 * L) * w ^ (0 * (j + 0 * L)) = x j
  simp
theorem nd_end (w : Int) (x : Nat → Int) (s b : Nat) : nd_S w x s b 1 0 = smf (fun q => x q * w ^ (ez s b * q)) (2 ^ s) := by
  refine smf_eq fun q _ => ?_
  rw [show 0 + q * 1 = q by omega]
theorem nd_lo (w : Int) (x : Nat → Int) (s b h j : Nat) : nd_S w x (s + 1) (2 * b) h j = nd_S w x s b (2 * h) j + nd_S w x s b (2 * h) (j + h) := by
  unfold nd_S
  rw [Nat.pow_succ, Nat.mul_comm (2 ^ s) 2, smf_two, ← smf_ad, ez_e]
  refine smf_eq fun q _ => ?_
  have e1 : j + 2 * q * h = j + q * (2 * h) := by rw [Nat.mul_comm 2 q, Nat.mul_assoc]
  have e2 : j + (2 * q + 1) * h = j + h + q * (2 * h) := by rw [Nat.add_mul, Nat.mul_comm 2 q, Nat.mul_assoc]; omega
  rw [e1, e2]
theorem nd_hi {p w : Int} (x : Nat → Int) {s h : Nat} (b j : Nat) (hw : cgr p (w ^ (2 ^ s * h)) (-1)) : cgr p (nd_S w x (s + 1) (2 * b + 1) h j) ((nd_S w x s b (2 * h) j - nd_S w x s b (2 * h) (j + h)) * w ^ (j * 2 ^ s)) := by
  unfold nd_S
  rw [Nat.pow_succ, Nat.mul_comm (2 ^ s) 2, smf_two, ez_o]
  generalize hE : ez s b = E
  have hr : ∀ (f g : Nat → Int) (c : Int) (n : Nat), (smf f n - smf g n) * c = smf (fun q => f q * c + - (g q * c)) n := by
    intro f g c n
    rw [smf_ad, smf_ng, smf_mr, smf_mr, Int.sub_mul]
    omega
  rw [hr]
  refine smf_cg fun q _ => ?_
  have e1 : j + 2 * q * h = j + q * (2 * h) := by rw [Nat.mul_comm 2 q, Nat.mul_assoc]
  have e2 : j + (2 * q + 1) * h = j + h + q * (2 * h) := by rw [Nat.add_mul, Nat.mul_comm 2 q, Nat.mul_assoc]; omega
  have x1 : (E + 2 ^ s) * (j + q * (2 * h)) = E * (j + q * (2 * h)) + (j * 2 ^ s + 2 ^ s * h * (2 * q)) := by
    rw [Nat.add_mul]
    congr 1
    rw [Nat.mul_add, Nat.mul_comm (2 ^ s) j]
    congr 1
    rw [Nat.mul_comm q (2 * h), Nat.mul_assoc, Nat.mul_assoc (2 ^ s) h (2 * q), Nat.mul_left_comm h 2 q]
  have x2 : (E + 2 ^ s) * (j + h + q * (2 * h)) = E * (j + h + q * (2 * h)) + (j * 2 ^ s + 2 ^ s * h * (2 * q + 1)) := by
    rw [Nat.add_mul]
    congr 1
    rw [Nat.mul_add, Nat.mul_add, Nat.mul_comm (2 ^ s) j, Nat.mul_add (2 ^ s * h), Nat.mul_one, Nat.mul_comm q (2 * h), Nat.mul_assoc 2 h q, Nat.mul_assoc (2 ^ s) h (2 * q), Nat.mul_left_comm h 2 q]
    omega
  rw [e1, e2, x1, x2, ipw_add w (E * (j + q * (2 * h))), ipw_add w (j * 2 ^ s), ipw_mul w (2 ^ s * h), ipw_add w (E * (j + h + q * (2 * h))), ipw_add w (j * 2 ^ s), ipw_mul w (2 ^ s * h)]
  generalize w ^ (E * (j + q * (2 * h))) = A1
  generalize w ^ (E * (j + h + q * (2 * h))) = A2
  generalize w ^ (j * 2 ^ s) = A3
  generalize x (j + q * (2 * h)) = B1
  generalize x (j + h + q * (2 * h)) = B2
  have k1 : cgr p (B1 * (A1 * (A3 * (w ^ (2 ^ s * h)) ^ (2 * q)))) (B1 * A1 * A3) := by
    have := cgr_ml (cgr_rf p (B1 * A1 * A3)) (pm_e hw q)
    rw [Int.mul_one] at this
    rw [← Int.mul_assoc, ← Int.mul_assoc]
    exact this
  have k2 : cgr p (B2 * (A2 * (A3 * (w ^ (2 ^ s * h)) ^ (2 * q + 1)))) (- (B2 * A2 * A3)) := by
    have := cgr_ml (cgr_rf p (B2 * A2 * A3)) (pm_o hw q)
    rw [Int.mul_neg, Int.mul_one] at this
    rw [← Int.mul_assoc, ← Int.mul_assoc]
    exact this
  exact cgr_ad k1 k2
/-- the way back: the exponent of place r among 2 ^ m, relative to its block -/
def er (lg : Nat) : Nat → Nat → Nat
  | 0, _ => 0
  | m + 1, r => if r < 2 ^ m then er lg m r else 2 ^ (lg - 1 - m) + er lg m (r - 2 ^ m)
def ni_S (w : Int) (lg : Nat) (X : Nat → Int) (m b j : Nat) : Int := smf (fun r => X (b * 2 ^ m + r) * w ^ (er lg m r * j)) (2 ^ m)
theorem ni_0 (w : Int) (lg : Nat) (X : Nat → Int) (b j : Nat) : ni_S w lg X 0 b j = X b := by
  show 0 + X (b * 2 ^ 0 + 0) * w ^ (0 * j) = X b
  simp
theorem ni_lo (w : Int) (lg : Nat) (X : Nat → Int) (m b j : Nat) : ni_S w lg X (m + 1) b j = ni_S w lg X m (2 * b) j + w ^ (j * 2 ^ (lg - 1 - m)) * ni_S w lg X m (2 * b + 1) j := by
  unfold ni_S
  rw [show 2 ^ (m + 1) = 2 ^ m + 2 ^ m by rw [Nat.pow_succ]; omega, smf_app, ← smf_ml]
  congr 1
  · refine smf_eq fun r hr => ?_
    rw [show b * (2 ^ m + 2 ^ m) + r = 2 * b * 2 ^ m + r by rw [Nat.mul_add, Nat.mul_comm 2 b, Nat.mul_assoc, Nat.two_mul, Nat.mul_add]]
    rw [show er lg (m + 1) r = er lg m r from if_pos hr]
  · refine smf_eq fun r hr => ?_
    rw [show b * (2 ^ m + 2 ^ m) + (2 ^ m + r) = (2 * b + 1) * 2 ^ m + r by rw [Nat.add_mul, Nat.one_mul, Nat.mul_add, Nat.mul_comm 2 b, Nat.mul_assoc, Nat.two_mul, Nat.mul_add]; omega]
    have e : er lg (m + 1) (2 ^ m + r) = 2 ^ (lg - 1 - m) + er lg m r := by
      show (if 2 ^ m + r < 2 ^ m then er lg m (2 ^ m + r) else 2 ^ (lg - 1 - m) + er lg m (2 ^ m + r - 2 ^ m)) = _
      rw [if_neg (by omega), Nat.add_sub_cancel_left]
    rw [e, Nat.add_mul (2 ^ (lg - 1 - m)), ipw_add, Nat.mul_comm (2 ^ (lg - 1 - m)) j]
    rw [← Int.mul_assoc, ← Int.mul_assoc, Int.mul_comm (X _)]
theorem er_per (lg : Nat) : ∀ (m r : Nat), m ≤ lg → ∃ c, er lg m r * 2 ^ m = 2 ^ lg * c
  | 0, _, _ => ⟨0, by simp [er]⟩
  | m + 1, r, h => by
    by_cases hr : r < 2 ^ m
    · obtain ⟨c, hc⟩ := er_per lg m r (by omega)
      refine ⟨2 * c, ?_⟩
      rw [show er lg (m + 1) r = er lg m r from if_pos hr, Nat.pow_succ, ← Nat.mul_assoc, hc, Nat.mul_assoc, Nat.mul_comm c 2]
    · obtain ⟨c, hc⟩ := er_per lg m (r - 2 ^ m) (by omega)
      refine ⟨1 + 2 * c, ?_⟩
      rw [show er lg (m + 1) r = 2 ^ (lg - 1 - m) + er lg m (r - 2 ^ m) from if_neg hr, Nat.add_mul, ← Nat.pow_add, show lg - 1 - m + (m + 1) = lg by omega, Nat.pow_succ 2 m, ← Nat.mul_assoc, hc, Nat.mul_add, Nat.mul_one, Nat.mul_assoc, Nat.mul_comm c 2]
theorem w_per {p w : Int} {k : Nat} (hw : cgr p (w ^ 2 ^ k) (-1)) (c : Nat) : cgr p (w ^ (2 ^ (k + 1) * c)) 1 := by
  rw [Nat.pow_succ, Nat.mul_assoc, ipw_mul]
  exact pm_e hw c
theorem ni_per {p w : Int} {k : Nat} (hw : cgr p (w ^ 2 ^ k) (-1)) (X : Nat → Int) {m : Nat} (hm : m ≤ k + 1) (b j : Nat) : cgr p (ni_S w (k + 1) X m b (j + 2 ^ m)) (ni_S w (k + 1) X m b j) := by
  refine smf_cg fun r _ => cgr_ml (cgr_rf _ _) ?_
  obtain ⟨c, hc⟩ := er_per (k + 1) m r hm
  rw [Nat.mul_add, ipw_add, hc]
  have := cgr_ml (cgr_rf p (w ^ (er (k + 1) m r * j))) (w_per hw c)
  rwa [Int.mul_one] at this
theorem ni_hi {p w : Int} {k : Nat} (hw : cgr p (w ^ 2 ^ k) (-1)) (X : Nat → Int) {m : Nat} (hm : m ≤ k) (b j : Nat) : cgr p (ni_S w (k + 1) X (m + 1) b (j + 2 ^ m)) (ni_S w (k + 1) X m (2 * b) j - w ^ (j * 2 ^ (k - m)) * ni_S w (k + 1) X m (2 * b + 1) j) := by
  rw [ni_lo, show k + 1 - 1 - m = k - m by omega]
  have h1 : cgr p (w ^ ((j + 2 ^ m) * 2 ^ (k - m))) (- w ^ (j * 2 ^ (k - m))) := by
    rw [Nat.add_mul, ipw_add, ← Nat.pow_add, show m + (k - m) = k by omega]
    have := cgr_ml (cgr_rf p (w ^ (j * 2 ^ (k - m)))) hw
    rwa [Int.mul_neg, Int.mul_one] at this
  have h2 := cgr_ad (ni_per hw X (by omega : m ≤ k + 1) (2 * b) j) (cgr_ml h1 (ni_per hw X (by omega : m ≤ k + 1) (2 * b + 1) j))
  refine cgr_tr h2 (cgr_eq ?_)
  rw [Int.neg_mul]
  omega
theorem er_ez (lg : Nat) : ∀ (m s b r : Nat), s + m = lg → r < 2 ^ m → ez s b + er lg m r = ez lg (b * 2 ^ m + r)
  | 0, s, b, r, hs, hr => by
    have h0 : r = 0 := by simpa using hr
    have hs' : s = lg := by omega
    subst h0
    subst hs'
    simp [er]
  | m + 1, s, b, r, hs, hr => by
    by_cases h : r < 2 ^ m
    · have := er_ez lg m (s + 1) (2 * b) r (by omega) h
      rw [ez_e] at this
      rw [show er lg (m + 1) r = er lg m r from if_pos h, this]
      congr 1
      rw [Nat.pow_succ, Nat.mul_comm 2 b, Nat.mul_assoc, Nat.mul_comm (2 ^ m) 2]
    · have hlt : r - 2 ^ m < 2 ^ m := by
        rw [Nat.pow_succ] at hr
        omega
      have := er_ez lg m (s + 1) (2 * b + 1) (r - 2 ^ m) (by omega) hlt
      rw [ez_o] at this
      rw [show er lg (m + 1) r = 2 ^ (lg - 1 - m) + er lg m (r - 2 ^ m) from if_neg h, show lg - 1 - m = s by omega, ← Nat.add_assoc, this]
      congr 1
      rw [Nat.pow_succ, Nat.add_mul, Nat.one_mul, Nat.mul_comm 2 b, Nat.mul_assoc, Nat.mul_comm 2 (2 ^ m)]
      omega
theorem ni_end (w : Int) (lg : Nat) (X : Nat → Int) (j : Nat) : ni_S w lg X lg 0 j = smf (fun r => X r * w ^ (ez lg r * j)) (2 ^ lg) := by
  refine smf_eq fun r hr => ?_
  have := er_ez lg lg 0 0 r (by omega) hr
  rw [show ez 0 0 = 0 from rfl, Nat.zero_add, Nat.zero_mul, Nat.zero_add] at this
  rw [Nat.zero_mul, Nat.zero_add, this]
/-- the sum of all points' powers -/
def nr_S (w : Int) (s t : Nat) : Int := smf (fun b => w ^ (ez s b * t)) (2 ^ s)
theorem nr_succ (w : Int) (s t : Nat) : nr_S w (s + 1) t = nr_S w s t * (1 + w ^ (2 ^ s * t)) := by
  unfold nr_S
  rw [Nat.pow_succ, Nat.mul_comm (2 ^ s) 2, smf_two, ← smf_mr]
  refine smf_eq fun b _ => ?_
  rw [ez_e, ez_o, Nat.add_mul, ipw_add, Int.mul_add, Int.mul_one]
theorem nr_0 (w : Int) (t : Nat) : nr_S w 0 t = 1 := by
  show 0 + w ^ (0 * t) = 1
  simp
theorem nr_A {p w : Int} {k : Nat} (hw : cgr p (w ^ 2 ^ k) (-1)) (c : Nat) : ∀ s, cgr p (nr_S w s (2 ^ (k + 1) * c)) ((2 ^ s : Nat) : Int)
  | 0 => cgr_eq (by rw [nr_0]; rfl)
  | s + 1 => by
    rw [nr_succ]
    have h1 : cgr p (w ^ (2 ^ s * (2 ^ (k + 1) * c))) 1 := by
      rw [Nat.mul_left_comm]
      exact w_per hw _
    refine cgr_tr (cgr_ml (nr_A hw c s) (cgr_ad (cgr_rf p 1) h1)) (cgr_eq ?_)
    rw [Nat.pow_succ]
    omega
theorem two_adic : ∀ (n t : Nat), ¬ 2 ^ n ∣ t → ∃ e c, e < n ∧ t = 2 ^ e * (2 * c + 1)
  | 0, t, h => absurd (Nat.one_dvd t) h
  | n + 1, t, h => by
    by_cases h1 : 2 ^ n ∣ t
    · obtain ⟨d, hd⟩ := h1
      refine ⟨n, d / 2, by omega, ?_⟩
      have hodd : d % 2 = 1 := by
        rcases (show d % 2 = 0 ∨ d % 2 = 1 by omega) with q | q
        · exfalso
          apply h
          refine ⟨d / 2, ?_⟩
          rw [hd, Nat.pow_succ, Nat.mul_assoc]
          congr 1
          omega
        · exact q
      rw [hd]
      congr 1
      omega
    · obtain ⟨e, c, h2, h3⟩ := two_adic n t h1
      exact ⟨e, c, by omega, h3⟩
theorem nr_keep {p w : Int} {s t : Nat} (h : cgr p (nr_S w s t) 0) : ∀ d, cgr p (nr_S w (s + d) t) 0
  | 0 => h
  | d + 1 => by
    rw [← Nat.add_assoc, nr_succ]
    have := cgr_ml (nr_keep h d) (cgr_rf p (1 + w ^ (2 ^ (s + d) * t)))
    rwa [Int.zero_mul] at this
theorem nr_B {p w : Int} {k t : Nat} (hw : cgr p (w ^ 2 ^ k) (-1)) (ht : ¬ 2 ^ (k + 1) ∣ t) : cgr p (nr_S w (k + 1) t) 0 := by
  obtain ⟨e, c, he, htt⟩ := two_adic _ _ ht
  have h1 : cgr p (nr_S w (k - e + 1) t) 0 := by
    rw [nr_succ, htt, ← Nat.mul_assoc, ← Nat.pow_add, show k - e + e = k by omega, ipw_mul]
    have h2 := cgr_ad (cgr_rf p 1) (pm_o hw c)
    have := cgr_ml (cgr_rf p (nr_S w (k - e) (2 ^ e * (2 * c + 1)))) h2
    rwa [show (1 : Int) + -1 = 0 from rfl, Int.mul_zero] at this
  have := nr_keep h1 e
  rwa [show k - e + 1 + e = k + 1 by omega] at this
/-- a row with zeros behind its digits, as whole numbers -/
def padZ (a : Nat → Nat) (n : Nat) : Nat → Int := fun i => if i < n then (a i : Int) else 0
/-- coefficient i of the product of two rows -/
def cvN (a : Nat → Nat) (na : Nat) (b : Nat → Nat) (nb : Nat) (t : Nat) : Nat := smN (fun i => smN (fun j => if i + j = t then a i * b j else 0) nb) na
theorem smf_prod (f g : Nat → Int) (n m : Nat) : smf f n * smf g m = smf (fun i => smf (fun j => f i * g j) m) n := by
  rw [← smf_mr]
  refine smf_eq fun i _ => ?_
  rw [smf_ml]
theorem conv_sum (w : Int) (lg m : Nat) (x y : Nat → Int) (n : Nat) : smf (fun k => (smf (fun i => x i * w ^ (ez lg k * i)) n * smf (fun j => y j * w ^ (ez lg k * j)) n) * w ^ (ez lg k * m)) (2 ^ lg) = smf (fun i => smf (fun j => x i * y j * nr_S w lg (i + j + m)) n) n := by
  have e : ∀ k, k < 2 ^ lg → (smf (fun i => x i * w ^ (ez lg k * i)) n * smf (fun j => y j * w ^ (ez lg k * j)) n) * w ^ (ez lg k * m) = smf (fun i => smf (fun j => x i * y j * w ^ (ez lg k * (i + j + m))) n) n := by
    intro k _
    rw [smf_prod, ← smf_mr]
    refine smf_eq fun i _ => ?_
    rw [← smf_mr]
    refine smf_eq fun j _ => ?_
    rw [Nat.mul_add, Nat.mul_add, ipw_add, ipw_add]
    grind
  rw [smf_eq e, smf_swap]
  refine smf_eq fun i _ => ?_
  rw [smf_swap]
  refine smf_eq fun j _ => ?_
  rw [smf_ml]
  rfl
theorem conv_div {n i j t : Nat} (h1 : i + j < n) (h2 : t < n) : n ∣ i + j + (n - t) % n ↔ i + j = t := by
  constructor
  · intro h
    have h3 := Nat.mod_eq_zero_of_dvd h
    by_cases h0 : t = 0
    · subst h0
      rw [Nat.sub_zero, Nat.mod_self, Nat.add_zero, Nat.mod_eq_of_lt h1] at h3
      exact h3
    · rw [Nat.mod_eq_of_lt (by omega : n - t < n)] at h3
      by_cases h4 : i + j + (n - t) < n
      · rw [Nat.mod_eq_of_lt h4] at h3
        omega
      · rw [Nat.mod_eq_sub_mod (by omega), Nat.mod_eq_of_lt (by omega)] at h3
        omega
  · intro h
    subst h
    by_cases h0 : i + j = 0
    · rw [h0, Nat.sub_zero, Nat.mod_self]
      exact ⟨0, by simp⟩
    · rw [Nat.mod_eq_of_lt (by omega : n - (i + j) < n)]
      exact ⟨1, by omega⟩
theorem cvN_i (a : Nat → Nat) (na : Nat) (b : Nat → Nat) (nb t : Nat) {n : Nat} (hna : na ≤ n) (hnb : nb ≤ n) : ((cvN a na b nb t : Nat) : Int) = smf (fun i => smf (fun j => if i + j = t then padZ a na i * padZ b nb j else 0) n) n := by
  unfold cvN
  rw [smN_i, smf_0 (n := n) hna (fun i h1 h2 => smf_z fun j _ => ?_)]
  · refine smf_eq fun i hi => ?_
    rw [smN_i, smf_0 (n := n) hnb (fun j h1 h2 => ?_)]
    · refine smf_eq fun j hj => ?_
      by_cases h : i + j = t
      · rw [if_pos h, if_pos h]
        unfold padZ
        rw [if_pos hi, if_pos hj]
        exact Int.natCast_mul _ _
      · rw [if_neg h, if_neg h]
        rfl
    · unfold padZ
      rw [if_neg (show ¬ j < nb by omega), Int.mul_zero]
      split <;> rfl
  · unfold padZ
    rw [if_neg (show ¬ i < na by omega), Int.zero_mul]
    split <;> rfl
/-- the transforms' answer: N times the product's coefficient -/
theorem ntt_conv {p w : Int} {k : Nat} (hw : cgr p (w ^ 2 ^ k) (-1)) (a : Nat → Nat) (na : Nat) (b : Nat → Nat) (nb : Nat) {t : Nat} (hn : na + nb ≤ 2 ^ (k + 1)) (ht : t < 2 ^ (k + 1)) :
    cgr p (smf (fun r => (smf (fun i => padZ a na i * w ^ (ez (k + 1) r * i)) (2 ^ (k + 1)) * smf (fun j => padZ b nb j * w ^ (ez (k + 1) r * j)) (2 ^ (k + 1))) * w ^ (ez (k + 1) r * ((2 ^ (k + 1) - t) % 2 ^ (k + 1)))) (2 ^ (k + 1))) (((2 ^ (k + 1) : Nat) : Int) * (cvN a na b nb t : Int)) := by
  rw [conv_sum, cvN_i a na b nb t (n := 2 ^ (k + 1)) (by omega) (by omega), ← smf_ml]
  refine smf_cg fun i _ => ?_
  rw [← smf_ml]
  refine smf_cg fun j _ => ?_
  by_cases hi : i < na
  · by_cases hj : j < nb
    · by_cases h : i + j = t
      · rw [if_pos h]
        obtain ⟨c, hc⟩ := (conv_div (n := 2 ^ (k + 1)) (i := i) (j := j) (t := t) (by omega) ht).mpr h
        rw [hc, Int.mul_comm ((2 ^ (k + 1) : Nat) : Int)]
        exact cgr_ml (cgr_rf _ _) (nr_A hw c (k + 1))
      · rw [if_neg h, Int.mul_zero]
        have := cgr_ml (cgr_rf p (padZ a na i * padZ b nb j)) (nr_B hw (fun q => h ((conv_div (n := 2 ^ (k + 1)) (i := i) (j := j) (t := t) (by omega) ht).mp q)))
        rwa [Int.mul_zero] at this
    · have e : padZ b nb j = 0 := if_neg hj
      rw [e, Int.mul_zero, Int.zero_mul]
      exact cgr_eq (by split <;> simp)
  · have e : padZ a na i = 0 := if_neg hi
    rw [e, Int.zero_mul, Int.zero_mul]
    exact cgr_eq (by split <;> simp)
theorem cvN_le (a : Nat → Nat) (na : Nat) (b : Nat → Nat) (nb t c : Nat) (h : ∀ i j, i < na → j < nb → a i * b j ≤ c) : cvN a na b nb t ≤ na * c := by
  refine smN_le fun i hi => ?_
  by_cases hx : i ≤ t ∧ t - i < nb
  · rw [smN_1 (k := t - i) hx.2 (fun j hj hne => if_neg (by omega)), if_pos (by omega)]
    exact h i (t - i) hi hx.2
  · rw [smN_z (fun j hj => if_neg (by omega))]
    exact Nat.zero_le _
end
section
/-! numbers as rows of digits to the base 32768 -/
def dgV (a : Nat → Nat) (n : Nat) : Nat := smN (fun j => a j * 32768 ^ j) n
theorem dgV_0 (a : Nat → Nat) : dgV a 0 = 0 := rfl
theorem dgV_s (a : Nat → Nat) (n : Nat) : dgV a (n + 1) = dgV a n + a n * 32768 ^ n := rfl
theorem dgV_eq {a b : Nat → Nat} {n : Nat} (h : ∀ i, i < n → a i = b i) : dgV a n = dgV b n := smN_eq fun i hi => by rw [h i hi]
theorem p15 (n : Nat) : 0 < 32768 ^ n := Nat.pow_pos (by decide)
theorem dgV_lt {a : Nat → Nat} {n : Nat} (h : ∀ i, i < n → a i < 32768) : dgV a n < 32768 ^ n := by
  induction n with
  | zero => exact Nat.one_pos
  | succ n ih =>
    have h1 := ih (fun i hi => h i (by omega))
    have h2 : a n * 32768 ^ n ≤ 32767 * 32768 ^ n := Nat.mul_le_mul_right _ (by have := h n (by omega); omega)
    rw [dgV_s, Nat.pow_succ]
    omega
/-- digit k of a row's number is its cell k -/
theorem dgV_at {a : Nat → Nat} {n k : Nat} (h : ∀ i, i < n → a i < 32768) (hk : k < n) : dgV a n / 32768 ^ k % 32768 = a k := by
  have key : ∀ d, (∀ i, i < k + 1 + d → a i < 32768) → ∃ M, dgV a (k + 1 + d) = dgV a k + a k * 32768 ^ k + 32768 ^ (k + 1) * M := by
    intro d
    induction d with
    | zero => exact fun _ => ⟨0, rfl⟩
    | succ d ih =>
      intro h
      obtain ⟨M, hM⟩ := ih (fun i hi => h i (by omega))
      refine ⟨M + a (k + 1 + d) * 32768 ^ d, ?_⟩
      rw [← Nat.add_assoc, dgV_s, hM, Nat.mul_add, Nat.pow_add 32768 (k + 1) d, Nat.mul_left_comm (32768 ^ (k + 1))]
      omega
  obtain ⟨d, rfl⟩ : ∃ d, n = k + 1 + d := ⟨n - (k + 1), by omega⟩
  obtain ⟨M, hM⟩ := key d h
  have h1 : dgV a k < 32768 ^ k := dgV_lt fun i hi => h i (by omega)
  rw [hM, show dgV a k + a k * 32768 ^ k + 32768 ^ (k + 1) * M = dgV a k + 32768 ^ k * (a k + 32768 * M) by rw [Nat.pow_succ, Nat.mul_add, Nat.mul_comm (a k), Nat.mul_assoc]; omega]
  rw [Nat.add_mul_div_left _ _ (p15 k), Nat.div_eq_of_lt h1, Nat.zero_add, Nat.add_mul_mod_self_left]
  exact Nat.mod_eq_of_lt (h k (by omega))
/-- the sum of coefficients is the product of the numbers -/
theorem cv_prod (a : Nat → Nat) (na : Nat) (b : Nat → Nat) (nb : Nat) : smN (fun t => cvN a na b nb t * 32768 ^ t) (na + nb) = dgV a na * dgV b nb := by
  unfold cvN dgV
  have e1 : ∀ t, t < na + nb → smN (fun i => smN (fun j => if i + j = t then a i * b j else 0) nb) na * 32768 ^ t = smN (fun i => smN (fun j => if i + j = t then a i * b j * 32768 ^ (i + j) else 0) nb) na := by
    intro t _
    rw [← smN_mr]
    refine smN_eq fun i _ => ?_
    rw [← smN_mr]
    refine smN_eq fun j _ => ?_
    by_cases h : i + j = t
    · rw [if_pos h, if_pos h, h]
    · rw [if_neg h, if_neg h, Nat.zero_mul]
  rw [smN_eq e1, smN_swap, ← smN_mr]
  refine smN_eq fun i hi => ?_
  rw [smN_swap, ← smN_ml]
  refine smN_eq fun j hj => ?_
  rw [smN_1 (k := i + j) (by omega) (fun t _ hne => if_neg (by omega)), if_pos rfl, Nat.pow_add]
  grind
/-- the carries: after i coefficients -/
theorem cy_step {T c B i : Nat} (hB : 0 < B) : (T + c * B ^ i) / B ^ i = T / B ^ i + c := by
  rw [Nat.add_mul_div_right _ _ (Nat.pow_pos hB)]
theorem cy_next {T c i : Nat} : (T / 32768 ^ i + c) / 32768 = (T + c * 32768 ^ i) / 32768 ^ (i + 1) := by
  rw [← cy_step (T := T) (c := c) (B := 32768) (i := i) (by decide), Nat.div_div_eq_div_mul, Nat.pow_succ]
/-- a digit that the carries leave is the whole sum's digit -/
theorem cy_dig (c : Nat → Nat) {n i : Nat} (h : i < n) : (smN (fun t => c t * 32768 ^ t) i / 32768 ^ i + c i) % 32768 = smN (fun t => c t * 32768 ^ t) n / 32768 ^ i % 32768 := by
  have key : ∀ d, ∃ M, smN (fun t => c t * 32768 ^ t) (i + 1 + d) = smN (fun t => c t * 32768 ^ t) (i + 1) + 32768 ^ (i + 1) * M := by
    intro d
    induction d with
    | zero => exact ⟨0, rfl⟩
    | succ d ih =>
      obtain ⟨M, hM⟩ := ih
      refine ⟨M + c (i + 1 + d) * 32768 ^ d, ?_⟩
      show smN (fun t => c t * 32768 ^ t) (i + 1 + d) + c (i + 1 + d) * 32768 ^ (i + 1 + d) = _
      rw [hM, Nat.mul_add, Nat.pow_add 32768 (i + 1) d, Nat.mul_left_comm (32768 ^ (i + 1))]
      omega
  obtain ⟨d, rfl⟩ : ∃ d, n = i + 1 + d := ⟨n - (i + 1), by omega⟩
  obtain ⟨M, hM⟩ := key d
  rw [hM, Nat.pow_succ, Nat.mul_assoc, Nat.add_mul_div_left _ _ (p15 i), Nat.add_mul_mod_self_left]
  show _ = (smN (fun t => c t * 32768 ^ t) i + c i * 32768 ^ i) / 32768 ^ i % 32768
  rw [cy_step (by decide)]
/-- how many digits are left without zeros at the end -/
def trN (a : Nat → Nat) : Nat → Nat
  | 0 => 0
  | n + 1 => if a n = 0 then trN a n else n + 1
theorem trN_le (a : Nat → Nat) : ∀ n, trN a n ≤ n
  | 0 => Nat.le_refl 0
  | n + 1 => by
    have := trN_le a n
    unfold trN
    split <;> omega
theorem trN_eq {a b : Nat → Nat} : ∀ {n : Nat}, (∀ i, i < n → a i = b i) → trN a n = trN b n
  | 0, _ => rfl
  | n + 1, h => by
    unfold trN
    rw [h n (by omega), trN_eq (fun i hi => h i (by omega))]
theorem trN_z {a : Nat → Nat} {n : Nat} (h : a n = 0) : trN a (n + 1) = trN a n := if_pos h
theorem trN_n {a : Nat → Nat} {n : Nat} (h : ¬ a n = 0) : trN a (n + 1) = n + 1 := if_neg h
theorem trN_ab (a : Nat → Nat) : ∀ n i, trN a n ≤ i → i < n → a i = 0
  | 0, _, _, h => by omega
  | n + 1, i, h1, h2 => by
    by_cases h : a n = 0
    · rw [trN_z h] at h1
      by_cases hi : i = n
      · rw [hi]; exact h
      · exact trN_ab a n i h1 (by omega)
    · rw [trN_n h] at h1
      omega
theorem trN_top (a : Nat → Nat) : ∀ n, 0 < trN a n → ¬ a (trN a n - 1) = 0
  | 0, h => by simp [trN] at h
  | n + 1, h => by
    by_cases hz : a n = 0
    · rw [trN_z hz] at h ⊢
      exact trN_top a n h
    · rw [trN_n hz]
      exact hz
/-- A against B from the top: 0 the same, 1 greater, 2 less -/
def cmpN (f g : Nat → Nat) : Nat → Nat
  | 0 => 0
  | n + 1 => if f n = g n then cmpN f g n else if f n < g n then 2 else 1
def padN (a : Nat → Nat) (n : Nat) : Nat → Nat := fun i => if i < n then a i else 0
theorem cmpN_eq {f g f' g' : Nat → Nat} : ∀ {n : Nat}, (∀ i, i < n → f i = f' i ∧ g i = g' i) → cmpN f g n = cmpN f' g' n
  | 0, _ => rfl
  | n + 1, h => by
    unfold cmpN
    rw [(h n (by omega)).1, (h n (by omega)).2, cmpN_eq (fun i hi => h i (by omega))]
theorem cmpN_skip {f g : Nat → Nat} {m : Nat} : ∀ {d : Nat}, (∀ i, m ≤ i → i < m + d → f i = g i) → cmpN f g (m + d) = cmpN f g m
  | 0, _ => rfl
  | d + 1, h => by
    show (if f (m + d) = g (m + d) then cmpN f g (m + d) else _) = _
    rw [if_pos (h (m + d) (by omega) (by omega)), cmpN_skip (fun i h1 h2 => h i h1 (by omega))]
theorem padN_z {a : Nat → Nat} {n i : Nat} (h : trN a n ≤ i) : padN a n i = 0 := by
  unfold padN
  split
  · exact trN_ab a n i h (by assumption)
  · rfl
theorem padN_in {a : Nat → Nat} {n i : Nat} (h : i < n) : padN a n i = a i := if_pos h
/-- the class's way of comparing: by lengths first -/
theorem cmpN_len {a b : Nat → Nat} {na nb N : Nat} (ha : na ≤ N) (hb : nb ≤ N) : cmpN (padN a na) (padN b nb) N = if trN a na = trN b nb then cmpN a b (trN a na) else if trN a na < trN b nb then 2 else 1 := by
  have h1 := trN_le a na
  have h2 := trN_le b nb
  have go : ∀ m, trN a na ≤ m → trN b nb ≤ m → m ≤ N → cmpN (padN a na) (padN b nb) N = cmpN (padN a na) (padN b nb) m := by
    intro m h3 h4 h5
    obtain ⟨d, rfl⟩ : ∃ d, N = m + d := ⟨N - m, by omega⟩
    refine cmpN_skip fun i g1 g2 => ?_
    rw [padN_z (by omega), padN_z (by omega)]
  by_cases e : trN a na = trN b nb
  · rw [if_pos e, go (trN a na) (by omega) (by omega) (by omega)]
    exact cmpN_eq fun i hi => ⟨padN_in (by omega), padN_in (by omega)⟩
  · rw [if_neg e]
    by_cases hlt : trN a na < trN b nb
    · rw [if_pos hlt, go (trN b nb) (by omega) (by omega) (by omega)]
      obtain ⟨k, hk⟩ : ∃ k, trN b nb = k + 1 := ⟨trN b nb - 1, by omega⟩
      have ht := trN_top b nb (by omega)
      rw [hk] at ht ⊢
      show (if padN a na k = padN b nb k then _ else if padN a na k < padN b nb k then 2 else 1) = 2
      rw [padN_z (a := a) (by omega), padN_in (a := b) (by omega)]
      rw [show k + 1 - 1 = k by omega] at ht
      rw [if_neg (fun q => ht q.symm), if_pos (by omega)]
    · rw [if_neg hlt, go (trN a na) (by omega) (by omega) (by omega)]
      obtain ⟨k, hk⟩ : ∃ k, trN a na = k + 1 := ⟨trN a na - 1, by omega⟩
      have ht := trN_top a na (by omega)
      rw [hk] at ht ⊢
      show (if padN a na k = padN b nb k then _ else if padN a na k < padN b nb k then 2 else 1) = 1
      rw [padN_z (a := b) (by omega), padN_in (a := a) (by omega)]
      rw [show k + 1 - 1 = k by omega] at ht
      rw [if_neg ht, if_neg (by omega)]
/-- Horner's rule from place n on down to k, begun with r -/
def hrN (f : Nat → Nat) (x m : Nat) : Nat → Nat → Nat
  | 0, r => r
  | n + 1, r => hrN f x m n ((r * x + f n) % m)
theorem hrN_eq {f g : Nat → Nat} {x m : Nat} : ∀ {n r : Nat}, (∀ i, i < n → f i = g i) → hrN f x m n r = hrN g x m n r
  | 0, _, _ => rfl
  | n + 1, r, h => by
    show hrN f x m n ((r * x + f n) % m) = hrN g x m n ((r * x + g n) % m)
    rw [h n (by omega)]
    exact hrN_eq fun i hi => h i (by omega)
theorem hrN_lt {f : Nat → Nat} {x m : Nat} (hm : 0 < m) : ∀ {n r : Nat}, r < m → hrN f x m n r < m
  | 0, _, h => h
  | n + 1, r, h => hrN_lt (n := n) hm (Nat.mod_lt _ hm)
end
