section
-- ===== PART A: goes FIRST, ahead of the names: the tables' words, and 'selects' of the private methods out of them =====
/-- a private method of a class that the tables say can be made, by its rows of tables_1 -/
def lw_okq (q : MethodName × Nat) : Prop := (q.1.cls ≠ "java/lang/invoke/MethodHandle" ∧ q.1.cls ≠ "java/lang/invoke/VarHandle") ∧ Cond.instantiable q.1.cls q.2 ∈ tables_1 ∧ Cond.privateMethod q.1 ∈ tables_1 ∧ Cond.instanceMethod q.1 ∈ tables_1
theorem lw_p0 : lw_okq (⟨"SturmianWords", "changeSlope", "(LSturmianWords$Slope;)V"⟩, 3) := ⟨⟨by decide +kernel, by decide +kernel⟩, List.mem_of_getElem? (i := 14) (by decide +kernel), List.mem_of_getElem? (i := 128) (by decide +kernel), List.mem_of_getElem? (i := 129) (by decide +kernel)⟩
theorem lw_p1 : lw_okq (⟨"SturmianWords", "changeWord", "(LSturmianWords$Word;)V"⟩, 3) := ⟨⟨by decide +kernel, by decide +kernel⟩, List.mem_of_getElem? (i := 14) (by decide +kernel), List.mem_of_getElem? (i := 180) (by decide +kernel), List.mem_of_getElem? (i := 181) (by decide +kernel)⟩
theorem lw_p2 : lw_okq (⟨"SturmianWordsModel", "save", "()V"⟩, 11) := ⟨⟨by decide +kernel, by decide +kernel⟩, List.mem_of_getElem? (i := 437) (by decide +kernel), List.mem_of_getElem? (i := 484) (by decide +kernel), List.mem_of_getElem? (i := 485) (by decide +kernel)⟩
theorem lw_p3 : lw_okq (⟨"SturmianWordsModel", "expand", "()V"⟩, 11) := ⟨⟨by decide +kernel, by decide +kernel⟩, List.mem_of_getElem? (i := 437) (by decide +kernel), List.mem_of_getElem? (i := 510) (by decide +kernel), List.mem_of_getElem? (i := 511) (by decide +kernel)⟩
theorem lw_p4 : lw_okq (⟨"SturmianWordsModel", "letterOf", "(IZ)I"⟩, 11) := ⟨⟨by decide +kernel, by decide +kernel⟩, List.mem_of_getElem? (i := 437) (by decide +kernel), List.mem_of_getElem? (i := 519) (by decide +kernel), List.mem_of_getElem? (i := 520) (by decide +kernel)⟩
theorem lw_p5 : lw_okq (⟨"SturmianWordsModel", "take", "()V"⟩, 11) := ⟨⟨by decide +kernel, by decide +kernel⟩, List.mem_of_getElem? (i := 437) (by decide +kernel), List.mem_of_getElem? (i := 530) (by decide +kernel), List.mem_of_getElem? (i := 531) (by decide +kernel)⟩
theorem lw_p6 : lw_okq (⟨"SturmianWordsModel", "further", "(I)Z"⟩, 11) := ⟨⟨by decide +kernel, by decide +kernel⟩, List.mem_of_getElem? (i := 437) (by decide +kernel), List.mem_of_getElem? (i := 541) (by decide +kernel), List.mem_of_getElem? (i := 542) (by decide +kernel)⟩
theorem lw_p7 : lw_okq (⟨"SturmianWordsModel", "appendTo", "(I)V"⟩, 11) := ⟨⟨by decide +kernel, by decide +kernel⟩, List.mem_of_getElem? (i := 437) (by decide +kernel), List.mem_of_getElem? (i := 545) (by decide +kernel), List.mem_of_getElem? (i := 546) (by decide +kernel)⟩
theorem lw_p8 : lw_okq (⟨"SturmianWordsModel", "isPalindrome", "(II)Z"⟩, 11) := ⟨⟨by decide +kernel, by decide +kernel⟩, List.mem_of_getElem? (i := 437) (by decide +kernel), List.mem_of_getElem? (i := 565) (by decide +kernel), List.mem_of_getElem? (i := 566) (by decide +kernel)⟩
theorem lw_p9 : lw_okq (⟨"SturmianWordsModel", "stands", "(II)Z"⟩, 11) := ⟨⟨by decide +kernel, by decide +kernel⟩, List.mem_of_getElem? (i := 437) (by decide +kernel), List.mem_of_getElem? (i := 580) (by decide +kernel), List.mem_of_getElem? (i := 581) (by decide +kernel)⟩
theorem lw_p10 : lw_okq (⟨"SturmianWordsModel", "isFirst", "(II)Z"⟩, 11) := ⟨⟨by decide +kernel, by decide +kernel⟩, List.mem_of_getElem? (i := 437) (by decide +kernel), List.mem_of_getElem? (i := 604) (by decide +kernel), List.mem_of_getElem? (i := 605) (by decide +kernel)⟩
theorem lw_p11 : lw_okq (⟨"SturmianWordsModel", "compare", "(III)I"⟩, 11) := ⟨⟨by decide +kernel, by decide +kernel⟩, List.mem_of_getElem? (i := 437) (by decide +kernel), List.mem_of_getElem? (i := 608) (by decide +kernel), List.mem_of_getElem? (i := 609) (by decide +kernel)⟩
theorem lw_p12 : lw_okq (⟨"SturmianWordsModel", "numberAt", "(II)I"⟩, 11) := ⟨⟨by decide +kernel, by decide +kernel⟩, List.mem_of_getElem? (i := 437) (by decide +kernel), List.mem_of_getElem? (i := 616) (by decide +kernel), List.mem_of_getElem? (i := 617) (by decide +kernel)⟩
theorem lw_p13 : lw_okq (⟨"SturmianWordsModel", "isPeriod", "(I)Z"⟩, 11) := ⟨⟨by decide +kernel, by decide +kernel⟩, List.mem_of_getElem? (i := 437) (by decide +kernel), List.mem_of_getElem? (i := 636) (by decide +kernel), List.mem_of_getElem? (i := 637) (by decide +kernel)⟩
theorem lw_p14 : lw_okq (⟨"SturmianWordsModel", "simplest", "(I)I"⟩, 11) := ⟨⟨by decide +kernel, by decide +kernel⟩, List.mem_of_getElem? (i := 437) (by decide +kernel), List.mem_of_getElem? (i := 648) (by decide +kernel), List.mem_of_getElem? (i := 649) (by decide +kernel)⟩
theorem lw_p15 : lw_okq (⟨"SturmianWordsModel", "begins", "(III)Z"⟩, 11) := ⟨⟨by decide +kernel, by decide +kernel⟩, List.mem_of_getElem? (i := 437) (by decide +kernel), List.mem_of_getElem? (i := 652) (by decide +kernel), List.mem_of_getElem? (i := 653) (by decide +kernel)⟩
def lw_privs_1 : List (MethodName × Nat) := [(⟨"SturmianWords", "changeSlope", "(LSturmianWords$Slope;)V"⟩, 3), (⟨"SturmianWords", "changeWord", "(LSturmianWords$Word;)V"⟩, 3), (⟨"SturmianWordsModel", "save", "()V"⟩, 11), (⟨"SturmianWordsModel", "expand", "()V"⟩, 11), (⟨"SturmianWordsModel", "letterOf", "(IZ)I"⟩, 11), (⟨"SturmianWordsModel", "take", "()V"⟩, 11), (⟨"SturmianWordsModel", "further", "(I)Z"⟩, 11), (⟨"SturmianWordsModel", "appendTo", "(I)V"⟩, 11), (⟨"SturmianWordsModel", "isPalindrome", "(II)Z"⟩, 11), (⟨"SturmianWordsModel", "stands", "(II)Z"⟩, 11), (⟨"SturmianWordsModel", "isFirst", "(II)Z"⟩, 11), (⟨"SturmianWordsModel", "compare", "(III)I"⟩, 11), (⟨"SturmianWordsModel", "numberAt", "(II)I"⟩, 11), (⟨"SturmianWordsModel", "isPeriod", "(I)Z"⟩, 11), (⟨"SturmianWordsModel", "simplest", "(I)I"⟩, 11), (⟨"SturmianWordsModel", "begins", "(III)Z"⟩, 11)]
theorem lw_r1 : ∀ q ∈ lw_privs_1, lw_okq q := List.forall_mem_cons.mpr ⟨lw_p0, List.forall_mem_cons.mpr ⟨lw_p1, List.forall_mem_cons.mpr ⟨lw_p2, List.forall_mem_cons.mpr ⟨lw_p3, List.forall_mem_cons.mpr ⟨lw_p4, List.forall_mem_cons.mpr ⟨lw_p5, List.forall_mem_cons.mpr ⟨lw_p6, List.forall_mem_cons.mpr ⟨lw_p7, List.forall_mem_cons.mpr ⟨lw_p8, List.forall_mem_cons.mpr ⟨lw_p9, List.forall_mem_cons.mpr ⟨lw_p10, List.forall_mem_cons.mpr ⟨lw_p11, List.forall_mem_cons.mpr ⟨lw_p12, List.forall_mem_cons.mpr ⟨lw_p13, List.forall_mem_cons.mpr ⟨lw_p14, List.forall_mem_cons.mpr ⟨lw_p15, fun _ h => absurd h List.not_mem_nil⟩⟩⟩⟩⟩⟩⟩⟩⟩⟩⟩⟩⟩⟩⟩⟩
theorem lw_p16 : lw_okq (⟨"SturmianWordsModel", "sizeAt", "(II)I"⟩, 11) := ⟨⟨by decide +kernel, by decide +kernel⟩, List.mem_of_getElem? (i := 437) (by decide +kernel), List.mem_of_getElem? (i := 660) (by decide +kernel), List.mem_of_getElem? (i := 661) (by decide +kernel)⟩
theorem lw_p17 : lw_okq (⟨"SturmianWordsModel", "layPoints", "(I)V"⟩, 11) := ⟨⟨by decide +kernel, by decide +kernel⟩, List.mem_of_getElem? (i := 437) (by decide +kernel), List.mem_of_getElem? (i := 664) (by decide +kernel), List.mem_of_getElem? (i := 665) (by decide +kernel)⟩
theorem lw_p18 : lw_okq (⟨"SturmianWordsModel", "gapsWith", "(I)I"⟩, 11) := ⟨⟨by decide +kernel, by decide +kernel⟩, List.mem_of_getElem? (i := 437) (by decide +kernel), List.mem_of_getElem? (i := 668) (by decide +kernel), List.mem_of_getElem? (i := 669) (by decide +kernel)⟩
def lw_privs_2 : List (MethodName × Nat) := [(⟨"SturmianWordsModel", "sizeAt", "(II)I"⟩, 11), (⟨"SturmianWordsModel", "layPoints", "(I)V"⟩, 11), (⟨"SturmianWordsModel", "gapsWith", "(I)I"⟩, 11)]
theorem lw_r2 : ∀ q ∈ lw_privs_2, lw_okq q := List.forall_mem_cons.mpr ⟨lw_p16, List.forall_mem_cons.mpr ⟨lw_p17, List.forall_mem_cons.mpr ⟨lw_p18, fun _ h => absurd h List.not_mem_nil⟩⟩⟩
def lw_privs : List (MethodName × Nat) := lw_privs_1 ++ (lw_privs_2)
def lw_tbl : List Cond := k2_sels lw_privs ++ tables_1
theorem lw_privs_ok : ∀ q ∈ lw_privs, lw_okq q := by
  show ∀ q ∈ lw_privs_1 ++ (lw_privs_2), lw_okq q
  exact List.forall_mem_append.mpr ⟨lw_r1, lw_r2⟩
end
section
/-! ===== BEGIN words of one list among another's, by their places ===== -/
theorem goodIn_r {big : List Cond} (ws : List Cond) (ps : List Nat) (hp : ws = ps.filterMap (fun i => big[i]?)) (h : ws.all goodWord = true) : GoodIn big ws := by
  intro w hw
  have h1 := List.all_eq_true.mp h w hw
  rw [hp] at hw
  obtain ⟨i, -, hi⟩ := List.mem_filterMap.mp hw
  have hm : w ∈ big := by first | exact List.mem_of_getElem? hi | exact List.getElem?_mem hi
  exact ⟨hm, good_of_word h1⟩
theorem goodIn_app {big a b : List Cond} (ha : GoodIn big a) (hb : GoodIn big b) : GoodIn big (a ++ b) := fun w h => (List.mem_append.mp h).elim (ha w) (hb w)
theorem goodIn_ca {big a b : List Cond} {c : Cond} (ha : GoodIn big (c :: a)) (hb : GoodIn big b) : GoodIn big (c :: (a ++ b)) := fun w h => (List.mem_cons.mp h).elim (fun e => ha w (List.mem_cons.mpr (Or.inl e))) (fun h => (List.mem_append.mp h).elim (fun h => ha w (List.mem_cons.mpr (Or.inr h))) (hb w))
theorem goodIn_sub {big ws : List Cond} (hm : ∀ w ∈ ws, w ∈ big) (h : ws.all goodWord = true) : GoodIn big ws := fun w hw => ⟨hm w hw, good_of_word (List.all_eq_true.mp h w hw)⟩
/-! ===== END ===== -/

/-! ===== BEGIN printed: names, fields, word lists, decode rows ===== -/
def RX0 : String := "SturmianWords$Circle"
def TX0 : u_T := fun k => match k with
  | 0 => ("SturmianWords$Circle", "points", "[Z", true)
  | _ => ("SturmianWords$Circle", "gaps", "[I", true)
def tyX0 : Nat → FieldType := fun k => match k with
  | 0 => .array .boolean
  | _ => .array .int
abbrev wsX00 : List Cond := u_ws RX0 TX0 2
theorem nmX0 : ∀ a, a < 2 → ∀ b, b < 2 → a ≠ b → (TX0 a).2.1 ≠ (TX0 b).2.1 := by decide +kernel
theorem tyX0_ok : ∀ k, k < 2 → parseFieldDescriptor (TX0 k).2.2.1 = some (tyX0 k) := by decide +kernel
abbrev cX0_init : ByteArray := prog_2_method_1_code
def yX0_init : MethodName := ⟨RX0, "<init>", "()V"⟩
abbrev cX0_measure : ByteArray := prog_2_method_2_code
def yX0_measure : MethodName := ⟨RX0, "measure", "(LSturmianWords$Slope;I)V"⟩
abbrev cX0_markPoints : ByteArray := prog_2_method_3_code
def yX0_markPoints : MethodName := ⟨RX0, "markPoints", "(LSturmianWords$Slope;I)V"⟩
abbrev cX0_isPoint : ByteArray := prog_2_method_4_code
def yX0_isPoint : MethodName := ⟨RX0, "isPoint", "(I)Z"⟩
abbrev cX0_addGap : ByteArray := prog_2_method_5_code
def yX0_addGap : MethodName := ⟨RX0, "addGap", "(I)V"⟩
abbrev cX0_gapsWith : ByteArray := prog_2_method_6_code
def yX0_gapsWith : MethodName := ⟨RX0, "gapsWith", "(I)I"⟩
abbrev cX0_differentSizes : ByteArray := prog_2_method_7_code
def yX0_differentSizes : MethodName := ⟨RX0, "differentSizes", "()I"⟩
abbrev cX0_listedSize : ByteArray := prog_2_method_8_code
def yX0_listedSize : MethodName := ⟨RX0, "listedSize", "(I)I"⟩
def RX1 : String := "SturmianWords$History"
def TX1 : u_T := fun k => match k with
  | 0 => ("SturmianWords$History", "rows", "[LSturmianWords$State;", true)
  | 1 => ("SturmianWords$History", "next", "I", false)
  | _ => ("SturmianWords$History", "kept", "I", false)
def tyX1 : Nat → FieldType := fun k => match k with
  | 0 => .array (.object "SturmianWords$State")
  | 1 => .int
  | _ => .int
abbrev wsX10 : List Cond := u_ws RX1 TX1 3
theorem nmX1 : ∀ a, a < 3 → ∀ b, b < 3 → a ≠ b → (TX1 a).2.1 ≠ (TX1 b).2.1 := by decide +kernel
theorem tyX1_ok : ∀ k, k < 3 → parseFieldDescriptor (TX1 k).2.2.1 = some (tyX1 k) := by decide +kernel
abbrev cX1_init : ByteArray := prog_3_method_1_code
def yX1_init : MethodName := ⟨RX1, "<init>", "()V"⟩
abbrev cX1_keep : ByteArray := prog_3_method_2_code
def yX1_keep : MethodName := ⟨RX1, "keep", "(LSturmianWords$State;)V"⟩
abbrev cX1_takeLatest : ByteArray := prog_3_method_3_code
def yX1_takeLatest : MethodName := ⟨RX1, "takeLatest", "()LSturmianWords$State;"⟩
def RX2 : String := "SturmianWords$Morphism"
def TX2 : u_T := fun k => match k with
  | _ => ("", "", "", false)
def tyX2 : Nat → FieldType := fun k => match k with
  | _ => .int
abbrev wsX20 : List Cond := u_ws RX2 TX2 0
theorem nmX2 : ∀ a, a < 0 → ∀ b, b < 0 → a ≠ b → (TX2 a).2.1 ≠ (TX2 b).2.1 := by decide +kernel
theorem tyX2_ok : ∀ k, k < 0 → parseFieldDescriptor (TX2 k).2.2.1 = some (tyX2 k) := by decide +kernel
abbrev cX2_numbered : ByteArray := prog_4_method_4_code
def yX2_numbered : MethodName := ⟨RX2, "numbered", "(I)LSturmianWords$Morphism;"⟩
abbrev cX2_bitsOf : ByteArray := prog_4_method_5_code
def yX2_bitsOf : MethodName := ⟨RX2, "bitsOf", "(I)I"⟩
abbrev cX2_sizeOf : ByteArray := prog_4_method_6_code
def yX2_sizeOf : MethodName := ⟨RX2, "sizeOf", "(I)I"⟩
abbrev cX2_imageOf : ByteArray := prog_4_method_7_code
def yX2_imageOf : MethodName := ⟨RX2, "imageOf", "(LSturmianWords$Word;)LSturmianWords$Word;"⟩
abbrev cX2_originOf : ByteArray := prog_4_method_8_code
def yX2_originOf : MethodName := ⟨RX2, "originOf", "(LSturmianWords$Word;)LSturmianWords$Word;"⟩
abbrev cX2_letterBehind : ByteArray := prog_4_method_9_code
def yX2_letterBehind : MethodName := ⟨RX2, "letterBehind", "(LSturmianWords$Word;I)I"⟩
abbrev cX2_hasImageAt : ByteArray := prog_4_method_10_code
def yX2_hasImageAt : MethodName := ⟨RX2, "hasImageAt", "(LSturmianWords$Word;II)Z"⟩
def RX3 : String := "SturmianWords$Slope"
def TX3 : u_T := fun k => match k with
  | 0 => ("SturmianWords$Slope", "numerator", "I", true)
  | 1 => ("SturmianWords$Slope", "denominator", "I", true)
  | _ => ("SturmianWords$Slope", "intercept", "I", true)
def tyX3 : Nat → FieldType := fun k => match k with
  | 0 => .int
  | 1 => .int
  | _ => .int
abbrev wsX30 : List Cond := u_ws RX3 TX3 3
theorem nmX3 : ∀ a, a < 3 → ∀ b, b < 3 → a ≠ b → (TX3 a).2.1 ≠ (TX3 b).2.1 := by decide +kernel
theorem tyX3_ok : ∀ k, k < 3 → parseFieldDescriptor (TX3 k).2.2.1 = some (tyX3 k) := by decide +kernel
abbrev cX3_init : ByteArray := prog_5_method_1_code
def yX3_init : MethodName := ⟨RX3, "<init>", "(III)V"⟩
abbrev cX3_term : ByteArray := prog_5_method_2_code
def yX3_term : MethodName := ⟨RX3, "term", "(I)I"⟩
abbrev cX3_letter : ByteArray := prog_5_method_3_code
def yX3_letter : MethodName := ⟨RX3, "letter", "(IZ)I"⟩
abbrev cX3_firstLetters : ByteArray := prog_5_method_4_code
def yX3_firstLetters : MethodName := ⟨RX3, "firstLetters", "(IZ)LSturmianWords$Word;"⟩
abbrev cX3_standardWord : ByteArray := prog_5_method_5_code
def yX3_standardWord : MethodName := ⟨RX3, "standardWord", "(I)LSturmianWords$Word;"⟩
def RX4 : String := "SturmianWords$State"
def TX4 : u_T := fun k => match k with
  | 0 => ("SturmianWords$State", "slope", "LSturmianWords$Slope;", true)
  | _ => ("SturmianWords$State", "word", "LSturmianWords$Word;", true)
def tyX4 : Nat → FieldType := fun k => match k with
  | 0 => .object "SturmianWords$Slope"
  | _ => .object "SturmianWords$Word"
abbrev wsX40 : List Cond := u_ws RX4 TX4 2
theorem nmX4 : ∀ a, a < 2 → ∀ b, b < 2 → a ≠ b → (TX4 a).2.1 ≠ (TX4 b).2.1 := by decide +kernel
theorem tyX4_ok : ∀ k, k < 2 → parseFieldDescriptor (TX4 k).2.2.1 = some (tyX4 k) := by decide +kernel
abbrev cX4_init : ByteArray := prog_6_method_1_code
def yX4_init : MethodName := ⟨RX4, "<init>", "(LSturmianWords$Slope;LSturmianWords$Word;)V"⟩
def RX5 : String := "SturmianWords$Word"
def TX5 : u_T := fun k => match k with
  | 0 => ("SturmianWords$Word", "bits", "J", true)
  | _ => ("SturmianWords$Word", "size", "I", true)
def tyX5 : Nat → FieldType := fun k => match k with
  | 0 => .long
  | _ => .int
abbrev wsX50 : List Cond := u_ws RX5 TX5 2
theorem nmX5 : ∀ a, a < 2 → ∀ b, b < 2 → a ≠ b → (TX5 a).2.1 ≠ (TX5 b).2.1 := by decide +kernel
theorem tyX5_ok : ∀ k, k < 2 → parseFieldDescriptor (TX5 k).2.2.1 = some (tyX5 k) := by decide +kernel
abbrev cX5_init : ByteArray := prog_7_method_1_code
def yX5_init : MethodName := ⟨RX5, "<init>", "(JI)V"⟩
abbrev cX5_letter : ByteArray := prog_7_method_2_code
def yX5_letter : MethodName := ⟨RX5, "letter", "(I)I"⟩
abbrev cX5_factor : ByteArray := prog_7_method_3_code
def yX5_factor : MethodName := ⟨RX5, "factor", "(II)J"⟩
abbrev cX5_ones : ByteArray := prog_7_method_4_code
def yX5_ones : MethodName := ⟨RX5, "ones", "()I"⟩
abbrev cX5_reversed : ByteArray := prog_7_method_5_code
def yX5_reversed : MethodName := ⟨RX5, "reversed", "()LSturmianWords$Word;"⟩
abbrev cX5_repeatedThen : ByteArray := prog_7_method_6_code
def yX5_repeatedThen : MethodName := ⟨RX5, "repeatedThen", "(ILSturmianWords$Word;)LSturmianWords$Word;"⟩
abbrev cX5_isNew : ByteArray := prog_7_method_7_code
def yX5_isNew : MethodName := ⟨RX5, "isNew", "(II)Z"⟩
abbrev cX5_differentFactors : ByteArray := prog_7_method_8_code
def yX5_differentFactors : MethodName := ⟨RX5, "differentFactors", "(I)I"⟩
abbrev cX5_listedFactor : ByteArray := prog_7_method_9_code
def yX5_listedFactor : MethodName := ⟨RX5, "listedFactor", "(II)J"⟩
abbrev cX5_nextFactor : ByteArray := prog_7_method_10_code
def yX5_nextFactor : MethodName := ⟨RX5, "nextFactor", "(IJ)J"⟩
abbrev cX5_weightSpread : ByteArray := prog_7_method_11_code
def yX5_weightSpread : MethodName := ⟨RX5, "weightSpread", "(I)I"⟩
abbrev cX5_isPalindrome : ByteArray := prog_7_method_12_code
def yX5_isPalindrome : MethodName := ⟨RX5, "isPalindrome", "(IILSturmianWords$Word;)Z"⟩
abbrev cX5_differentPalindromes : ByteArray := prog_7_method_13_code
def yX5_differentPalindromes : MethodName := ⟨RX5, "differentPalindromes", "()I"⟩
abbrev cX5_hasPeriod : ByteArray := prog_7_method_14_code
def yX5_hasPeriod : MethodName := ⟨RX5, "hasPeriod", "(I)Z"⟩
abbrev cX5_simplest : ByteArray := prog_7_method_15_code
def yX5_simplest : MethodName := ⟨RX5, "simplest", "()LSturmianWords$Slope;"⟩
abbrev cX5_leastIntercept : ByteArray := prog_7_method_16_code
def yX5_leastIntercept : MethodName := ⟨RX5, "leastIntercept", "(II)I"⟩
def RX6 : String := "SturmianWords"
def TX6 : u_T := fun k => match k with
  | 0 => ("SturmianWords", "history", "LSturmianWords$History;", true)
  | 1 => ("SturmianWords", "circle", "LSturmianWords$Circle;", true)
  | _ => ("SturmianWords", "state", "LSturmianWords$State;", false)
def tyX6 : Nat → FieldType := fun k => match k with
  | 0 => .object "SturmianWords$History"
  | 1 => .object "SturmianWords$Circle"
  | _ => .object "SturmianWords$State"
abbrev wsX60 : List Cond := u_ws RX6 TX6 3
theorem nmX6 : ∀ a, a < 3 → ∀ b, b < 3 → a ≠ b → (TX6 a).2.1 ≠ (TX6 b).2.1 := by decide +kernel
theorem tyX6_ok : ∀ k, k < 3 → parseFieldDescriptor (TX6 k).2.2.1 = some (tyX6 k) := by decide +kernel
abbrev cX6_init : ByteArray := prog_1_method_1_code
def yX6_init : MethodName := ⟨RX6, "<init>", "()V"⟩
abbrev cX6_setSlope : ByteArray := prog_1_method_2_code
def yX6_setSlope : MethodName := ⟨RX6, "setSlope", "(II)I"⟩
abbrev cX6_setIntercept : ByteArray := prog_1_method_3_code
def yX6_setIntercept : MethodName := ⟨RX6, "setIntercept", "(I)I"⟩
abbrev cX6_slopeNumerator : ByteArray := prog_1_method_4_code
def yX6_slopeNumerator : MethodName := ⟨RX6, "slopeNumerator", "()I"⟩
abbrev cX6_slopeDenominator : ByteArray := prog_1_method_5_code
def yX6_slopeDenominator : MethodName := ⟨RX6, "slopeDenominator", "()I"⟩
abbrev cX6_continuedFractionTerm : ByteArray := prog_1_method_6_code
def yX6_continuedFractionTerm : MethodName := ⟨RX6, "continuedFractionTerm", "(I)I"⟩
abbrev cX6_mechanicalLetter : ByteArray := prog_1_method_7_code
def yX6_mechanicalLetter : MethodName := ⟨RX6, "mechanicalLetter", "(IZ)I"⟩
abbrev cX6_loadMechanical : ByteArray := prog_1_method_8_code
def yX6_loadMechanical : MethodName := ⟨RX6, "loadMechanical", "(IZ)I"⟩
abbrev cX6_loadStandard : ByteArray := prog_1_method_9_code
def yX6_loadStandard : MethodName := ⟨RX6, "loadStandard", "(I)I"⟩
abbrev cX6_append : ByteArray := prog_1_method_10_code
def yX6_append : MethodName := ⟨RX6, "append", "(I)I"⟩
abbrev cX6_removeLast : ByteArray := prog_1_method_11_code
def yX6_removeLast : MethodName := ⟨RX6, "removeLast", "()I"⟩
abbrev cX6_clear : ByteArray := prog_1_method_12_code
def yX6_clear : MethodName := ⟨RX6, "clear", "()I"⟩
abbrev cX6_reverse : ByteArray := prog_1_method_13_code
def yX6_reverse : MethodName := ⟨RX6, "reverse", "()I"⟩
abbrev cX6_applyMorphism : ByteArray := prog_1_method_14_code
def yX6_applyMorphism : MethodName := ⟨RX6, "applyMorphism", "(I)I"⟩
abbrev cX6_invertMorphism : ByteArray := prog_1_method_15_code
def yX6_invertMorphism : MethodName := ⟨RX6, "invertMorphism", "(I)I"⟩
abbrev cX6_undo : ByteArray := prog_1_method_16_code
def yX6_undo : MethodName := ⟨RX6, "undo", "()I"⟩
abbrev cX6_length : ByteArray := prog_1_method_17_code
def yX6_length : MethodName := ⟨RX6, "length", "()I"⟩
abbrev cX6_weight : ByteArray := prog_1_method_18_code
def yX6_weight : MethodName := ⟨RX6, "weight", "()I"⟩
abbrev cX6_letterAt : ByteArray := prog_1_method_19_code
def yX6_letterAt : MethodName := ⟨RX6, "letterAt", "(I)I"⟩
abbrev cX6_factorCount : ByteArray := prog_1_method_20_code
def yX6_factorCount : MethodName := ⟨RX6, "factorCount", "(I)I"⟩
abbrev cX6_factorAt : ByteArray := prog_1_method_21_code
def yX6_factorAt : MethodName := ⟨RX6, "factorAt", "(II)I"⟩
abbrev cX6_unbalancedLength : ByteArray := prog_1_method_22_code
def yX6_unbalancedLength : MethodName := ⟨RX6, "unbalancedLength", "()I"⟩
abbrev cX6_palindromeCount : ByteArray := prog_1_method_23_code
def yX6_palindromeCount : MethodName := ⟨RX6, "palindromeCount", "()I"⟩
abbrev cX6_longestPalindromicPrefix : ByteArray := prog_1_method_24_code
def yX6_longestPalindromicPrefix : MethodName := ⟨RX6, "longestPalindromicPrefix", "()I"⟩
abbrev cX6_leastPeriod : ByteArray := prog_1_method_25_code
def yX6_leastPeriod : MethodName := ⟨RX6, "leastPeriod", "()I"⟩
abbrev cX6_isCentral : ByteArray := prog_1_method_26_code
def yX6_isCentral : MethodName := ⟨RX6, "isCentral", "()I"⟩
abbrev cX6_simplestSlope : ByteArray := prog_1_method_27_code
def yX6_simplestSlope : MethodName := ⟨RX6, "simplestSlope", "(I)I"⟩
abbrev cX6_gapSizeCount : ByteArray := prog_1_method_28_code
def yX6_gapSizeCount : MethodName := ⟨RX6, "gapSizeCount", "(I)I"⟩
abbrev cX6_gapSize : ByteArray := prog_1_method_29_code
def yX6_gapSize : MethodName := ⟨RX6, "gapSize", "(II)I"⟩
abbrev cX6_gapsOfSize : ByteArray := prog_1_method_30_code
def yX6_gapsOfSize : MethodName := ⟨RX6, "gapsOfSize", "(II)I"⟩
abbrev cX6_historySize : ByteArray := prog_1_method_31_code
def yX6_historySize : MethodName := ⟨RX6, "historySize", "()I"⟩
abbrev cX6_changeSlope : ByteArray := prog_1_method_32_code
def yX6_changeSlope : MethodName := ⟨RX6, "changeSlope", "(LSturmianWords$Slope;)V"⟩
abbrev cX6_changeWord : ByteArray := prog_1_method_33_code
def yX6_changeWord : MethodName := ⟨RX6, "changeWord", "(LSturmianWords$Word;)V"⟩
abbrev cX6_quotient : ByteArray := prog_1_method_34_code
def yX6_quotient : MethodName := ⟨RX6, "quotient", "(JJ)J"⟩
abbrev cX6_commonDivisor : ByteArray := prog_1_method_35_code
def yX6_commonDivisor : MethodName := ⟨RX6, "commonDivisor", "(II)I"⟩
def RX7 : String := "SturmianWordsModel"
def TX7 : u_T := fun k => match k with
  | 0 => ("SturmianWordsModel", "now", "[I", true)
  | 1 => ("SturmianWordsModel", "next", "[I", true)
  | 2 => ("SturmianWordsModel", "past", "[I", true)
  | 3 => ("SturmianWordsModel", "edits", "I", false)
  | 4 => ("SturmianWordsModel", "terms", "[I", true)
  | 5 => ("SturmianWordsModel", "termCount", "I", false)
  | 6 => ("SturmianWordsModel", "older", "[I", true)
  | 7 => ("SturmianWordsModel", "olderLength", "I", false)
  | 8 => ("SturmianWordsModel", "newer", "[I", true)
  | 9 => ("SturmianWordsModel", "newerLength", "I", false)
  | _ => ("SturmianWordsModel", "points", "[Z", true)
def tyX7 : Nat → FieldType := fun k => match k with
  | 0 => .array .int
  | 1 => .array .int
  | 2 => .array .int
  | 3 => .int
  | 4 => .array .int
  | 5 => .int
  | 6 => .array .int
  | 7 => .int
  | 8 => .array .int
  | 9 => .int
  | _ => .array .boolean
abbrev wsX70 : List Cond := u_ws RX7 TX7 11
theorem nmX7 : ∀ a, a < 11 → ∀ b, b < 11 → a ≠ b → (TX7 a).2.1 ≠ (TX7 b).2.1 := by decide +kernel
theorem tyX7_ok : ∀ k, k < 11 → parseFieldDescriptor (TX7 k).2.2.1 = some (tyX7 k) := by decide +kernel
abbrev cX7_init : ByteArray := prog_9_method_1_code
def yX7_init : MethodName := ⟨RX7, "<init>", "()V"⟩
abbrev cX7_in : ByteArray := prog_9_method_3_code
def yX7_in : MethodName := ⟨RX7, "in", "(III)Z"⟩
abbrev cX7_copy : ByteArray := prog_9_method_4_code
def yX7_copy : MethodName := ⟨RX7, "copy", "([II[II)V"⟩
abbrev cX7_save : ByteArray := prog_9_method_5_code
def yX7_save : MethodName := ⟨RX7, "save", "()V"⟩
abbrev cX7_take : ByteArray := prog_9_method_6_code
def yX7_take : MethodName := ⟨RX7, "take", "()V"⟩
abbrev cX7_divisor : ByteArray := prog_9_method_7_code
def yX7_divisor : MethodName := ⟨RX7, "divisor", "(II)I"⟩
abbrev cX7_setSlope : ByteArray := prog_9_method_8_code
def yX7_setSlope : MethodName := ⟨RX7, "setSlope", "(II)I"⟩
abbrev cX7_setIntercept : ByteArray := prog_9_method_9_code
def yX7_setIntercept : MethodName := ⟨RX7, "setIntercept", "(I)I"⟩
abbrev cX7_slopeNumerator : ByteArray := prog_9_method_10_code
def yX7_slopeNumerator : MethodName := ⟨RX7, "slopeNumerator", "()I"⟩
abbrev cX7_slopeDenominator : ByteArray := prog_9_method_11_code
def yX7_slopeDenominator : MethodName := ⟨RX7, "slopeDenominator", "()I"⟩
abbrev cX7_expand : ByteArray := prog_9_method_12_code
def yX7_expand : MethodName := ⟨RX7, "expand", "()V"⟩
abbrev cX7_continuedFractionTerm : ByteArray := prog_9_method_13_code
def yX7_continuedFractionTerm : MethodName := ⟨RX7, "continuedFractionTerm", "(I)I"⟩
abbrev cX7_roundedUp : ByteArray := prog_9_method_14_code
def yX7_roundedUp : MethodName := ⟨RX7, "roundedUp", "(II)I"⟩
abbrev cX7_letterOf : ByteArray := prog_9_method_15_code
def yX7_letterOf : MethodName := ⟨RX7, "letterOf", "(IZ)I"⟩
abbrev cX7_mechanicalLetter : ByteArray := prog_9_method_16_code
def yX7_mechanicalLetter : MethodName := ⟨RX7, "mechanicalLetter", "(IZ)I"⟩
abbrev cX7_weightOf : ByteArray := prog_9_method_17_code
def yX7_weightOf : MethodName := ⟨RX7, "weightOf", "([I)I"⟩
abbrev cX7_loadMechanical : ByteArray := prog_9_method_18_code
def yX7_loadMechanical : MethodName := ⟨RX7, "loadMechanical", "(IZ)I"⟩
abbrev cX7_appendTo : ByteArray := prog_9_method_19_code
def yX7_appendTo : MethodName := ⟨RX7, "appendTo", "(I)V"⟩
abbrev cX7_further : ByteArray := prog_9_method_20_code
def yX7_further : MethodName := ⟨RX7, "further", "(I)Z"⟩
abbrev cX7_loadStandard : ByteArray := prog_9_method_21_code
def yX7_loadStandard : MethodName := ⟨RX7, "loadStandard", "(I)I"⟩
abbrev cX7_append : ByteArray := prog_9_method_22_code
def yX7_append : MethodName := ⟨RX7, "append", "(I)I"⟩
abbrev cX7_removeLast : ByteArray := prog_9_method_23_code
def yX7_removeLast : MethodName := ⟨RX7, "removeLast", "()I"⟩
abbrev cX7_clear : ByteArray := prog_9_method_24_code
def yX7_clear : MethodName := ⟨RX7, "clear", "()I"⟩
abbrev cX7_isPalindrome : ByteArray := prog_9_method_25_code
def yX7_isPalindrome : MethodName := ⟨RX7, "isPalindrome", "(II)Z"⟩
abbrev cX7_reverse : ByteArray := prog_9_method_26_code
def yX7_reverse : MethodName := ⟨RX7, "reverse", "()I"⟩
abbrev cX7_imageOf : ByteArray := prog_9_method_27_code
def yX7_imageOf : MethodName := ⟨RX7, "imageOf", "(II)I"⟩
abbrev cX7_applyMorphism : ByteArray := prog_9_method_28_code
def yX7_applyMorphism : MethodName := ⟨RX7, "applyMorphism", "(I)I"⟩
abbrev cX7_stands : ByteArray := prog_9_method_29_code
def yX7_stands : MethodName := ⟨RX7, "stands", "(II)Z"⟩
abbrev cX7_invertMorphism : ByteArray := prog_9_method_30_code
def yX7_invertMorphism : MethodName := ⟨RX7, "invertMorphism", "(I)I"⟩
abbrev cX7_undo : ByteArray := prog_9_method_31_code
def yX7_undo : MethodName := ⟨RX7, "undo", "()I"⟩
abbrev cX7_length : ByteArray := prog_9_method_32_code
def yX7_length : MethodName := ⟨RX7, "length", "()I"⟩
abbrev cX7_weight : ByteArray := prog_9_method_33_code
def yX7_weight : MethodName := ⟨RX7, "weight", "()I"⟩
abbrev cX7_letterAt : ByteArray := prog_9_method_34_code
def yX7_letterAt : MethodName := ⟨RX7, "letterAt", "(I)I"⟩
abbrev cX7_compare : ByteArray := prog_9_method_35_code
def yX7_compare : MethodName := ⟨RX7, "compare", "(III)I"⟩
abbrev cX7_isFirst : ByteArray := prog_9_method_36_code
def yX7_isFirst : MethodName := ⟨RX7, "isFirst", "(II)Z"⟩
abbrev cX7_factorCount : ByteArray := prog_9_method_37_code
def yX7_factorCount : MethodName := ⟨RX7, "factorCount", "(I)I"⟩
abbrev cX7_numberAt : ByteArray := prog_9_method_38_code
def yX7_numberAt : MethodName := ⟨RX7, "numberAt", "(II)I"⟩
abbrev cX7_factorAt : ByteArray := prog_9_method_39_code
def yX7_factorAt : MethodName := ⟨RX7, "factorAt", "(II)I"⟩
abbrev cX7_unbalancedLength : ByteArray := prog_9_method_40_code
def yX7_unbalancedLength : MethodName := ⟨RX7, "unbalancedLength", "()I"⟩
abbrev cX7_palindromeCount : ByteArray := prog_9_method_41_code
def yX7_palindromeCount : MethodName := ⟨RX7, "palindromeCount", "()I"⟩
abbrev cX7_longestPalindromicPrefix : ByteArray := prog_9_method_42_code
def yX7_longestPalindromicPrefix : MethodName := ⟨RX7, "longestPalindromicPrefix", "()I"⟩
abbrev cX7_isPeriod : ByteArray := prog_9_method_43_code
def yX7_isPeriod : MethodName := ⟨RX7, "isPeriod", "(I)Z"⟩
abbrev cX7_leastPeriod : ByteArray := prog_9_method_44_code
def yX7_leastPeriod : MethodName := ⟨RX7, "leastPeriod", "()I"⟩
abbrev cX7_isCentral : ByteArray := prog_9_method_45_code
def yX7_isCentral : MethodName := ⟨RX7, "isCentral", "()I"⟩
abbrev cX7_begins : ByteArray := prog_9_method_46_code
def yX7_begins : MethodName := ⟨RX7, "begins", "(III)Z"⟩
abbrev cX7_simplest : ByteArray := prog_9_method_47_code
def yX7_simplest : MethodName := ⟨RX7, "simplest", "(I)I"⟩
abbrev cX7_simplestSlope : ByteArray := prog_9_method_48_code
def yX7_simplestSlope : MethodName := ⟨RX7, "simplestSlope", "(I)I"⟩
abbrev cX7_layPoints : ByteArray := prog_9_method_49_code
def yX7_layPoints : MethodName := ⟨RX7, "layPoints", "(I)V"⟩
abbrev cX7_gapsWith : ByteArray := prog_9_method_50_code
def yX7_gapsWith : MethodName := ⟨RX7, "gapsWith", "(I)I"⟩
abbrev cX7_sizeAt : ByteArray := prog_9_method_51_code
def yX7_sizeAt : MethodName := ⟨RX7, "sizeAt", "(II)I"⟩
abbrev cX7_gapSizeCount : ByteArray := prog_9_method_52_code
def yX7_gapSizeCount : MethodName := ⟨RX7, "gapSizeCount", "(I)I"⟩
abbrev cX7_gapSize : ByteArray := prog_9_method_53_code
def yX7_gapSize : MethodName := ⟨RX7, "gapSize", "(II)I"⟩
abbrev cX7_gapsOfSize : ByteArray := prog_9_method_54_code
def yX7_gapsOfSize : MethodName := ⟨RX7, "gapsOfSize", "(II)I"⟩
abbrev cX7_historySize : ByteArray := prog_9_method_55_code
def yX7_historySize : MethodName := ⟨RX7, "historySize", "()I"⟩
def RJx29ce0 : String := "java/lang/Enum"
def TJx29ce0 : u_T := fun k => match k with
  | _ => ("", "", "", false)
def tyJx29ce0 : Nat → FieldType := fun k => match k with
  | _ => .int
abbrev wsJx29ce00 : List Cond := u_ws RJx29ce0 TJx29ce0 0
theorem nmJx29ce0 : ∀ a, a < 0 → ∀ b, b < 0 → a ≠ b → (TJx29ce0 a).2.1 ≠ (TJx29ce0 b).2.1 := by decide +kernel
theorem tyJx29ce0_ok : ∀ k, k < 0 → parseFieldDescriptor (TJx29ce0 k).2.2.1 = some (tyJx29ce0 k) := by decide +kernel
def RJ13 : String := "java/lang/Long"
def TJ13 : u_T := fun k => match k with
  | _ => ("", "", "", false)
def tyJ13 : Nat → FieldType := fun k => match k with
  | _ => .int
abbrev wsJ130 : List Cond := u_ws RJ13 TJ13 0
theorem nmJ13 : ∀ a, a < 0 → ∀ b, b < 0 → a ≠ b → (TJ13 a).2.1 ≠ (TJ13 b).2.1 := by decide +kernel
theorem tyJ13_ok : ∀ k, k < 0 → parseFieldDescriptor (TJ13 k).2.2.1 = some (tyJ13 k) := by decide +kernel
abbrev cJ13_bitCount_95d88 : ByteArray := prog_11_method_50_code
def yJ13_bitCount_95d88 : MethodName := ⟨RJ13, "bitCount", "(J)I"⟩
def RJ9 : String := "java/lang/Math"
def TJ9 : u_T := fun k => match k with
  | _ => ("", "", "", false)
def tyJ9 : Nat → FieldType := fun k => match k with
  | _ => .int
abbrev wsJ90 : List Cond := u_ws RJ9 TJ9 0
theorem nmJ9 : ∀ a, a < 0 → ∀ b, b < 0 → a ≠ b → (TJ9 a).2.1 ≠ (TJ9 b).2.1 := by decide +kernel
theorem tyJ9_ok : ∀ k, k < 0 → parseFieldDescriptor (TJ9 k).2.2.1 = some (tyJ9 k) := by decide +kernel
abbrev cJ9_max_7cf53 : ByteArray := prog_12_method_65_code
def yJ9_max_7cf53 : MethodName := ⟨RJ9, "max", "(II)I"⟩
abbrev cJ9_min_7cf53 : ByteArray := prog_12_method_69_code
def yJ9_min_7cf53 : MethodName := ⟨RJ9, "min", "(II)I"⟩
def RJ7 : String := "java/util/Arrays"
def TJ7 : u_T := fun k => match k with
  | _ => ("", "", "", false)
def tyJ7 : Nat → FieldType := fun k => match k with
  | _ => .int
abbrev wsJ70 : List Cond := u_ws RJ7 TJ7 0
theorem nmJ7 : ∀ a, a < 0 → ∀ b, b < 0 → a ≠ b → (TJ7 a).2.1 ≠ (TJ7 b).2.1 := by decide +kernel
theorem tyJ7_ok : ∀ k, k < 0 → parseFieldDescriptor (TJ7 k).2.2.1 = some (tyJ7 k) := by decide +kernel
abbrev cJ7_fill_53178 : ByteArray := prog_13_method_103_code
def yJ7_fill_53178 : MethodName := ⟨RJ7, "fill", "([II)V"⟩
def RL : String := "SturmianWordsLaw"
abbrev cL_law : ByteArray := code
def yL_law : MethodName := ⟨RL, "law", "([I)Z"⟩
def wsX0_init : List Cond := .code yX0_init cX0_init 1 none :: ([.methodLink RX0 3 objectInit, .instanceMethod objectInit, .code objectInit ⟨#[0xb1]⟩ 1 none, .arrayClass .boolean, .fieldLink RX0 9 "SturmianWords$Circle" "points" "[Z", .arrayClass .int, .fieldLink RX0 15 "SturmianWords$Circle" "gaps" "[I"] ++ wsX00)
def wsX0_markPoints : List Cond := .code yX0_markPoints cX0_markPoints 5 none :: ([.fieldLink RX0 9 "SturmianWords$Circle" "points" "[Z"] ++ wsX00 ++ wsX30)
def wsJ7_fill_53178 : List Cond := .code yJ7_fill_53178 cJ7_fill_53178 4 none :: ([])
def wsX0_isPoint : List Cond := .code yX0_isPoint cX0_isPoint 2 (some .boolean) :: ([.fieldLink RX0 9 "SturmianWords$Circle" "points" "[Z"] ++ wsX00)
def wsX0_addGap : List Cond := .code yX0_addGap cX0_addGap 2 none :: ([.fieldLink RX0 15 "SturmianWords$Circle" "gaps" "[I"] ++ wsX00)
def wsX0_measure : List Cond := .code yX0_measure cX0_measure 5 none :: ([.fieldLink RX0 15 "SturmianWords$Circle" "gaps" "[I", .methodLink RX0 19 yX0_markPoints, .instanceMethod yX0_markPoints, .selects RX0 yX0_markPoints yX0_markPoints, .initialized RX0, .code yX0_markPoints cX0_markPoints 5 none, .fieldLink RX0 9 "SturmianWords$Circle" "points" "[Z", .methodLink RX0 23 yJ7_fill_53178, .static yJ7_fill_53178, .initialized RJ7, .code yJ7_fill_53178 cJ7_fill_53178 4 none, .methodLink RX0 35 yX0_isPoint, .instanceMethod yX0_isPoint, .selects RX0 yX0_isPoint yX0_isPoint, .code yX0_isPoint cX0_isPoint 2 (some .boolean), .methodLink RX0 39 yX0_addGap, .instanceMethod yX0_addGap, .selects RX0 yX0_addGap yX0_addGap, .code yX0_addGap cX0_addGap 2 none] ++ wsX00 ++ wsX30)
def wsX0_gapsWith : List Cond := .code yX0_gapsWith cX0_gapsWith 2 (some .int) :: ([.fieldLink RX0 15 "SturmianWords$Circle" "gaps" "[I"] ++ wsX00)
def wsX0_differentSizes : List Cond := .code yX0_differentSizes cX0_differentSizes 3 (some .int) :: ([.fieldLink RX0 15 "SturmianWords$Circle" "gaps" "[I"] ++ wsX00)
def wsX0_listedSize : List Cond := .code yX0_listedSize cX0_listedSize 4 (some .int) :: ([.fieldLink RX0 15 "SturmianWords$Circle" "gaps" "[I"] ++ wsX00)
def wsX1_init : List Cond := .code yX1_init cX1_init 1 none :: ([.methodLink RX1 3 objectInit, .instanceMethod objectInit, .code objectInit ⟨#[0xb1]⟩ 1 none, .classLink RX1 9 RX4, .fieldLink RX1 11 "SturmianWords$History" "rows" "[LSturmianWords$State;", .fieldLink RX1 17 "SturmianWords$History" "next" "I", .fieldLink RX1 21 "SturmianWords$History" "kept" "I"] ++ wsX10)
def wsX1_keep : List Cond := .code yX1_keep cX1_keep 2 none :: ([.fieldLink RX1 17 "SturmianWords$History" "next" "I", .fieldLink RX1 11 "SturmianWords$History" "rows" "[LSturmianWords$State;", .fieldLink RX1 21 "SturmianWords$History" "kept" "I", .methodLink RX1 24 Lib.Math.min.name, .static Lib.Math.min.name, .initialized "java/lang/Math", .code Lib.Math.min.name Lib.Math.min.code 2 (some .int)] ++ wsX10)
def wsX1_takeLatest : List Cond := .code yX1_takeLatest cX1_takeLatest 2 (some (.object "SturmianWords$State")) :: ([.fieldLink RX1 17 "SturmianWords$History" "next" "I", .fieldLink RX1 11 "SturmianWords$History" "rows" "[LSturmianWords$State;", .fieldLink RX1 21 "SturmianWords$History" "kept" "I"] ++ wsX10)
def wsX2_numbered : List Cond := .code yX2_numbered cX2_numbered 1 (some (.object "SturmianWords$Morphism")) :: ([.fieldLink RX2 5 "SturmianWords$Morphism" "EXCHANGE" "LSturmianWords$Morphism;", .fieldLink RX2 9 "SturmianWords$Morphism" "ZERO_TO_01" "LSturmianWords$Morphism;", .fieldLink RX2 12 "SturmianWords$Morphism" "ZERO_TO_10" "LSturmianWords$Morphism;", .fieldLink RX2 15 "SturmianWords$Morphism" "ONE_TO_01" "LSturmianWords$Morphism;", .fieldLink RX2 18 "SturmianWords$Morphism" "ONE_TO_10" "LSturmianWords$Morphism;"])
def wsX2_bitsOf : List Cond := .code yX2_bitsOf cX2_bitsOf 2 (some .int) :: ([.fieldLink RX2 40 "SturmianWords$Morphism" "bitsOfZero" "I", .fieldLink RX2 47 "SturmianWords$Morphism" "bitsOfOne" "I"])
def wsX2_sizeOf : List Cond := .code yX2_sizeOf cX2_sizeOf 2 (some .int) :: ([.fieldLink RX2 44 "SturmianWords$Morphism" "sizeOfZero" "I", .fieldLink RX2 50 "SturmianWords$Morphism" "sizeOfOne" "I"])
def wsX5_factor : List Cond := .code yX5_factor cX5_factor 3 (some .long) :: ([.fieldLink RX5 9 "SturmianWords$Word" "bits" "J", .fieldLink RX5 15 "SturmianWords$Word" "size" "I"] ++ wsX50)
def wsX5_letter : List Cond := .code yX5_letter cX5_letter 2 (some .int) :: ([.methodLink RX5 19 yX5_factor, .instanceMethod yX5_factor, .selects RX5 yX5_factor yX5_factor, .initialized RX5, .code yX5_factor cX5_factor 3 (some .long), .fieldLink RX5 9 "SturmianWords$Word" "bits" "J", .fieldLink RX5 15 "SturmianWords$Word" "size" "I"] ++ wsX50)
def wsX5_init : List Cond := .code yX5_init cX5_init 4 none :: ([.methodLink RX5 3 objectInit, .instanceMethod objectInit, .code objectInit ⟨#[0xb1]⟩ 1 none, .fieldLink RX5 9 "SturmianWords$Word" "bits" "J", .fieldLink RX5 15 "SturmianWords$Word" "size" "I"] ++ wsX50)
def wsX2_imageOf_r1 : List Cond := [Cond.classLink RX2 54 RX5, Cond.instantiable RX5 2, Cond.initialized RX5, Cond.methodLink RX2 58 yX5_letter, Cond.instanceMethod yX5_letter, Cond.selects RX5 yX5_letter yX5_letter, Cond.code yX5_letter cX5_letter 2 (some .int), Cond.methodLink RX5 19 yX5_factor, Cond.instanceMethod yX5_factor, Cond.selects RX5 yX5_factor yX5_factor, Cond.code yX5_factor cX5_factor 3 (some .long), Cond.fieldLink RX5 9 "SturmianWords$Word" "bits" "J", Cond.fieldLink RX5 15 "SturmianWords$Word" "size" "I", Cond.methodLink RX2 62 yX2_sizeOf, Cond.instanceMethod yX2_sizeOf, Cond.selects RX2 yX2_sizeOf yX2_sizeOf, Cond.initialized RX2, Cond.code yX2_sizeOf cX2_sizeOf 2 (some .int), Cond.fieldLink RX2 44 "SturmianWords$Morphism" "sizeOfZero" "I", Cond.fieldLink RX2 50 "SturmianWords$Morphism" "sizeOfOne" "I", Cond.methodLink RX2 65 yX2_bitsOf, Cond.instanceMethod yX2_bitsOf, Cond.selects RX2 yX2_bitsOf yX2_bitsOf, Cond.code yX2_bitsOf cX2_bitsOf 2 (some .int)]
def wsX2_imageOf_r2 : List Cond := [Cond.fieldLink RX2 40 "SturmianWords$Morphism" "bitsOfZero" "I", Cond.fieldLink RX2 47 "SturmianWords$Morphism" "bitsOfOne" "I", Cond.methodLink RX2 68 yX5_init, Cond.instanceMethod yX5_init, Cond.code yX5_init cX5_init 4 none, Cond.methodLink RX5 3 objectInit, Cond.instanceMethod objectInit, Cond.code objectInit ⟨#[0xb1]⟩ 1 none]
def wsX2_imageOf : List Cond := .code yX2_imageOf cX2_imageOf 7 (some (.object "SturmianWords$Word")) :: ((wsX2_imageOf_r1 ++ wsX2_imageOf_r2) ++ wsX50)
def wsX2_hasImageAt : List Cond := .code yX2_hasImageAt cX2_hasImageAt 5 (some .boolean) :: ([.methodLink RX2 62 yX2_sizeOf, .instanceMethod yX2_sizeOf, .selects RX2 yX2_sizeOf yX2_sizeOf, .initialized RX2, .code yX2_sizeOf cX2_sizeOf 2 (some .int), .fieldLink RX2 44 "SturmianWords$Morphism" "sizeOfZero" "I", .fieldLink RX2 50 "SturmianWords$Morphism" "sizeOfOne" "I", .methodLink RX2 79 yX5_factor, .instanceMethod yX5_factor, .selects RX5 yX5_factor yX5_factor, .initialized RX5, .code yX5_factor cX5_factor 3 (some .long), .fieldLink RX5 9 "SturmianWords$Word" "bits" "J", .fieldLink RX5 15 "SturmianWords$Word" "size" "I", .methodLink RX2 65 yX2_bitsOf, .instanceMethod yX2_bitsOf, .selects RX2 yX2_bitsOf yX2_bitsOf, .code yX2_bitsOf cX2_bitsOf 2 (some .int), .fieldLink RX2 40 "SturmianWords$Morphism" "bitsOfZero" "I", .fieldLink RX2 47 "SturmianWords$Morphism" "bitsOfOne" "I"] ++ wsX50)
def wsX2_letterBehind : List Cond := .code yX2_letterBehind cX2_letterBehind 4 (some .int) :: ([.fieldLink RX2 50 "SturmianWords$Morphism" "sizeOfOne" "I", .fieldLink RX2 44 "SturmianWords$Morphism" "sizeOfZero" "I", .methodLink RX2 75 yX2_hasImageAt, .instanceMethod yX2_hasImageAt, .selects RX2 yX2_hasImageAt yX2_hasImageAt, .initialized RX2, .code yX2_hasImageAt cX2_hasImageAt 5 (some .boolean), .methodLink RX2 62 yX2_sizeOf, .instanceMethod yX2_sizeOf, .selects RX2 yX2_sizeOf yX2_sizeOf, .code yX2_sizeOf cX2_sizeOf 2 (some .int), .methodLink RX2 79 yX5_factor, .instanceMethod yX5_factor, .selects RX5 yX5_factor yX5_factor, .initialized RX5, .code yX5_factor cX5_factor 3 (some .long), .fieldLink RX5 9 "SturmianWords$Word" "bits" "J", .fieldLink RX5 15 "SturmianWords$Word" "size" "I", .methodLink RX2 65 yX2_bitsOf, .instanceMethod yX2_bitsOf, .selects RX2 yX2_bitsOf yX2_bitsOf, .code yX2_bitsOf cX2_bitsOf 2 (some .int), .fieldLink RX2 40 "SturmianWords$Morphism" "bitsOfZero" "I", .fieldLink RX2 47 "SturmianWords$Morphism" "bitsOfOne" "I"] ++ wsX50)
def wsX2_originOf_r1 : List Cond := [Cond.classLink RX2 54 RX5, Cond.instantiable RX5 2, Cond.initialized RX5, Cond.methodLink RX2 71 yX2_letterBehind, Cond.instanceMethod yX2_letterBehind, Cond.selects RX2 yX2_letterBehind yX2_letterBehind, Cond.initialized RX2, Cond.code yX2_letterBehind cX2_letterBehind 4 (some .int), Cond.fieldLink RX2 50 "SturmianWords$Morphism" "sizeOfOne" "I", Cond.fieldLink RX2 44 "SturmianWords$Morphism" "sizeOfZero" "I", Cond.methodLink RX2 75 yX2_hasImageAt, Cond.instanceMethod yX2_hasImageAt, Cond.selects RX2 yX2_hasImageAt yX2_hasImageAt, Cond.code yX2_hasImageAt cX2_hasImageAt 5 (some .boolean), Cond.methodLink RX2 62 yX2_sizeOf, Cond.instanceMethod yX2_sizeOf, Cond.selects RX2 yX2_sizeOf yX2_sizeOf, Cond.code yX2_sizeOf cX2_sizeOf 2 (some .int), Cond.methodLink RX2 79 yX5_factor, Cond.instanceMethod yX5_factor, Cond.selects RX5 yX5_factor yX5_factor, Cond.code yX5_factor cX5_factor 3 (some .long), Cond.fieldLink RX5 9 "SturmianWords$Word" "bits" "J", Cond.fieldLink RX5 15 "SturmianWords$Word" "size" "I"]
def wsX2_originOf_r2 : List Cond := [Cond.methodLink RX2 65 yX2_bitsOf, Cond.instanceMethod yX2_bitsOf, Cond.selects RX2 yX2_bitsOf yX2_bitsOf, Cond.code yX2_bitsOf cX2_bitsOf 2 (some .int), Cond.fieldLink RX2 40 "SturmianWords$Morphism" "bitsOfZero" "I", Cond.fieldLink RX2 47 "SturmianWords$Morphism" "bitsOfOne" "I", Cond.methodLink RX2 68 yX5_init, Cond.instanceMethod yX5_init, Cond.code yX5_init cX5_init 4 none, Cond.methodLink RX5 3 objectInit, Cond.instanceMethod objectInit, Cond.code objectInit ⟨#[0xb1]⟩ 1 none]
def wsX2_originOf : List Cond := .code yX2_originOf cX2_originOf 7 (some (.object "SturmianWords$Word")) :: ((wsX2_originOf_r1 ++ wsX2_originOf_r2) ++ wsX50)
def wsX3_init : List Cond := .code yX3_init cX3_init 4 none :: ([.methodLink RX3 3 objectInit, .instanceMethod objectInit, .code objectInit ⟨#[0xb1]⟩ 1 none, .fieldLink RX3 9 "SturmianWords$Slope" "numerator" "I", .fieldLink RX3 15 "SturmianWords$Slope" "denominator" "I", .fieldLink RX3 18 "SturmianWords$Slope" "intercept" "I"] ++ wsX30)
def wsX6_quotient : List Cond := .code yX6_quotient cX6_quotient 4 (some .long) :: ([])
def wsX3_term : List Cond := .code yX3_term cX3_term 7 (some .int) :: ([.fieldLink RX3 15 "SturmianWords$Slope" "denominator" "I", .fieldLink RX3 9 "SturmianWords$Slope" "numerator" "I", .static yX6_quotient, .initialized RX6, .code yX6_quotient cX6_quotient 4 (some .long)] ++ wsX30)
def wsX3_letter : List Cond := .code yX3_letter cX3_letter 7 (some .int) :: ([.fieldLink RX3 15 "SturmianWords$Slope" "denominator" "I", .fieldLink RX3 9 "SturmianWords$Slope" "numerator" "I", .fieldLink RX3 18 "SturmianWords$Slope" "intercept" "I", .static yX6_quotient, .initialized RX6, .code yX6_quotient cX6_quotient 4 (some .long)] ++ wsX30)
def wsX3_firstLetters : List Cond := .code yX3_firstLetters cX3_firstLetters 6 (some (.object "SturmianWords$Word")) :: ([.classLink RX3 29 RX5, .instantiable RX5 2, .initialized RX5, .methodLink RX3 25 yX3_letter, .instanceMethod yX3_letter, .selects RX3 yX3_letter yX3_letter, .initialized RX3, .code yX3_letter cX3_letter 7 (some .int), .fieldLink RX3 15 "SturmianWords$Slope" "denominator" "I", .fieldLink RX3 9 "SturmianWords$Slope" "numerator" "I", .fieldLink RX3 18 "SturmianWords$Slope" "intercept" "I", .static yX6_quotient, .initialized RX6, .code yX6_quotient cX6_quotient 4 (some .long), .methodLink RX3 31 yX5_init, .instanceMethod yX5_init, .code yX5_init cX5_init 4 none, .methodLink RX5 3 objectInit, .instanceMethod objectInit, .code objectInit ⟨#[0xb1]⟩ 1 none, .fieldLink RX5 9 "SturmianWords$Word" "bits" "J", .fieldLink RX5 15 "SturmianWords$Word" "size" "I"] ++ wsX50 ++ wsX30)
def wsX5_repeatedThen : List Cond := .code yX5_repeatedThen cX5_repeatedThen 7 (some (.object "SturmianWords$Word")) :: ([.fieldLink RX5 15 "SturmianWords$Word" "size" "I", .fieldLink RX5 9 "SturmianWords$Word" "bits" "J", .classLink RX5 10 RX5, .instantiable RX5 2, .initialized RX5, .methodLink RX5 29 yX5_init, .instanceMethod yX5_init, .code yX5_init cX5_init 4 none, .methodLink RX5 3 objectInit, .instanceMethod objectInit, .code objectInit ⟨#[0xb1]⟩ 1 none] ++ wsX50)
def wsX3_standardWord_r1 : List Cond := [Cond.classLink RX3 29 RX5, Cond.instantiable RX5 2, Cond.initialized RX5, Cond.methodLink RX3 31 yX5_init, Cond.instanceMethod yX5_init, Cond.code yX5_init cX5_init 4 none, Cond.methodLink RX5 3 objectInit, Cond.instanceMethod objectInit, Cond.code objectInit ⟨#[0xb1]⟩ 1 none, Cond.fieldLink RX5 9 "SturmianWords$Word" "bits" "J", Cond.fieldLink RX5 15 "SturmianWords$Word" "size" "I", Cond.methodLink RX3 34 yX3_term, Cond.instanceMethod yX3_term, Cond.selects RX3 yX3_term yX3_term, Cond.initialized RX3, Cond.code yX3_term cX3_term 7 (some .int), Cond.fieldLink RX3 15 "SturmianWords$Slope" "denominator" "I", Cond.fieldLink RX3 9 "SturmianWords$Slope" "numerator" "I", Cond.static yX6_quotient, Cond.initialized RX6, Cond.code yX6_quotient cX6_quotient 4 (some .long), Cond.methodLink RX3 38 yX5_repeatedThen, Cond.instanceMethod yX5_repeatedThen, Cond.selects RX5 yX5_repeatedThen yX5_repeatedThen]
def wsX3_standardWord_r2 : List Cond := [Cond.code yX5_repeatedThen cX5_repeatedThen 7 (some (.object "SturmianWords$Word")), Cond.classLink RX5 10 RX5, Cond.methodLink RX5 29 yX5_init]
def wsX3_standardWord : List Cond := .code yX3_standardWord cX3_standardWord 7 (some (.object "SturmianWords$Word")) :: ((wsX3_standardWord_r1 ++ wsX3_standardWord_r2) ++ wsX50 ++ wsX30)
def wsX4_init : List Cond := .code yX4_init cX4_init 3 none :: ([.methodLink RX4 1 objectInit, .instanceMethod objectInit, .code objectInit ⟨#[0xb1]⟩ 1 none, .fieldLink RX4 7 "SturmianWords$State" "slope" "LSturmianWords$Slope;", .fieldLink RX4 13 "SturmianWords$State" "word" "LSturmianWords$Word;"] ++ wsX40)
def wsJ13_bitCount_95d88 : List Cond := .code yJ13_bitCount_95d88 cJ13_bitCount_95d88 2 (some .int) :: ([.constantLong RJ13 314 (6148914691236517205), .constantLong RJ13 316 (3689348814741910323), .constantLong RJ13 318 (1085102592571150095)])
def wsX5_ones : List Cond := .code yX5_ones cX5_ones 1 (some .int) :: ([.fieldLink RX5 9 "SturmianWords$Word" "bits" "J", .methodLink RX5 23 yJ13_bitCount_95d88, .static yJ13_bitCount_95d88, .initialized RJ13, .code yJ13_bitCount_95d88 cJ13_bitCount_95d88 2 (some .int), .constantLong RJ13 314 (6148914691236517205), .constantLong RJ13 316 (3689348814741910323), .constantLong RJ13 318 (1085102592571150095)] ++ wsX50)
def wsX5_reversed : List Cond := .code yX5_reversed cX5_reversed 4 (some (.object "SturmianWords$Word")) :: ([.fieldLink RX5 15 "SturmianWords$Word" "size" "I", .fieldLink RX5 9 "SturmianWords$Word" "bits" "J", .classLink RX5 10 RX5, .instantiable RX5 2, .initialized RX5, .methodLink RX5 29 yX5_init, .instanceMethod yX5_init, .code yX5_init cX5_init 4 none, .methodLink RX5 3 objectInit, .instanceMethod objectInit, .code objectInit ⟨#[0xb1]⟩ 1 none] ++ wsX50)
def wsX5_isNew : List Cond := .code yX5_isNew cX5_isNew 6 (some .boolean) :: ([.methodLink RX5 19 yX5_factor, .instanceMethod yX5_factor, .selects RX5 yX5_factor yX5_factor, .initialized RX5, .code yX5_factor cX5_factor 3 (some .long), .fieldLink RX5 9 "SturmianWords$Word" "bits" "J", .fieldLink RX5 15 "SturmianWords$Word" "size" "I"] ++ wsX50)
def wsX5_differentFactors : List Cond := .code yX5_differentFactors cX5_differentFactors 4 (some .int) :: ([.fieldLink RX5 15 "SturmianWords$Word" "size" "I", .methodLink RX5 32 yX5_isNew, .instanceMethod yX5_isNew, .selects RX5 yX5_isNew yX5_isNew, .initialized RX5, .code yX5_isNew cX5_isNew 6 (some .boolean), .methodLink RX5 19 yX5_factor, .instanceMethod yX5_factor, .selects RX5 yX5_factor yX5_factor, .code yX5_factor cX5_factor 3 (some .long), .fieldLink RX5 9 "SturmianWords$Word" "bits" "J"] ++ wsX50)
def wsX5_nextFactor : List Cond := .code yX5_nextFactor cX5_nextFactor 9 (some .long) :: ([.constantLong RX5 36 (-1), .fieldLink RX5 15 "SturmianWords$Word" "size" "I", .methodLink RX5 19 yX5_factor, .instanceMethod yX5_factor, .selects RX5 yX5_factor yX5_factor, .initialized RX5, .code yX5_factor cX5_factor 3 (some .long), .fieldLink RX5 9 "SturmianWords$Word" "bits" "J"] ++ wsX50)
def wsX5_listedFactor : List Cond := .code yX5_listedFactor cX5_listedFactor 6 (some .long) :: ([.fieldLink RX5 15 "SturmianWords$Word" "size" "I", .constantLong RX5 36 (-1), .methodLink RX5 38 yX5_nextFactor, .instanceMethod yX5_nextFactor, .selects RX5 yX5_nextFactor yX5_nextFactor, .initialized RX5, .code yX5_nextFactor cX5_nextFactor 9 (some .long), .methodLink RX5 19 yX5_factor, .instanceMethod yX5_factor, .selects RX5 yX5_factor yX5_factor, .code yX5_factor cX5_factor 3 (some .long), .fieldLink RX5 9 "SturmianWords$Word" "bits" "J"] ++ wsX50)
def wsX5_weightSpread : List Cond := .code yX5_weightSpread cX5_weightSpread 6 (some .int) :: ([.fieldLink RX5 15 "SturmianWords$Word" "size" "I", .methodLink RX5 42 Lib.Math.min.name, .static Lib.Math.min.name, .initialized "java/lang/Math", .code Lib.Math.min.name Lib.Math.min.code 2 (some .int), .methodLink RX5 48 Lib.Math.max.name, .static Lib.Math.max.name, .code Lib.Math.max.name Lib.Math.max.code 2 (some .int), .methodLink RX5 19 yX5_factor, .instanceMethod yX5_factor, .selects RX5 yX5_factor yX5_factor, .initialized RX5, .code yX5_factor cX5_factor 3 (some .long), .fieldLink RX5 9 "SturmianWords$Word" "bits" "J", .methodLink RX5 23 yJ13_bitCount_95d88, .static yJ13_bitCount_95d88, .initialized RJ13, .code yJ13_bitCount_95d88 cJ13_bitCount_95d88 2 (some .int), .constantLong RJ13 314 (6148914691236517205), .constantLong RJ13 316 (3689348814741910323), .constantLong RJ13 318 (1085102592571150095)] ++ wsX50)
def wsX5_isPalindrome : List Cond := .code yX5_isPalindrome cX5_isPalindrome 4 (some .boolean) :: ([.fieldLink RX5 15 "SturmianWords$Word" "size" "I", .methodLink RX5 19 yX5_factor, .instanceMethod yX5_factor, .selects RX5 yX5_factor yX5_factor, .initialized RX5, .code yX5_factor cX5_factor 3 (some .long), .fieldLink RX5 9 "SturmianWords$Word" "bits" "J"] ++ wsX50)
def wsX5_differentPalindromes_r1 : List Cond := [Cond.fieldLink RX5 15 "SturmianWords$Word" "size" "I", Cond.methodLink RX5 51 yX5_reversed, Cond.instanceMethod yX5_reversed, Cond.selects RX5 yX5_reversed yX5_reversed, Cond.initialized RX5, Cond.code yX5_reversed cX5_reversed 4 (some (.object "SturmianWords$Word")), Cond.fieldLink RX5 9 "SturmianWords$Word" "bits" "J", Cond.classLink RX5 10 RX5, Cond.instantiable RX5 2, Cond.methodLink RX5 29 yX5_init, Cond.instanceMethod yX5_init, Cond.code yX5_init cX5_init 4 none, Cond.methodLink RX5 3 objectInit, Cond.instanceMethod objectInit, Cond.code objectInit ⟨#[0xb1]⟩ 1 none, Cond.methodLink RX5 55 yX5_isPalindrome, Cond.instanceMethod yX5_isPalindrome, Cond.selects RX5 yX5_isPalindrome yX5_isPalindrome, Cond.code yX5_isPalindrome cX5_isPalindrome 4 (some .boolean), Cond.methodLink RX5 19 yX5_factor, Cond.instanceMethod yX5_factor, Cond.selects RX5 yX5_factor yX5_factor, Cond.code yX5_factor cX5_factor 3 (some .long), Cond.methodLink RX5 32 yX5_isNew]
def wsX5_differentPalindromes_r2 : List Cond := [Cond.instanceMethod yX5_isNew, Cond.selects RX5 yX5_isNew yX5_isNew, Cond.code yX5_isNew cX5_isNew 6 (some .boolean)]
def wsX5_differentPalindromes : List Cond := .code yX5_differentPalindromes cX5_differentPalindromes 5 (some .int) :: ((wsX5_differentPalindromes_r1 ++ wsX5_differentPalindromes_r2) ++ wsX50)
def wsX5_hasPeriod : List Cond := .code yX5_hasPeriod cX5_hasPeriod 2 (some .boolean) :: ([.fieldLink RX5 15 "SturmianWords$Word" "size" "I", .methodLink RX5 19 yX5_factor, .instanceMethod yX5_factor, .selects RX5 yX5_factor yX5_factor, .initialized RX5, .code yX5_factor cX5_factor 3 (some .long), .fieldLink RX5 9 "SturmianWords$Word" "bits" "J"] ++ wsX50)
def wsX5_leastIntercept : List Cond := .code yX5_leastIntercept cX5_leastIntercept 8 (some .int) :: ([.fieldLink RX5 15 "SturmianWords$Word" "size" "I", .methodLink RX5 48 Lib.Math.max.name, .static Lib.Math.max.name, .initialized "java/lang/Math", .code Lib.Math.max.name Lib.Math.max.code 2 (some .int), .methodLink RX5 42 Lib.Math.min.name, .static Lib.Math.min.name, .code Lib.Math.min.name Lib.Math.min.code 2 (some .int), .methodLink RX5 70 yX5_letter, .instanceMethod yX5_letter, .selects RX5 yX5_letter yX5_letter, .initialized RX5, .code yX5_letter cX5_letter 2 (some .int), .methodLink RX5 19 yX5_factor, .instanceMethod yX5_factor, .selects RX5 yX5_factor yX5_factor, .code yX5_factor cX5_factor 3 (some .long), .fieldLink RX5 9 "SturmianWords$Word" "bits" "J"] ++ wsX50)
def wsX6_commonDivisor : List Cond := .code yX6_commonDivisor cX6_commonDivisor 6 (some .int) :: ([.methodLink RX6 46 yX6_quotient, .static yX6_quotient, .initialized RX6, .code yX6_quotient cX6_quotient 4 (some .long)])
def wsX5_simplest_r1 : List Cond := [Cond.classLink RX5 65 RX3, Cond.instantiable RX3 3, Cond.initialized RX3, Cond.methodLink RX5 59 yX5_leastIntercept, Cond.instanceMethod yX5_leastIntercept, Cond.selects RX5 yX5_leastIntercept yX5_leastIntercept, Cond.initialized RX5, Cond.code yX5_leastIntercept cX5_leastIntercept 8 (some .int), Cond.fieldLink RX5 15 "SturmianWords$Word" "size" "I", Cond.methodLink RX5 48 Lib.Math.max.name, Cond.static Lib.Math.max.name, Cond.initialized "java/lang/Math", Cond.code Lib.Math.max.name Lib.Math.max.code 2 (some .int), Cond.methodLink RX5 42 Lib.Math.min.name, Cond.static Lib.Math.min.name, Cond.code Lib.Math.min.name Lib.Math.min.code 2 (some .int), Cond.methodLink RX5 70 yX5_letter, Cond.instanceMethod yX5_letter, Cond.selects RX5 yX5_letter yX5_letter, Cond.code yX5_letter cX5_letter 2 (some .int), Cond.methodLink RX5 19 yX5_factor, Cond.instanceMethod yX5_factor, Cond.selects RX5 yX5_factor yX5_factor, Cond.code yX5_factor cX5_factor 3 (some .long)]
def wsX5_simplest_r2 : List Cond := [Cond.fieldLink RX5 9 "SturmianWords$Word" "bits" "J", Cond.static yX6_commonDivisor, Cond.initialized RX6, Cond.code yX6_commonDivisor cX6_commonDivisor 6 (some .int), Cond.methodLink RX6 46 yX6_quotient, Cond.static yX6_quotient, Cond.code yX6_quotient cX6_quotient 4 (some .long), Cond.methodLink RX5 67 yX3_init, Cond.instanceMethod yX3_init, Cond.code yX3_init cX3_init 4 none, Cond.methodLink RX3 3 objectInit, Cond.instanceMethod objectInit, Cond.code objectInit ⟨#[0xb1]⟩ 1 none, Cond.fieldLink RX3 9 "SturmianWords$Slope" "numerator" "I", Cond.fieldLink RX3 15 "SturmianWords$Slope" "denominator" "I", Cond.fieldLink RX3 18 "SturmianWords$Slope" "intercept" "I"]
def wsX5_simplest : List Cond := .code yX5_simplest cX5_simplest 4 (some (.object "SturmianWords$Slope")) :: ((wsX5_simplest_r1 ++ wsX5_simplest_r2) ++ wsX30 ++ wsX50)
def wsX6_init_r1 : List Cond := [Cond.methodLink RX6 1 objectInit, Cond.instanceMethod objectInit, Cond.code objectInit ⟨#[0xb1]⟩ 1 none, Cond.classLink RX6 7 RX1, Cond.instantiable RX1 3, Cond.initialized RX1, Cond.fieldLink RX6 10 "SturmianWords" "history" "LSturmianWords$History;", Cond.classLink RX6 16 RX0, Cond.instantiable RX0 2, Cond.initialized RX0, Cond.fieldLink RX6 19 "SturmianWords" "circle" "LSturmianWords$Circle;", Cond.classLink RX6 23 RX4, Cond.instantiable RX4 2, Cond.initialized RX4, Cond.classLink RX6 25 RX3, Cond.instantiable RX3 3, Cond.initialized RX3, Cond.classLink RX6 30 RX5, Cond.instantiable RX5 2, Cond.initialized RX5, Cond.fieldLink RX6 38 "SturmianWords" "state" "LSturmianWords$State;", Cond.instanceMethod yX1_init, Cond.code yX1_init cX1_init 1 none, Cond.methodLink RX1 3 objectInit]
def wsX6_init_r2 : List Cond := [Cond.classLink RX1 9 RX4, Cond.fieldLink RX1 11 "SturmianWords$History" "rows" "[LSturmianWords$State;", Cond.fieldLink RX1 17 "SturmianWords$History" "next" "I", Cond.fieldLink RX1 21 "SturmianWords$History" "kept" "I", Cond.instanceMethod yX0_init, Cond.code yX0_init cX0_init 1 none, Cond.methodLink RX0 3 objectInit, Cond.arrayClass .boolean, Cond.fieldLink RX0 9 "SturmianWords$Circle" "points" "[Z", Cond.arrayClass .int, Cond.fieldLink RX0 15 "SturmianWords$Circle" "gaps" "[I", Cond.methodLink RX6 27 yX3_init, Cond.instanceMethod yX3_init, Cond.code yX3_init cX3_init 4 none, Cond.methodLink RX3 3 objectInit, Cond.fieldLink RX3 9 "SturmianWords$Slope" "numerator" "I", Cond.fieldLink RX3 15 "SturmianWords$Slope" "denominator" "I", Cond.fieldLink RX3 18 "SturmianWords$Slope" "intercept" "I", Cond.methodLink RX6 32 yX5_init, Cond.instanceMethod yX5_init, Cond.code yX5_init cX5_init 4 none, Cond.methodLink RX5 3 objectInit, Cond.fieldLink RX5 9 "SturmianWords$Word" "bits" "J", Cond.fieldLink RX5 15 "SturmianWords$Word" "size" "I"]
def wsX6_init_r3 : List Cond := [Cond.methodLink RX6 35 yX4_init, Cond.instanceMethod yX4_init, Cond.code yX4_init cX4_init 3 none, Cond.methodLink RX4 1 objectInit, Cond.fieldLink RX4 7 "SturmianWords$State" "slope" "LSturmianWords$Slope;", Cond.fieldLink RX4 13 "SturmianWords$State" "word" "LSturmianWords$Word;"]
def wsX6_init : List Cond := .code yX6_init cX6_init 1 none :: ((wsX6_init_r1 ++ (wsX6_init_r2 ++ wsX6_init_r3)) ++ wsX10 ++ wsX60 ++ wsX00 ++ wsX40 ++ wsX30 ++ wsX50)
def wsX6_changeSlope_r1 : List Cond := [Cond.fieldLink RX6 10 "SturmianWords" "history" "LSturmianWords$History;", Cond.fieldLink RX6 38 "SturmianWords" "state" "LSturmianWords$State;", Cond.classLink RX6 23 RX4, Cond.instantiable RX4 2, Cond.initialized RX4, Cond.methodLink RX6 170 yX1_keep, Cond.instanceMethod yX1_keep, Cond.selects RX1 yX1_keep yX1_keep, Cond.initialized RX1, Cond.code yX1_keep cX1_keep 2 none, Cond.fieldLink RX1 17 "SturmianWords$History" "next" "I", Cond.fieldLink RX1 11 "SturmianWords$History" "rows" "[LSturmianWords$State;", Cond.fieldLink RX1 21 "SturmianWords$History" "kept" "I", Cond.methodLink RX1 24 Lib.Math.min.name, Cond.static Lib.Math.min.name, Cond.initialized "java/lang/Math", Cond.code Lib.Math.min.name Lib.Math.min.code 2 (some .int), Cond.methodLink RX6 35 yX4_init, Cond.instanceMethod yX4_init, Cond.code yX4_init cX4_init 3 none, Cond.methodLink RX4 1 objectInit, Cond.instanceMethod objectInit, Cond.code objectInit ⟨#[0xb1]⟩ 1 none, Cond.fieldLink RX4 7 "SturmianWords$State" "slope" "LSturmianWords$Slope;"]
def wsX6_changeSlope_r2 : List Cond := [Cond.fieldLink RX4 13 "SturmianWords$State" "word" "LSturmianWords$Word;"]
def wsX6_changeSlope : List Cond := .code yX6_changeSlope cX6_changeSlope 2 none :: ((wsX6_changeSlope_r1 ++ wsX6_changeSlope_r2) ++ wsX60 ++ wsX40 ++ wsX10)
def wsX6_setSlope_r1 : List Cond := [Cond.classLink RX6 25 RX3, Cond.instantiable RX3 3, Cond.initialized RX3, Cond.methodLink RX6 42 yX6_commonDivisor, Cond.static yX6_commonDivisor, Cond.initialized RX6, Cond.code yX6_commonDivisor cX6_commonDivisor 6 (some .int), Cond.methodLink RX6 46 yX6_quotient, Cond.static yX6_quotient, Cond.code yX6_quotient cX6_quotient 4 (some .long), Cond.methodLink RX6 27 yX3_init, Cond.instanceMethod yX3_init, Cond.code yX3_init cX3_init 4 none, Cond.methodLink RX3 3 objectInit, Cond.instanceMethod objectInit, Cond.code objectInit ⟨#[0xb1]⟩ 1 none, Cond.fieldLink RX3 9 "SturmianWords$Slope" "numerator" "I", Cond.fieldLink RX3 15 "SturmianWords$Slope" "denominator" "I", Cond.fieldLink RX3 18 "SturmianWords$Slope" "intercept" "I", Cond.methodLink RX6 50 yX6_changeSlope, Cond.instanceMethod yX6_changeSlope, Cond.selects RX6 yX6_changeSlope yX6_changeSlope, Cond.code yX6_changeSlope cX6_changeSlope 2 none, Cond.fieldLink RX6 10 "SturmianWords" "history" "LSturmianWords$History;"]
def wsX6_setSlope_r2 : List Cond := [Cond.fieldLink RX6 38 "SturmianWords" "state" "LSturmianWords$State;", Cond.classLink RX6 23 RX4, Cond.instantiable RX4 2, Cond.initialized RX4, Cond.methodLink RX6 170 yX1_keep, Cond.instanceMethod yX1_keep, Cond.selects RX1 yX1_keep yX1_keep, Cond.initialized RX1, Cond.code yX1_keep cX1_keep 2 none, Cond.fieldLink RX1 17 "SturmianWords$History" "next" "I", Cond.fieldLink RX1 11 "SturmianWords$History" "rows" "[LSturmianWords$State;", Cond.fieldLink RX1 21 "SturmianWords$History" "kept" "I", Cond.methodLink RX1 24 Lib.Math.min.name, Cond.static Lib.Math.min.name, Cond.initialized "java/lang/Math", Cond.code Lib.Math.min.name Lib.Math.min.code 2 (some .int), Cond.methodLink RX6 35 yX4_init, Cond.instanceMethod yX4_init, Cond.code yX4_init cX4_init 3 none, Cond.methodLink RX4 1 objectInit, Cond.fieldLink RX4 7 "SturmianWords$State" "slope" "LSturmianWords$Slope;", Cond.fieldLink RX4 13 "SturmianWords$State" "word" "LSturmianWords$Word;"]
def wsX6_setSlope : List Cond := .code yX6_setSlope cX6_setSlope 5 (some .int) :: ((wsX6_setSlope_r1 ++ wsX6_setSlope_r2) ++ wsX30 ++ wsX60 ++ wsX40 ++ wsX10)
def wsX6_setIntercept_r1 : List Cond := [Cond.fieldLink RX6 38 "SturmianWords" "state" "LSturmianWords$State;", Cond.classLink RX6 25 RX3, Cond.instantiable RX3 3, Cond.initialized RX3, Cond.methodLink RX6 27 yX3_init, Cond.instanceMethod yX3_init, Cond.code yX3_init cX3_init 4 none, Cond.methodLink RX3 3 objectInit, Cond.instanceMethod objectInit, Cond.code objectInit ⟨#[0xb1]⟩ 1 none, Cond.fieldLink RX3 9 "SturmianWords$Slope" "numerator" "I", Cond.fieldLink RX3 15 "SturmianWords$Slope" "denominator" "I", Cond.fieldLink RX3 18 "SturmianWords$Slope" "intercept" "I", Cond.methodLink RX6 50 yX6_changeSlope, Cond.instanceMethod yX6_changeSlope, Cond.selects RX6 yX6_changeSlope yX6_changeSlope, Cond.initialized RX6, Cond.code yX6_changeSlope cX6_changeSlope 2 none, Cond.fieldLink RX6 10 "SturmianWords" "history" "LSturmianWords$History;", Cond.classLink RX6 23 RX4, Cond.instantiable RX4 2, Cond.initialized RX4, Cond.methodLink RX6 170 yX1_keep, Cond.instanceMethod yX1_keep]
def wsX6_setIntercept_r2 : List Cond := [Cond.selects RX1 yX1_keep yX1_keep, Cond.initialized RX1, Cond.code yX1_keep cX1_keep 2 none, Cond.fieldLink RX1 17 "SturmianWords$History" "next" "I", Cond.fieldLink RX1 11 "SturmianWords$History" "rows" "[LSturmianWords$State;", Cond.fieldLink RX1 21 "SturmianWords$History" "kept" "I", Cond.methodLink RX1 24 Lib.Math.min.name, Cond.static Lib.Math.min.name, Cond.initialized "java/lang/Math", Cond.code Lib.Math.min.name Lib.Math.min.code 2 (some .int), Cond.methodLink RX6 35 yX4_init, Cond.instanceMethod yX4_init, Cond.code yX4_init cX4_init 3 none, Cond.methodLink RX4 1 objectInit, Cond.fieldLink RX4 7 "SturmianWords$State" "slope" "LSturmianWords$Slope;", Cond.fieldLink RX4 13 "SturmianWords$State" "word" "LSturmianWords$Word;"]
def wsX6_setIntercept : List Cond := .code yX6_setIntercept cX6_setIntercept 3 (some .int) :: ((wsX6_setIntercept_r1 ++ wsX6_setIntercept_r2) ++ wsX60 ++ wsX40 ++ wsX30 ++ wsX10)
def wsX6_slopeNumerator : List Cond := .code yX6_slopeNumerator cX6_slopeNumerator 1 (some .int) :: ([.fieldLink RX6 38 "SturmianWords" "state" "LSturmianWords$State;"] ++ wsX60 ++ wsX40 ++ wsX30)
def wsX6_slopeDenominator : List Cond := .code yX6_slopeDenominator cX6_slopeDenominator 1 (some .int) :: ([.fieldLink RX6 38 "SturmianWords" "state" "LSturmianWords$State;"] ++ wsX60 ++ wsX40 ++ wsX30)
def wsX6_continuedFractionTerm : List Cond := .code yX6_continuedFractionTerm cX6_continuedFractionTerm 3 (some .int) :: ([.fieldLink RX6 38 "SturmianWords" "state" "LSturmianWords$State;", .methodLink RX6 68 yX3_term, .instanceMethod yX3_term, .selects RX3 yX3_term yX3_term, .initialized RX3, .code yX3_term cX3_term 7 (some .int), .fieldLink RX3 15 "SturmianWords$Slope" "denominator" "I", .fieldLink RX3 9 "SturmianWords$Slope" "numerator" "I", .static yX6_quotient, .initialized RX6, .code yX6_quotient cX6_quotient 4 (some .long)] ++ wsX60 ++ wsX40 ++ wsX30)
def wsX6_mechanicalLetter : List Cond := .code yX6_mechanicalLetter cX6_mechanicalLetter 3 (some .int) :: ([.constant RX6 72 (1000000), .fieldLink RX6 38 "SturmianWords" "state" "LSturmianWords$State;", .methodLink RX6 73 yX3_letter, .instanceMethod yX3_letter, .selects RX3 yX3_letter yX3_letter, .initialized RX3, .code yX3_letter cX3_letter 7 (some .int), .fieldLink RX3 15 "SturmianWords$Slope" "denominator" "I", .fieldLink RX3 9 "SturmianWords$Slope" "numerator" "I", .fieldLink RX3 18 "SturmianWords$Slope" "intercept" "I", .static yX6_quotient, .initialized RX6, .code yX6_quotient cX6_quotient 4 (some .long)] ++ wsX60 ++ wsX40 ++ wsX30)
def wsX6_changeWord_r1 : List Cond := [Cond.fieldLink RX6 10 "SturmianWords" "history" "LSturmianWords$History;", Cond.fieldLink RX6 38 "SturmianWords" "state" "LSturmianWords$State;", Cond.classLink RX6 23 RX4, Cond.instantiable RX4 2, Cond.initialized RX4, Cond.methodLink RX6 170 yX1_keep, Cond.instanceMethod yX1_keep, Cond.selects RX1 yX1_keep yX1_keep, Cond.initialized RX1, Cond.code yX1_keep cX1_keep 2 none, Cond.fieldLink RX1 17 "SturmianWords$History" "next" "I", Cond.fieldLink RX1 11 "SturmianWords$History" "rows" "[LSturmianWords$State;", Cond.fieldLink RX1 21 "SturmianWords$History" "kept" "I", Cond.methodLink RX1 24 Lib.Math.min.name, Cond.static Lib.Math.min.name, Cond.initialized "java/lang/Math", Cond.code Lib.Math.min.name Lib.Math.min.code 2 (some .int), Cond.methodLink RX6 35 yX4_init, Cond.instanceMethod yX4_init, Cond.code yX4_init cX4_init 3 none, Cond.methodLink RX4 1 objectInit, Cond.instanceMethod objectInit, Cond.code objectInit ⟨#[0xb1]⟩ 1 none, Cond.fieldLink RX4 7 "SturmianWords$State" "slope" "LSturmianWords$Slope;"]
def wsX6_changeWord_r2 : List Cond := [Cond.fieldLink RX4 13 "SturmianWords$State" "word" "LSturmianWords$Word;"]
def wsX6_changeWord : List Cond := .code yX6_changeWord cX6_changeWord 2 none :: ((wsX6_changeWord_r1 ++ wsX6_changeWord_r2) ++ wsX60 ++ wsX40 ++ wsX10)
def wsX6_loadMechanical_r1 : List Cond := [Cond.fieldLink RX6 38 "SturmianWords" "state" "LSturmianWords$State;", Cond.methodLink RX6 77 yX3_firstLetters, Cond.instanceMethod yX3_firstLetters, Cond.selects RX3 yX3_firstLetters yX3_firstLetters, Cond.initialized RX3, Cond.code yX3_firstLetters cX3_firstLetters 6 (some (.object "SturmianWords$Word")), Cond.classLink RX3 29 RX5, Cond.instantiable RX5 2, Cond.initialized RX5, Cond.methodLink RX3 25 yX3_letter, Cond.instanceMethod yX3_letter, Cond.selects RX3 yX3_letter yX3_letter, Cond.code yX3_letter cX3_letter 7 (some .int), Cond.fieldLink RX3 15 "SturmianWords$Slope" "denominator" "I", Cond.fieldLink RX3 9 "SturmianWords$Slope" "numerator" "I", Cond.fieldLink RX3 18 "SturmianWords$Slope" "intercept" "I", Cond.static yX6_quotient, Cond.initialized RX6, Cond.code yX6_quotient cX6_quotient 4 (some .long), Cond.methodLink RX3 31 yX5_init, Cond.instanceMethod yX5_init, Cond.code yX5_init cX5_init 4 none, Cond.methodLink RX5 3 objectInit, Cond.instanceMethod objectInit]
def wsX6_loadMechanical_r2 : List Cond := [Cond.code objectInit ⟨#[0xb1]⟩ 1 none, Cond.fieldLink RX5 9 "SturmianWords$Word" "bits" "J", Cond.fieldLink RX5 15 "SturmianWords$Word" "size" "I", Cond.methodLink RX6 81 yX6_changeWord, Cond.instanceMethod yX6_changeWord, Cond.selects RX6 yX6_changeWord yX6_changeWord, Cond.code yX6_changeWord cX6_changeWord 2 none, Cond.fieldLink RX6 10 "SturmianWords" "history" "LSturmianWords$History;", Cond.classLink RX6 23 RX4, Cond.instantiable RX4 2, Cond.initialized RX4, Cond.methodLink RX6 170 yX1_keep, Cond.instanceMethod yX1_keep, Cond.selects RX1 yX1_keep yX1_keep, Cond.initialized RX1, Cond.code yX1_keep cX1_keep 2 none, Cond.fieldLink RX1 17 "SturmianWords$History" "next" "I", Cond.fieldLink RX1 11 "SturmianWords$History" "rows" "[LSturmianWords$State;", Cond.fieldLink RX1 21 "SturmianWords$History" "kept" "I", Cond.methodLink RX1 24 Lib.Math.min.name, Cond.static Lib.Math.min.name, Cond.initialized "java/lang/Math", Cond.code Lib.Math.min.name Lib.Math.min.code 2 (some .int), Cond.methodLink RX6 35 yX4_init]
def wsX6_loadMechanical_r3 : List Cond := [Cond.instanceMethod yX4_init, Cond.code yX4_init cX4_init 3 none, Cond.methodLink RX4 1 objectInit, Cond.fieldLink RX4 7 "SturmianWords$State" "slope" "LSturmianWords$Slope;", Cond.fieldLink RX4 13 "SturmianWords$State" "word" "LSturmianWords$Word;", Cond.methodLink RX6 85 yX5_ones, Cond.instanceMethod yX5_ones, Cond.selects RX5 yX5_ones yX5_ones, Cond.code yX5_ones cX5_ones 1 (some .int), Cond.methodLink RX5 23 yJ13_bitCount_95d88, Cond.static yJ13_bitCount_95d88, Cond.initialized RJ13, Cond.code yJ13_bitCount_95d88 cJ13_bitCount_95d88 2 (some .int), Cond.constantLong RJ13 314 (6148914691236517205), Cond.constantLong RJ13 316 (3689348814741910323), Cond.constantLong RJ13 318 (1085102592571150095)]
def wsX6_loadMechanical : List Cond := .code yX6_loadMechanical cX6_loadMechanical 4 (some .int) :: ((wsX6_loadMechanical_r1 ++ (wsX6_loadMechanical_r2 ++ wsX6_loadMechanical_r3)) ++ wsX60 ++ wsX40 ++ wsX50 ++ wsX30 ++ wsX10)
def wsX6_loadStandard_r1 : List Cond := [Cond.fieldLink RX6 38 "SturmianWords" "state" "LSturmianWords$State;", Cond.methodLink RX6 68 yX3_term, Cond.instanceMethod yX3_term, Cond.selects RX3 yX3_term yX3_term, Cond.initialized RX3, Cond.code yX3_term cX3_term 7 (some .int), Cond.fieldLink RX3 15 "SturmianWords$Slope" "denominator" "I", Cond.fieldLink RX3 9 "SturmianWords$Slope" "numerator" "I", Cond.static yX6_quotient, Cond.initialized RX6, Cond.code yX6_quotient cX6_quotient 4 (some .long), Cond.methodLink RX6 89 yX3_standardWord, Cond.instanceMethod yX3_standardWord, Cond.selects RX3 yX3_standardWord yX3_standardWord, Cond.code yX3_standardWord cX3_standardWord 7 (some (.object "SturmianWords$Word")), Cond.classLink RX3 29 RX5, Cond.instantiable RX5 2, Cond.initialized RX5, Cond.methodLink RX3 31 yX5_init, Cond.instanceMethod yX5_init, Cond.code yX5_init cX5_init 4 none, Cond.methodLink RX5 3 objectInit, Cond.instanceMethod objectInit, Cond.code objectInit ⟨#[0xb1]⟩ 1 none]
def wsX6_loadStandard_r2 : List Cond := [Cond.fieldLink RX5 9 "SturmianWords$Word" "bits" "J", Cond.fieldLink RX5 15 "SturmianWords$Word" "size" "I", Cond.methodLink RX3 34 yX3_term, Cond.methodLink RX3 38 yX5_repeatedThen, Cond.instanceMethod yX5_repeatedThen, Cond.selects RX5 yX5_repeatedThen yX5_repeatedThen, Cond.code yX5_repeatedThen cX5_repeatedThen 7 (some (.object "SturmianWords$Word")), Cond.classLink RX5 10 RX5, Cond.methodLink RX5 29 yX5_init, Cond.methodLink RX6 81 yX6_changeWord, Cond.instanceMethod yX6_changeWord, Cond.selects RX6 yX6_changeWord yX6_changeWord, Cond.code yX6_changeWord cX6_changeWord 2 none, Cond.fieldLink RX6 10 "SturmianWords" "history" "LSturmianWords$History;", Cond.classLink RX6 23 RX4, Cond.instantiable RX4 2, Cond.initialized RX4, Cond.methodLink RX6 170 yX1_keep, Cond.instanceMethod yX1_keep, Cond.selects RX1 yX1_keep yX1_keep, Cond.initialized RX1, Cond.code yX1_keep cX1_keep 2 none, Cond.fieldLink RX1 17 "SturmianWords$History" "next" "I", Cond.fieldLink RX1 11 "SturmianWords$History" "rows" "[LSturmianWords$State;"]
def wsX6_loadStandard_r3 : List Cond := [Cond.fieldLink RX1 21 "SturmianWords$History" "kept" "I", Cond.methodLink RX1 24 Lib.Math.min.name, Cond.static Lib.Math.min.name, Cond.initialized "java/lang/Math", Cond.code Lib.Math.min.name Lib.Math.min.code 2 (some .int), Cond.methodLink RX6 35 yX4_init, Cond.instanceMethod yX4_init, Cond.code yX4_init cX4_init 3 none, Cond.methodLink RX4 1 objectInit, Cond.fieldLink RX4 7 "SturmianWords$State" "slope" "LSturmianWords$Slope;", Cond.fieldLink RX4 13 "SturmianWords$State" "word" "LSturmianWords$Word;"]
def wsX6_loadStandard : List Cond := .code yX6_loadStandard cX6_loadStandard 3 (some .int) :: ((wsX6_loadStandard_r1 ++ (wsX6_loadStandard_r2 ++ wsX6_loadStandard_r3)) ++ wsX60 ++ wsX40 ++ wsX50 ++ wsX30 ++ wsX10)
def wsX6_append_r1 : List Cond := [Cond.fieldLink RX6 38 "SturmianWords" "state" "LSturmianWords$State;", Cond.classLink RX6 30 RX5, Cond.instantiable RX5 2, Cond.initialized RX5, Cond.methodLink RX6 32 yX5_init, Cond.instanceMethod yX5_init, Cond.code yX5_init cX5_init 4 none, Cond.methodLink RX5 3 objectInit, Cond.instanceMethod objectInit, Cond.code objectInit ⟨#[0xb1]⟩ 1 none, Cond.fieldLink RX5 9 "SturmianWords$Word" "bits" "J", Cond.fieldLink RX5 15 "SturmianWords$Word" "size" "I", Cond.methodLink RX6 81 yX6_changeWord, Cond.instanceMethod yX6_changeWord, Cond.selects RX6 yX6_changeWord yX6_changeWord, Cond.initialized RX6, Cond.code yX6_changeWord cX6_changeWord 2 none, Cond.fieldLink RX6 10 "SturmianWords" "history" "LSturmianWords$History;", Cond.classLink RX6 23 RX4, Cond.instantiable RX4 2, Cond.initialized RX4, Cond.methodLink RX6 170 yX1_keep, Cond.instanceMethod yX1_keep, Cond.selects RX1 yX1_keep yX1_keep]
def wsX6_append_r2 : List Cond := [Cond.initialized RX1, Cond.code yX1_keep cX1_keep 2 none, Cond.fieldLink RX1 17 "SturmianWords$History" "next" "I", Cond.fieldLink RX1 11 "SturmianWords$History" "rows" "[LSturmianWords$State;", Cond.fieldLink RX1 21 "SturmianWords$History" "kept" "I", Cond.methodLink RX1 24 Lib.Math.min.name, Cond.static Lib.Math.min.name, Cond.initialized "java/lang/Math", Cond.code Lib.Math.min.name Lib.Math.min.code 2 (some .int), Cond.methodLink RX6 35 yX4_init, Cond.instanceMethod yX4_init, Cond.code yX4_init cX4_init 3 none, Cond.methodLink RX4 1 objectInit, Cond.fieldLink RX4 7 "SturmianWords$State" "slope" "LSturmianWords$Slope;", Cond.fieldLink RX4 13 "SturmianWords$State" "word" "LSturmianWords$Word;"]
def wsX6_append : List Cond := .code yX6_append cX6_append 3 (some .int) :: ((wsX6_append_r1 ++ wsX6_append_r2) ++ wsX60 ++ wsX40 ++ wsX50 ++ wsX10)
def wsX6_removeLast_r1 : List Cond := [Cond.fieldLink RX6 38 "SturmianWords" "state" "LSturmianWords$State;", Cond.classLink RX6 30 RX5, Cond.instantiable RX5 2, Cond.initialized RX5, Cond.methodLink RX6 32 yX5_init, Cond.instanceMethod yX5_init, Cond.code yX5_init cX5_init 4 none, Cond.methodLink RX5 3 objectInit, Cond.instanceMethod objectInit, Cond.code objectInit ⟨#[0xb1]⟩ 1 none, Cond.fieldLink RX5 9 "SturmianWords$Word" "bits" "J", Cond.fieldLink RX5 15 "SturmianWords$Word" "size" "I", Cond.methodLink RX6 81 yX6_changeWord, Cond.instanceMethod yX6_changeWord, Cond.selects RX6 yX6_changeWord yX6_changeWord, Cond.initialized RX6, Cond.code yX6_changeWord cX6_changeWord 2 none, Cond.fieldLink RX6 10 "SturmianWords" "history" "LSturmianWords$History;", Cond.classLink RX6 23 RX4, Cond.instantiable RX4 2, Cond.initialized RX4, Cond.methodLink RX6 170 yX1_keep, Cond.instanceMethod yX1_keep, Cond.selects RX1 yX1_keep yX1_keep]
def wsX6_removeLast_r2 : List Cond := [Cond.initialized RX1, Cond.code yX1_keep cX1_keep 2 none, Cond.fieldLink RX1 17 "SturmianWords$History" "next" "I", Cond.fieldLink RX1 11 "SturmianWords$History" "rows" "[LSturmianWords$State;", Cond.fieldLink RX1 21 "SturmianWords$History" "kept" "I", Cond.methodLink RX1 24 Lib.Math.min.name, Cond.static Lib.Math.min.name, Cond.initialized "java/lang/Math", Cond.code Lib.Math.min.name Lib.Math.min.code 2 (some .int), Cond.methodLink RX6 35 yX4_init, Cond.instanceMethod yX4_init, Cond.code yX4_init cX4_init 3 none, Cond.methodLink RX4 1 objectInit, Cond.fieldLink RX4 7 "SturmianWords$State" "slope" "LSturmianWords$Slope;", Cond.fieldLink RX4 13 "SturmianWords$State" "word" "LSturmianWords$Word;", Cond.methodLink RX6 104 yX5_letter, Cond.instanceMethod yX5_letter, Cond.selects RX5 yX5_letter yX5_letter, Cond.code yX5_letter cX5_letter 2 (some .int), Cond.methodLink RX5 19 yX5_factor, Cond.instanceMethod yX5_factor, Cond.selects RX5 yX5_factor yX5_factor, Cond.code yX5_factor cX5_factor 3 (some .long)]
def wsX6_removeLast : List Cond := .code yX6_removeLast cX6_removeLast 2 (some .int) :: ((wsX6_removeLast_r1 ++ wsX6_removeLast_r2) ++ wsX60 ++ wsX40 ++ wsX50 ++ wsX10)
def wsX6_clear_r1 : List Cond := [Cond.fieldLink RX6 38 "SturmianWords" "state" "LSturmianWords$State;", Cond.classLink RX6 30 RX5, Cond.instantiable RX5 2, Cond.initialized RX5, Cond.methodLink RX6 32 yX5_init, Cond.instanceMethod yX5_init, Cond.code yX5_init cX5_init 4 none, Cond.methodLink RX5 3 objectInit, Cond.instanceMethod objectInit, Cond.code objectInit ⟨#[0xb1]⟩ 1 none, Cond.fieldLink RX5 9 "SturmianWords$Word" "bits" "J", Cond.fieldLink RX5 15 "SturmianWords$Word" "size" "I", Cond.methodLink RX6 81 yX6_changeWord, Cond.instanceMethod yX6_changeWord, Cond.selects RX6 yX6_changeWord yX6_changeWord, Cond.initialized RX6, Cond.code yX6_changeWord cX6_changeWord 2 none, Cond.fieldLink RX6 10 "SturmianWords" "history" "LSturmianWords$History;", Cond.classLink RX6 23 RX4, Cond.instantiable RX4 2, Cond.initialized RX4, Cond.methodLink RX6 170 yX1_keep, Cond.instanceMethod yX1_keep, Cond.selects RX1 yX1_keep yX1_keep]
def wsX6_clear_r2 : List Cond := [Cond.initialized RX1, Cond.code yX1_keep cX1_keep 2 none, Cond.fieldLink RX1 17 "SturmianWords$History" "next" "I", Cond.fieldLink RX1 11 "SturmianWords$History" "rows" "[LSturmianWords$State;", Cond.fieldLink RX1 21 "SturmianWords$History" "kept" "I", Cond.methodLink RX1 24 Lib.Math.min.name, Cond.static Lib.Math.min.name, Cond.initialized "java/lang/Math", Cond.code Lib.Math.min.name Lib.Math.min.code 2 (some .int), Cond.methodLink RX6 35 yX4_init, Cond.instanceMethod yX4_init, Cond.code yX4_init cX4_init 3 none, Cond.methodLink RX4 1 objectInit, Cond.fieldLink RX4 7 "SturmianWords$State" "slope" "LSturmianWords$Slope;", Cond.fieldLink RX4 13 "SturmianWords$State" "word" "LSturmianWords$Word;"]
def wsX6_clear : List Cond := .code yX6_clear cX6_clear 2 (some .int) :: ((wsX6_clear_r1 ++ wsX6_clear_r2) ++ wsX60 ++ wsX40 ++ wsX50 ++ wsX10)
def wsX6_reverse_r1 : List Cond := [Cond.fieldLink RX6 38 "SturmianWords" "state" "LSturmianWords$State;", Cond.methodLink RX6 106 yX5_reversed, Cond.instanceMethod yX5_reversed, Cond.selects RX5 yX5_reversed yX5_reversed, Cond.initialized RX5, Cond.code yX5_reversed cX5_reversed 4 (some (.object "SturmianWords$Word")), Cond.fieldLink RX5 15 "SturmianWords$Word" "size" "I", Cond.fieldLink RX5 9 "SturmianWords$Word" "bits" "J", Cond.classLink RX5 10 RX5, Cond.instantiable RX5 2, Cond.methodLink RX5 29 yX5_init, Cond.instanceMethod yX5_init, Cond.code yX5_init cX5_init 4 none, Cond.methodLink RX5 3 objectInit, Cond.instanceMethod objectInit, Cond.code objectInit ⟨#[0xb1]⟩ 1 none, Cond.methodLink RX6 81 yX6_changeWord, Cond.instanceMethod yX6_changeWord, Cond.selects RX6 yX6_changeWord yX6_changeWord, Cond.initialized RX6, Cond.code yX6_changeWord cX6_changeWord 2 none, Cond.fieldLink RX6 10 "SturmianWords" "history" "LSturmianWords$History;", Cond.classLink RX6 23 RX4, Cond.instantiable RX4 2]
def wsX6_reverse_r2 : List Cond := [Cond.initialized RX4, Cond.methodLink RX6 170 yX1_keep, Cond.instanceMethod yX1_keep, Cond.selects RX1 yX1_keep yX1_keep, Cond.initialized RX1, Cond.code yX1_keep cX1_keep 2 none, Cond.fieldLink RX1 17 "SturmianWords$History" "next" "I", Cond.fieldLink RX1 11 "SturmianWords$History" "rows" "[LSturmianWords$State;", Cond.fieldLink RX1 21 "SturmianWords$History" "kept" "I", Cond.methodLink RX1 24 Lib.Math.min.name, Cond.static Lib.Math.min.name, Cond.initialized "java/lang/Math", Cond.code Lib.Math.min.name Lib.Math.min.code 2 (some .int), Cond.methodLink RX6 35 yX4_init, Cond.instanceMethod yX4_init, Cond.code yX4_init cX4_init 3 none, Cond.methodLink RX4 1 objectInit, Cond.fieldLink RX4 7 "SturmianWords$State" "slope" "LSturmianWords$Slope;", Cond.fieldLink RX4 13 "SturmianWords$State" "word" "LSturmianWords$Word;"]
def wsX6_reverse : List Cond := .code yX6_reverse cX6_reverse 3 (some .int) :: ((wsX6_reverse_r1 ++ wsX6_reverse_r2) ++ wsX60 ++ wsX40 ++ wsX50 ++ wsX10)
def wsX6_applyMorphism_r1 : List Cond := [Cond.fieldLink RX6 38 "SturmianWords" "state" "LSturmianWords$State;", Cond.methodLink RX6 110 yX2_numbered, Cond.static yX2_numbered, Cond.initialized RX2, Cond.code yX2_numbered cX2_numbered 1 (some (.object "SturmianWords$Morphism")), Cond.fieldLink RX2 5 "SturmianWords$Morphism" "EXCHANGE" "LSturmianWords$Morphism;", Cond.fieldLink RX2 9 "SturmianWords$Morphism" "ZERO_TO_01" "LSturmianWords$Morphism;", Cond.fieldLink RX2 12 "SturmianWords$Morphism" "ZERO_TO_10" "LSturmianWords$Morphism;", Cond.fieldLink RX2 15 "SturmianWords$Morphism" "ONE_TO_01" "LSturmianWords$Morphism;", Cond.fieldLink RX2 18 "SturmianWords$Morphism" "ONE_TO_10" "LSturmianWords$Morphism;", Cond.methodLink RX6 116 yX2_imageOf, Cond.instanceMethod yX2_imageOf, Cond.selects RX2 yX2_imageOf yX2_imageOf, Cond.code yX2_imageOf cX2_imageOf 7 (some (.object "SturmianWords$Word")), Cond.classLink RX2 54 RX5, Cond.instantiable RX5 2, Cond.initialized RX5, Cond.methodLink RX2 58 yX5_letter, Cond.instanceMethod yX5_letter, Cond.selects RX5 yX5_letter yX5_letter, Cond.code yX5_letter cX5_letter 2 (some .int), Cond.methodLink RX5 19 yX5_factor, Cond.instanceMethod yX5_factor, Cond.selects RX5 yX5_factor yX5_factor]
def wsX6_applyMorphism_r2 : List Cond := [Cond.code yX5_factor cX5_factor 3 (some .long), Cond.fieldLink RX5 9 "SturmianWords$Word" "bits" "J", Cond.fieldLink RX5 15 "SturmianWords$Word" "size" "I", Cond.methodLink RX2 62 yX2_sizeOf, Cond.instanceMethod yX2_sizeOf, Cond.selects RX2 yX2_sizeOf yX2_sizeOf, Cond.code yX2_sizeOf cX2_sizeOf 2 (some .int), Cond.fieldLink RX2 44 "SturmianWords$Morphism" "sizeOfZero" "I", Cond.fieldLink RX2 50 "SturmianWords$Morphism" "sizeOfOne" "I", Cond.methodLink RX2 65 yX2_bitsOf, Cond.instanceMethod yX2_bitsOf, Cond.selects RX2 yX2_bitsOf yX2_bitsOf, Cond.code yX2_bitsOf cX2_bitsOf 2 (some .int), Cond.fieldLink RX2 40 "SturmianWords$Morphism" "bitsOfZero" "I", Cond.fieldLink RX2 47 "SturmianWords$Morphism" "bitsOfOne" "I", Cond.methodLink RX2 68 yX5_init, Cond.instanceMethod yX5_init, Cond.code yX5_init cX5_init 4 none, Cond.methodLink RX5 3 objectInit, Cond.instanceMethod objectInit, Cond.code objectInit ⟨#[0xb1]⟩ 1 none, Cond.methodLink RX6 81 yX6_changeWord, Cond.instanceMethod yX6_changeWord, Cond.selects RX6 yX6_changeWord yX6_changeWord]
def wsX6_applyMorphism_r3 : List Cond := [Cond.initialized RX6, Cond.code yX6_changeWord cX6_changeWord 2 none, Cond.fieldLink RX6 10 "SturmianWords" "history" "LSturmianWords$History;", Cond.classLink RX6 23 RX4, Cond.instantiable RX4 2, Cond.initialized RX4, Cond.methodLink RX6 170 yX1_keep, Cond.instanceMethod yX1_keep, Cond.selects RX1 yX1_keep yX1_keep, Cond.initialized RX1, Cond.code yX1_keep cX1_keep 2 none, Cond.fieldLink RX1 17 "SturmianWords$History" "next" "I", Cond.fieldLink RX1 11 "SturmianWords$History" "rows" "[LSturmianWords$State;", Cond.fieldLink RX1 21 "SturmianWords$History" "kept" "I", Cond.methodLink RX1 24 Lib.Math.min.name, Cond.static Lib.Math.min.name, Cond.initialized "java/lang/Math", Cond.code Lib.Math.min.name Lib.Math.min.code 2 (some .int), Cond.methodLink RX6 35 yX4_init, Cond.instanceMethod yX4_init, Cond.code yX4_init cX4_init 3 none, Cond.methodLink RX4 1 objectInit, Cond.fieldLink RX4 7 "SturmianWords$State" "slope" "LSturmianWords$Slope;", Cond.fieldLink RX4 13 "SturmianWords$State" "word" "LSturmianWords$Word;"]
def wsX6_applyMorphism : List Cond := .code yX6_applyMorphism cX6_applyMorphism 4 (some .int) :: ((wsX6_applyMorphism_r1 ++ (wsX6_applyMorphism_r2 ++ wsX6_applyMorphism_r3)) ++ wsX60 ++ wsX40 ++ wsX50 ++ wsX10)
def wsX6_invertMorphism_r1 : List Cond := [Cond.fieldLink RX6 38 "SturmianWords" "state" "LSturmianWords$State;", Cond.methodLink RX6 110 yX2_numbered, Cond.static yX2_numbered, Cond.initialized RX2, Cond.code yX2_numbered cX2_numbered 1 (some (.object "SturmianWords$Morphism")), Cond.fieldLink RX2 5 "SturmianWords$Morphism" "EXCHANGE" "LSturmianWords$Morphism;", Cond.fieldLink RX2 9 "SturmianWords$Morphism" "ZERO_TO_01" "LSturmianWords$Morphism;", Cond.fieldLink RX2 12 "SturmianWords$Morphism" "ZERO_TO_10" "LSturmianWords$Morphism;", Cond.fieldLink RX2 15 "SturmianWords$Morphism" "ONE_TO_01" "LSturmianWords$Morphism;", Cond.fieldLink RX2 18 "SturmianWords$Morphism" "ONE_TO_10" "LSturmianWords$Morphism;", Cond.methodLink RX6 120 yX2_originOf, Cond.instanceMethod yX2_originOf, Cond.selects RX2 yX2_originOf yX2_originOf, Cond.code yX2_originOf cX2_originOf 7 (some (.object "SturmianWords$Word")), Cond.classLink RX2 54 RX5, Cond.instantiable RX5 2, Cond.initialized RX5, Cond.methodLink RX2 71 yX2_letterBehind, Cond.instanceMethod yX2_letterBehind, Cond.selects RX2 yX2_letterBehind yX2_letterBehind, Cond.code yX2_letterBehind cX2_letterBehind 4 (some .int), Cond.fieldLink RX2 50 "SturmianWords$Morphism" "sizeOfOne" "I", Cond.fieldLink RX2 44 "SturmianWords$Morphism" "sizeOfZero" "I", Cond.methodLink RX2 75 yX2_hasImageAt]
def wsX6_invertMorphism_r2 : List Cond := [Cond.instanceMethod yX2_hasImageAt, Cond.selects RX2 yX2_hasImageAt yX2_hasImageAt, Cond.code yX2_hasImageAt cX2_hasImageAt 5 (some .boolean), Cond.methodLink RX2 62 yX2_sizeOf, Cond.instanceMethod yX2_sizeOf, Cond.selects RX2 yX2_sizeOf yX2_sizeOf, Cond.code yX2_sizeOf cX2_sizeOf 2 (some .int), Cond.methodLink RX2 79 yX5_factor, Cond.instanceMethod yX5_factor, Cond.selects RX5 yX5_factor yX5_factor, Cond.code yX5_factor cX5_factor 3 (some .long), Cond.fieldLink RX5 9 "SturmianWords$Word" "bits" "J", Cond.fieldLink RX5 15 "SturmianWords$Word" "size" "I", Cond.methodLink RX2 65 yX2_bitsOf, Cond.instanceMethod yX2_bitsOf, Cond.selects RX2 yX2_bitsOf yX2_bitsOf, Cond.code yX2_bitsOf cX2_bitsOf 2 (some .int), Cond.fieldLink RX2 40 "SturmianWords$Morphism" "bitsOfZero" "I", Cond.fieldLink RX2 47 "SturmianWords$Morphism" "bitsOfOne" "I", Cond.methodLink RX2 68 yX5_init, Cond.instanceMethod yX5_init, Cond.code yX5_init cX5_init 4 none, Cond.methodLink RX5 3 objectInit, Cond.instanceMethod objectInit]
def wsX6_invertMorphism_r3 : List Cond := [Cond.code objectInit ⟨#[0xb1]⟩ 1 none, Cond.methodLink RX6 81 yX6_changeWord, Cond.instanceMethod yX6_changeWord, Cond.selects RX6 yX6_changeWord yX6_changeWord, Cond.initialized RX6, Cond.code yX6_changeWord cX6_changeWord 2 none, Cond.fieldLink RX6 10 "SturmianWords" "history" "LSturmianWords$History;", Cond.classLink RX6 23 RX4, Cond.instantiable RX4 2, Cond.initialized RX4, Cond.methodLink RX6 170 yX1_keep, Cond.instanceMethod yX1_keep, Cond.selects RX1 yX1_keep yX1_keep, Cond.initialized RX1, Cond.code yX1_keep cX1_keep 2 none, Cond.fieldLink RX1 17 "SturmianWords$History" "next" "I", Cond.fieldLink RX1 11 "SturmianWords$History" "rows" "[LSturmianWords$State;", Cond.fieldLink RX1 21 "SturmianWords$History" "kept" "I", Cond.methodLink RX1 24 Lib.Math.min.name, Cond.static Lib.Math.min.name, Cond.initialized "java/lang/Math", Cond.code Lib.Math.min.name Lib.Math.min.code 2 (some .int), Cond.methodLink RX6 35 yX4_init, Cond.instanceMethod yX4_init]
def wsX6_invertMorphism_r4 : List Cond := [Cond.code yX4_init cX4_init 3 none, Cond.methodLink RX4 1 objectInit, Cond.fieldLink RX4 7 "SturmianWords$State" "slope" "LSturmianWords$Slope;", Cond.fieldLink RX4 13 "SturmianWords$State" "word" "LSturmianWords$Word;"]
def wsX6_invertMorphism : List Cond := .code yX6_invertMorphism cX6_invertMorphism 4 (some .int) :: ((wsX6_invertMorphism_r1 ++ (wsX6_invertMorphism_r2 ++ (wsX6_invertMorphism_r3 ++ wsX6_invertMorphism_r4))) ++ wsX60 ++ wsX40 ++ wsX50 ++ wsX10)
def wsX6_undo : List Cond := .code yX6_undo cX6_undo 2 (some .int) :: ([.fieldLink RX6 10 "SturmianWords" "history" "LSturmianWords$History;", .fieldLink RX6 38 "SturmianWords" "state" "LSturmianWords$State;", .methodLink RX6 123 yX1_takeLatest, .instanceMethod yX1_takeLatest, .selects RX1 yX1_takeLatest yX1_takeLatest, .initialized RX1, .code yX1_takeLatest cX1_takeLatest 2 (some (.object "SturmianWords$State")), .fieldLink RX1 17 "SturmianWords$History" "next" "I", .fieldLink RX1 11 "SturmianWords$History" "rows" "[LSturmianWords$State;", .fieldLink RX1 21 "SturmianWords$History" "kept" "I"] ++ wsX60 ++ wsX10)
def wsX6_length : List Cond := .code yX6_length cX6_length 1 (some .int) :: ([.fieldLink RX6 38 "SturmianWords" "state" "LSturmianWords$State;"] ++ wsX60 ++ wsX40 ++ wsX50)
def wsX6_weight : List Cond := .code yX6_weight cX6_weight 1 (some .int) :: ([.fieldLink RX6 38 "SturmianWords" "state" "LSturmianWords$State;", .methodLink RX6 85 yX5_ones, .instanceMethod yX5_ones, .selects RX5 yX5_ones yX5_ones, .initialized RX5, .code yX5_ones cX5_ones 1 (some .int), .fieldLink RX5 9 "SturmianWords$Word" "bits" "J", .methodLink RX5 23 yJ13_bitCount_95d88, .static yJ13_bitCount_95d88, .initialized RJ13, .code yJ13_bitCount_95d88 cJ13_bitCount_95d88 2 (some .int), .constantLong RJ13 314 (6148914691236517205), .constantLong RJ13 316 (3689348814741910323), .constantLong RJ13 318 (1085102592571150095)] ++ wsX60 ++ wsX40 ++ wsX50)
def wsX6_letterAt : List Cond := .code yX6_letterAt cX6_letterAt 2 (some .int) :: ([.fieldLink RX6 38 "SturmianWords" "state" "LSturmianWords$State;", .methodLink RX6 104 yX5_letter, .instanceMethod yX5_letter, .selects RX5 yX5_letter yX5_letter, .initialized RX5, .code yX5_letter cX5_letter 2 (some .int), .methodLink RX5 19 yX5_factor, .instanceMethod yX5_factor, .selects RX5 yX5_factor yX5_factor, .code yX5_factor cX5_factor 3 (some .long), .fieldLink RX5 9 "SturmianWords$Word" "bits" "J", .fieldLink RX5 15 "SturmianWords$Word" "size" "I"] ++ wsX60 ++ wsX40 ++ wsX50)
def wsX6_factorCount : List Cond := .code yX6_factorCount cX6_factorCount 2 (some .int) :: ([.fieldLink RX6 38 "SturmianWords" "state" "LSturmianWords$State;", .methodLink RX6 130 yX5_differentFactors, .instanceMethod yX5_differentFactors, .selects RX5 yX5_differentFactors yX5_differentFactors, .initialized RX5, .code yX5_differentFactors cX5_differentFactors 4 (some .int), .fieldLink RX5 15 "SturmianWords$Word" "size" "I", .methodLink RX5 32 yX5_isNew, .instanceMethod yX5_isNew, .selects RX5 yX5_isNew yX5_isNew, .code yX5_isNew cX5_isNew 6 (some .boolean), .methodLink RX5 19 yX5_factor, .instanceMethod yX5_factor, .selects RX5 yX5_factor yX5_factor, .code yX5_factor cX5_factor 3 (some .long), .fieldLink RX5 9 "SturmianWords$Word" "bits" "J"] ++ wsX60 ++ wsX40 ++ wsX50)
def wsX6_factorAt : List Cond := .code yX6_factorAt cX6_factorAt 5 (some .int) :: ([.fieldLink RX6 38 "SturmianWords" "state" "LSturmianWords$State;", .constantLong RX6 137 (-1), .methodLink RX6 133 yX5_listedFactor, .instanceMethod yX5_listedFactor, .selects RX5 yX5_listedFactor yX5_listedFactor, .initialized RX5, .code yX5_listedFactor cX5_listedFactor 6 (some .long), .fieldLink RX5 15 "SturmianWords$Word" "size" "I", .constantLong RX5 36 (-1), .methodLink RX5 38 yX5_nextFactor, .instanceMethod yX5_nextFactor, .selects RX5 yX5_nextFactor yX5_nextFactor, .code yX5_nextFactor cX5_nextFactor 9 (some .long), .methodLink RX5 19 yX5_factor, .instanceMethod yX5_factor, .selects RX5 yX5_factor yX5_factor, .code yX5_factor cX5_factor 3 (some .long), .fieldLink RX5 9 "SturmianWords$Word" "bits" "J"] ++ wsX60 ++ wsX40 ++ wsX50)
def wsX6_unbalancedLength_r1 : List Cond := [Cond.fieldLink RX6 38 "SturmianWords" "state" "LSturmianWords$State;", Cond.methodLink RX6 139 yX5_weightSpread, Cond.instanceMethod yX5_weightSpread, Cond.selects RX5 yX5_weightSpread yX5_weightSpread, Cond.initialized RX5, Cond.code yX5_weightSpread cX5_weightSpread 6 (some .int), Cond.fieldLink RX5 15 "SturmianWords$Word" "size" "I", Cond.methodLink RX5 42 Lib.Math.min.name, Cond.static Lib.Math.min.name, Cond.initialized "java/lang/Math", Cond.code Lib.Math.min.name Lib.Math.min.code 2 (some .int), Cond.methodLink RX5 48 Lib.Math.max.name, Cond.static Lib.Math.max.name, Cond.code Lib.Math.max.name Lib.Math.max.code 2 (some .int), Cond.methodLink RX5 19 yX5_factor, Cond.instanceMethod yX5_factor, Cond.selects RX5 yX5_factor yX5_factor, Cond.code yX5_factor cX5_factor 3 (some .long), Cond.fieldLink RX5 9 "SturmianWords$Word" "bits" "J", Cond.methodLink RX5 23 yJ13_bitCount_95d88, Cond.static yJ13_bitCount_95d88, Cond.initialized RJ13, Cond.code yJ13_bitCount_95d88 cJ13_bitCount_95d88 2 (some .int), Cond.constantLong RJ13 314 (6148914691236517205)]
def wsX6_unbalancedLength_r2 : List Cond := [Cond.constantLong RJ13 316 (3689348814741910323), Cond.constantLong RJ13 318 (1085102592571150095)]
def wsX6_unbalancedLength : List Cond := .code yX6_unbalancedLength cX6_unbalancedLength 3 (some .int) :: ((wsX6_unbalancedLength_r1 ++ wsX6_unbalancedLength_r2) ++ wsX60 ++ wsX40 ++ wsX50)
def wsX6_palindromeCount_r1 : List Cond := [Cond.fieldLink RX6 38 "SturmianWords" "state" "LSturmianWords$State;", Cond.methodLink RX6 142 yX5_differentPalindromes, Cond.instanceMethod yX5_differentPalindromes, Cond.selects RX5 yX5_differentPalindromes yX5_differentPalindromes, Cond.initialized RX5, Cond.code yX5_differentPalindromes cX5_differentPalindromes 5 (some .int), Cond.fieldLink RX5 15 "SturmianWords$Word" "size" "I", Cond.methodLink RX5 51 yX5_reversed, Cond.instanceMethod yX5_reversed, Cond.selects RX5 yX5_reversed yX5_reversed, Cond.code yX5_reversed cX5_reversed 4 (some (.object "SturmianWords$Word")), Cond.fieldLink RX5 9 "SturmianWords$Word" "bits" "J", Cond.classLink RX5 10 RX5, Cond.instantiable RX5 2, Cond.methodLink RX5 29 yX5_init, Cond.instanceMethod yX5_init, Cond.code yX5_init cX5_init 4 none, Cond.methodLink RX5 3 objectInit, Cond.instanceMethod objectInit, Cond.code objectInit ⟨#[0xb1]⟩ 1 none, Cond.methodLink RX5 55 yX5_isPalindrome, Cond.instanceMethod yX5_isPalindrome, Cond.selects RX5 yX5_isPalindrome yX5_isPalindrome, Cond.code yX5_isPalindrome cX5_isPalindrome 4 (some .boolean)]
def wsX6_palindromeCount_r2 : List Cond := [Cond.methodLink RX5 19 yX5_factor, Cond.instanceMethod yX5_factor, Cond.selects RX5 yX5_factor yX5_factor, Cond.code yX5_factor cX5_factor 3 (some .long), Cond.methodLink RX5 32 yX5_isNew, Cond.instanceMethod yX5_isNew, Cond.selects RX5 yX5_isNew yX5_isNew, Cond.code yX5_isNew cX5_isNew 6 (some .boolean)]
def wsX6_palindromeCount : List Cond := .code yX6_palindromeCount cX6_palindromeCount 1 (some .int) :: ((wsX6_palindromeCount_r1 ++ wsX6_palindromeCount_r2) ++ wsX60 ++ wsX40 ++ wsX50)
def wsX6_longestPalindromicPrefix : List Cond := .code yX6_longestPalindromicPrefix cX6_longestPalindromicPrefix 4 (some .int) :: ([.fieldLink RX6 38 "SturmianWords" "state" "LSturmianWords$State;", .methodLink RX6 106 yX5_reversed, .instanceMethod yX5_reversed, .selects RX5 yX5_reversed yX5_reversed, .initialized RX5, .code yX5_reversed cX5_reversed 4 (some (.object "SturmianWords$Word")), .fieldLink RX5 15 "SturmianWords$Word" "size" "I", .fieldLink RX5 9 "SturmianWords$Word" "bits" "J", .classLink RX5 10 RX5, .instantiable RX5 2, .methodLink RX5 29 yX5_init, .instanceMethod yX5_init, .code yX5_init cX5_init 4 none, .methodLink RX5 3 objectInit, .instanceMethod objectInit, .code objectInit ⟨#[0xb1]⟩ 1 none, .methodLink RX6 145 yX5_isPalindrome, .instanceMethod yX5_isPalindrome, .selects RX5 yX5_isPalindrome yX5_isPalindrome, .code yX5_isPalindrome cX5_isPalindrome 4 (some .boolean), .methodLink RX5 19 yX5_factor, .instanceMethod yX5_factor, .selects RX5 yX5_factor yX5_factor, .code yX5_factor cX5_factor 3 (some .long)] ++ wsX60 ++ wsX40 ++ wsX50)
def wsX6_leastPeriod : List Cond := .code yX6_leastPeriod cX6_leastPeriod 3 (some .int) :: ([.fieldLink RX6 38 "SturmianWords" "state" "LSturmianWords$State;", .methodLink RX6 149 yX5_hasPeriod, .instanceMethod yX5_hasPeriod, .selects RX5 yX5_hasPeriod yX5_hasPeriod, .initialized RX5, .code yX5_hasPeriod cX5_hasPeriod 2 (some .boolean), .fieldLink RX5 15 "SturmianWords$Word" "size" "I", .methodLink RX5 19 yX5_factor, .instanceMethod yX5_factor, .selects RX5 yX5_factor yX5_factor, .code yX5_factor cX5_factor 3 (some .long), .fieldLink RX5 9 "SturmianWords$Word" "bits" "J"] ++ wsX60 ++ wsX40 ++ wsX50)
def wsX6_isCentral : List Cond := .code yX6_isCentral cX6_isCentral 5 (some .int) :: ([.fieldLink RX6 38 "SturmianWords" "state" "LSturmianWords$State;", .methodLink RX6 149 yX5_hasPeriod, .instanceMethod yX5_hasPeriod, .selects RX5 yX5_hasPeriod yX5_hasPeriod, .initialized RX5, .code yX5_hasPeriod cX5_hasPeriod 2 (some .boolean), .fieldLink RX5 15 "SturmianWords$Word" "size" "I", .methodLink RX5 19 yX5_factor, .instanceMethod yX5_factor, .selects RX5 yX5_factor yX5_factor, .code yX5_factor cX5_factor 3 (some .long), .fieldLink RX5 9 "SturmianWords$Word" "bits" "J", .methodLink RX6 42 yX6_commonDivisor, .static yX6_commonDivisor, .initialized RX6, .code yX6_commonDivisor cX6_commonDivisor 6 (some .int), .methodLink RX6 46 yX6_quotient, .static yX6_quotient, .code yX6_quotient cX6_quotient 4 (some .long)] ++ wsX60 ++ wsX40 ++ wsX50)
def wsX6_simplestSlope_r1 : List Cond := [Cond.fieldLink RX6 38 "SturmianWords" "state" "LSturmianWords$State;", Cond.methodLink RX6 153 yX5_simplest, Cond.instanceMethod yX5_simplest, Cond.selects RX5 yX5_simplest yX5_simplest, Cond.initialized RX5, Cond.code yX5_simplest cX5_simplest 4 (some (.object "SturmianWords$Slope")), Cond.classLink RX5 65 RX3, Cond.instantiable RX3 3, Cond.initialized RX3, Cond.methodLink RX5 59 yX5_leastIntercept, Cond.instanceMethod yX5_leastIntercept, Cond.selects RX5 yX5_leastIntercept yX5_leastIntercept, Cond.code yX5_leastIntercept cX5_leastIntercept 8 (some .int), Cond.fieldLink RX5 15 "SturmianWords$Word" "size" "I", Cond.methodLink RX5 48 Lib.Math.max.name, Cond.static Lib.Math.max.name, Cond.initialized "java/lang/Math", Cond.code Lib.Math.max.name Lib.Math.max.code 2 (some .int), Cond.methodLink RX5 42 Lib.Math.min.name, Cond.static Lib.Math.min.name, Cond.code Lib.Math.min.name Lib.Math.min.code 2 (some .int), Cond.methodLink RX5 70 yX5_letter, Cond.instanceMethod yX5_letter, Cond.selects RX5 yX5_letter yX5_letter]
def wsX6_simplestSlope_r2 : List Cond := [Cond.code yX5_letter cX5_letter 2 (some .int), Cond.methodLink RX5 19 yX5_factor, Cond.instanceMethod yX5_factor, Cond.selects RX5 yX5_factor yX5_factor, Cond.code yX5_factor cX5_factor 3 (some .long), Cond.fieldLink RX5 9 "SturmianWords$Word" "bits" "J", Cond.static yX6_commonDivisor, Cond.initialized RX6, Cond.code yX6_commonDivisor cX6_commonDivisor 6 (some .int), Cond.methodLink RX6 46 yX6_quotient, Cond.static yX6_quotient, Cond.code yX6_quotient cX6_quotient 4 (some .long), Cond.methodLink RX5 67 yX3_init, Cond.instanceMethod yX3_init, Cond.code yX3_init cX3_init 4 none, Cond.methodLink RX3 3 objectInit, Cond.instanceMethod objectInit, Cond.code objectInit ⟨#[0xb1]⟩ 1 none, Cond.fieldLink RX3 9 "SturmianWords$Slope" "numerator" "I", Cond.fieldLink RX3 15 "SturmianWords$Slope" "denominator" "I", Cond.fieldLink RX3 18 "SturmianWords$Slope" "intercept" "I"]
def wsX6_simplestSlope : List Cond := .code yX6_simplestSlope cX6_simplestSlope 3 (some .int) :: ((wsX6_simplestSlope_r1 ++ wsX6_simplestSlope_r2) ++ wsX60 ++ wsX40 ++ wsX30 ++ wsX50)
def wsX6_gapSizeCount_r1 : List Cond := [Cond.fieldLink RX6 19 "SturmianWords" "circle" "LSturmianWords$Circle;", Cond.fieldLink RX6 38 "SturmianWords" "state" "LSturmianWords$State;", Cond.methodLink RX6 157 yX0_measure, Cond.instanceMethod yX0_measure, Cond.selects RX0 yX0_measure yX0_measure, Cond.initialized RX0, Cond.code yX0_measure cX0_measure 5 none, Cond.fieldLink RX0 15 "SturmianWords$Circle" "gaps" "[I", Cond.methodLink RX0 19 yX0_markPoints, Cond.instanceMethod yX0_markPoints, Cond.selects RX0 yX0_markPoints yX0_markPoints, Cond.code yX0_markPoints cX0_markPoints 5 none, Cond.fieldLink RX0 9 "SturmianWords$Circle" "points" "[Z", Cond.methodLink RX0 23 yJ7_fill_53178, Cond.static yJ7_fill_53178, Cond.initialized RJ7, Cond.code yJ7_fill_53178 cJ7_fill_53178 4 none, Cond.methodLink RX0 35 yX0_isPoint, Cond.instanceMethod yX0_isPoint, Cond.selects RX0 yX0_isPoint yX0_isPoint, Cond.code yX0_isPoint cX0_isPoint 2 (some .boolean), Cond.methodLink RX0 39 yX0_addGap, Cond.instanceMethod yX0_addGap, Cond.selects RX0 yX0_addGap yX0_addGap]
def wsX6_gapSizeCount_r2 : List Cond := [Cond.code yX0_addGap cX0_addGap 2 none, Cond.methodLink RX6 161 yX0_differentSizes, Cond.instanceMethod yX0_differentSizes, Cond.selects RX0 yX0_differentSizes yX0_differentSizes, Cond.code yX0_differentSizes cX0_differentSizes 3 (some .int)]
def wsX6_gapSizeCount : List Cond := .code yX6_gapSizeCount cX6_gapSizeCount 2 (some .int) :: ((wsX6_gapSizeCount_r1 ++ wsX6_gapSizeCount_r2) ++ wsX60 ++ wsX40 ++ wsX00 ++ wsX30)
def wsX6_gapSize_r1 : List Cond := [Cond.fieldLink RX6 19 "SturmianWords" "circle" "LSturmianWords$Circle;", Cond.fieldLink RX6 38 "SturmianWords" "state" "LSturmianWords$State;", Cond.methodLink RX6 157 yX0_measure, Cond.instanceMethod yX0_measure, Cond.selects RX0 yX0_measure yX0_measure, Cond.initialized RX0, Cond.code yX0_measure cX0_measure 5 none, Cond.fieldLink RX0 15 "SturmianWords$Circle" "gaps" "[I", Cond.methodLink RX0 19 yX0_markPoints, Cond.instanceMethod yX0_markPoints, Cond.selects RX0 yX0_markPoints yX0_markPoints, Cond.code yX0_markPoints cX0_markPoints 5 none, Cond.fieldLink RX0 9 "SturmianWords$Circle" "points" "[Z", Cond.methodLink RX0 23 yJ7_fill_53178, Cond.static yJ7_fill_53178, Cond.initialized RJ7, Cond.code yJ7_fill_53178 cJ7_fill_53178 4 none, Cond.methodLink RX0 35 yX0_isPoint, Cond.instanceMethod yX0_isPoint, Cond.selects RX0 yX0_isPoint yX0_isPoint, Cond.code yX0_isPoint cX0_isPoint 2 (some .boolean), Cond.methodLink RX0 39 yX0_addGap, Cond.instanceMethod yX0_addGap, Cond.selects RX0 yX0_addGap yX0_addGap]
def wsX6_gapSize_r2 : List Cond := [Cond.code yX0_addGap cX0_addGap 2 none, Cond.methodLink RX6 164 yX0_listedSize, Cond.instanceMethod yX0_listedSize, Cond.selects RX0 yX0_listedSize yX0_listedSize, Cond.code yX0_listedSize cX0_listedSize 4 (some .int)]
def wsX6_gapSize : List Cond := .code yX6_gapSize cX6_gapSize 4 (some .int) :: ((wsX6_gapSize_r1 ++ wsX6_gapSize_r2) ++ wsX60 ++ wsX40 ++ wsX00 ++ wsX30)
def wsX6_gapsOfSize_r1 : List Cond := [Cond.fieldLink RX6 19 "SturmianWords" "circle" "LSturmianWords$Circle;", Cond.fieldLink RX6 38 "SturmianWords" "state" "LSturmianWords$State;", Cond.methodLink RX6 157 yX0_measure, Cond.instanceMethod yX0_measure, Cond.selects RX0 yX0_measure yX0_measure, Cond.initialized RX0, Cond.code yX0_measure cX0_measure 5 none, Cond.fieldLink RX0 15 "SturmianWords$Circle" "gaps" "[I", Cond.methodLink RX0 19 yX0_markPoints, Cond.instanceMethod yX0_markPoints, Cond.selects RX0 yX0_markPoints yX0_markPoints, Cond.code yX0_markPoints cX0_markPoints 5 none, Cond.fieldLink RX0 9 "SturmianWords$Circle" "points" "[Z", Cond.methodLink RX0 23 yJ7_fill_53178, Cond.static yJ7_fill_53178, Cond.initialized RJ7, Cond.code yJ7_fill_53178 cJ7_fill_53178 4 none, Cond.methodLink RX0 35 yX0_isPoint, Cond.instanceMethod yX0_isPoint, Cond.selects RX0 yX0_isPoint yX0_isPoint, Cond.code yX0_isPoint cX0_isPoint 2 (some .boolean), Cond.methodLink RX0 39 yX0_addGap, Cond.instanceMethod yX0_addGap, Cond.selects RX0 yX0_addGap yX0_addGap]
def wsX6_gapsOfSize_r2 : List Cond := [Cond.code yX0_addGap cX0_addGap 2 none, Cond.methodLink RX6 167 yX0_gapsWith, Cond.instanceMethod yX0_gapsWith, Cond.selects RX0 yX0_gapsWith yX0_gapsWith, Cond.code yX0_gapsWith cX0_gapsWith 2 (some .int)]
def wsX6_gapsOfSize : List Cond := .code yX6_gapsOfSize cX6_gapsOfSize 3 (some .int) :: ((wsX6_gapsOfSize_r1 ++ wsX6_gapsOfSize_r2) ++ wsX60 ++ wsX40 ++ wsX00 ++ wsX30)
def wsX6_historySize : List Cond := .code yX6_historySize cX6_historySize 1 (some .int) :: ([.fieldLink RX6 10 "SturmianWords" "history" "LSturmianWords$History;"] ++ wsX60 ++ wsX10)
def wsX7_init : List Cond := .code yX7_init cX7_init 1 none :: ([.methodLink RX7 1 objectInit, .instanceMethod objectInit, .code objectInit ⟨#[0xb1]⟩ 1 none, .arrayClass .int, .fieldLink RX7 7 "SturmianWordsModel" "now" "[I", .fieldLink RX7 13 "SturmianWordsModel" "next" "[I", .fieldLink RX7 16 "SturmianWordsModel" "past" "[I", .fieldLink RX7 19 "SturmianWordsModel" "terms" "[I", .fieldLink RX7 22 "SturmianWordsModel" "older" "[I", .fieldLink RX7 25 "SturmianWordsModel" "newer" "[I", .arrayClass .boolean, .fieldLink RX7 28 "SturmianWordsModel" "points" "[Z"] ++ wsX70)
def wsX7_in : List Cond := .code yX7_in cX7_in 3 (some .boolean) :: ([])
def wsX7_copy : List Cond := .code yX7_copy cX7_copy 5 none :: ([])
def wsX7_save : List Cond := .code yX7_save cX7_save 2 none :: ([.fieldLink RX7 32 "SturmianWordsModel" "edits" "I", .fieldLink RX7 16 "SturmianWordsModel" "past" "[I", .fieldLink RX7 7 "SturmianWordsModel" "now" "[I", .methodLink RX7 36 yX7_copy, .static yX7_copy, .initialized RX7, .code yX7_copy cX7_copy 5 none] ++ wsX70)
def wsX7_take : List Cond := .code yX7_take cX7_take 1 none :: ([.fieldLink RX7 13 "SturmianWordsModel" "next" "[I", .fieldLink RX7 7 "SturmianWordsModel" "now" "[I", .methodLink RX7 40 yX7_save, .instanceMethod yX7_save, .selects RX7 yX7_save yX7_save, .initialized RX7, .code yX7_save cX7_save 2 none, .fieldLink RX7 32 "SturmianWordsModel" "edits" "I", .fieldLink RX7 16 "SturmianWordsModel" "past" "[I", .methodLink RX7 36 yX7_copy, .static yX7_copy, .code yX7_copy cX7_copy 5 none] ++ wsX70)
def wsX7_divisor : List Cond := .code yX7_divisor cX7_divisor 5 (some .int) :: ([])
def wsX7_setSlope : List Cond := .code yX7_setSlope cX7_setSlope 4 (some .int) :: ([.fieldLink RX7 7 "SturmianWordsModel" "now" "[I", .methodLink RX7 43 yX7_in, .static yX7_in, .initialized RX7, .code yX7_in cX7_in 3 (some .boolean), .methodLink RX7 40 yX7_save, .instanceMethod yX7_save, .selects RX7 yX7_save yX7_save, .code yX7_save cX7_save 2 none, .fieldLink RX7 32 "SturmianWordsModel" "edits" "I", .fieldLink RX7 16 "SturmianWordsModel" "past" "[I", .methodLink RX7 36 yX7_copy, .static yX7_copy, .code yX7_copy cX7_copy 5 none, .methodLink RX7 47 yX7_divisor, .static yX7_divisor, .code yX7_divisor cX7_divisor 5 (some .int)] ++ wsX70)
def wsX7_setIntercept : List Cond := .code yX7_setIntercept cX7_setIntercept 3 (some .int) :: ([.fieldLink RX7 7 "SturmianWordsModel" "now" "[I", .methodLink RX7 43 yX7_in, .static yX7_in, .initialized RX7, .code yX7_in cX7_in 3 (some .boolean), .methodLink RX7 40 yX7_save, .instanceMethod yX7_save, .selects RX7 yX7_save yX7_save, .code yX7_save cX7_save 2 none, .fieldLink RX7 32 "SturmianWordsModel" "edits" "I", .fieldLink RX7 16 "SturmianWordsModel" "past" "[I", .methodLink RX7 36 yX7_copy, .static yX7_copy, .code yX7_copy cX7_copy 5 none] ++ wsX70)
def wsX7_slopeNumerator : List Cond := .code yX7_slopeNumerator cX7_slopeNumerator 1 (some .int) :: ([.fieldLink RX7 7 "SturmianWordsModel" "now" "[I"] ++ wsX70)
def wsX7_slopeDenominator : List Cond := .code yX7_slopeDenominator cX7_slopeDenominator 1 (some .int) :: ([.fieldLink RX7 7 "SturmianWordsModel" "now" "[I"] ++ wsX70)
def wsX7_expand : List Cond := .code yX7_expand cX7_expand 4 none :: ([.fieldLink RX7 51 "SturmianWordsModel" "termCount" "I", .fieldLink RX7 7 "SturmianWordsModel" "now" "[I", .fieldLink RX7 19 "SturmianWordsModel" "terms" "[I"] ++ wsX70)
def wsX7_continuedFractionTerm : List Cond := .code yX7_continuedFractionTerm cX7_continuedFractionTerm 2 (some .int) :: ([.fieldLink RX7 51 "SturmianWordsModel" "termCount" "I", .fieldLink RX7 19 "SturmianWordsModel" "terms" "[I", .methodLink RX7 54 yX7_expand, .instanceMethod yX7_expand, .selects RX7 yX7_expand yX7_expand, .initialized RX7, .code yX7_expand cX7_expand 4 none, .fieldLink RX7 7 "SturmianWordsModel" "now" "[I"] ++ wsX70)
def wsX7_roundedUp : List Cond := .code yX7_roundedUp cX7_roundedUp 2 (some .int) :: ([])
def wsX7_letterOf : List Cond := .code yX7_letterOf cX7_letterOf 5 (some .int) :: ([.fieldLink RX7 7 "SturmianWordsModel" "now" "[I", .methodLink RX7 57 yX7_roundedUp, .static yX7_roundedUp, .initialized RX7, .code yX7_roundedUp cX7_roundedUp 2 (some .int)] ++ wsX70)
def wsX7_mechanicalLetter : List Cond := .code yX7_mechanicalLetter cX7_mechanicalLetter 3 (some .int) :: ([.constant RX7 60 (1000000), .methodLink RX7 43 yX7_in, .static yX7_in, .initialized RX7, .code yX7_in cX7_in 3 (some .boolean), .methodLink RX7 61 yX7_letterOf, .instanceMethod yX7_letterOf, .selects RX7 yX7_letterOf yX7_letterOf, .code yX7_letterOf cX7_letterOf 5 (some .int), .fieldLink RX7 7 "SturmianWordsModel" "now" "[I", .methodLink RX7 57 yX7_roundedUp, .static yX7_roundedUp, .code yX7_roundedUp cX7_roundedUp 2 (some .int)] ++ wsX70)
def wsX7_weightOf : List Cond := .code yX7_weightOf cX7_weightOf 3 (some .int) :: ([])
def wsX7_loadMechanical_r1 : List Cond := [Cond.fieldLink RX7 13 "SturmianWordsModel" "next" "[I", Cond.fieldLink RX7 7 "SturmianWordsModel" "now" "[I", Cond.methodLink RX7 61 yX7_letterOf, Cond.instanceMethod yX7_letterOf, Cond.selects RX7 yX7_letterOf yX7_letterOf, Cond.initialized RX7, Cond.code yX7_letterOf cX7_letterOf 5 (some .int), Cond.methodLink RX7 57 yX7_roundedUp, Cond.static yX7_roundedUp, Cond.code yX7_roundedUp cX7_roundedUp 2 (some .int), Cond.methodLink RX7 65 yX7_take, Cond.instanceMethod yX7_take, Cond.selects RX7 yX7_take yX7_take, Cond.code yX7_take cX7_take 1 none, Cond.methodLink RX7 40 yX7_save, Cond.instanceMethod yX7_save, Cond.selects RX7 yX7_save yX7_save, Cond.code yX7_save cX7_save 2 none, Cond.fieldLink RX7 32 "SturmianWordsModel" "edits" "I", Cond.fieldLink RX7 16 "SturmianWordsModel" "past" "[I", Cond.methodLink RX7 36 yX7_copy, Cond.static yX7_copy, Cond.code yX7_copy cX7_copy 5 none, Cond.methodLink RX7 68 yX7_weightOf]
def wsX7_loadMechanical_r2 : List Cond := [Cond.static yX7_weightOf, Cond.code yX7_weightOf cX7_weightOf 3 (some .int)]
def wsX7_loadMechanical : List Cond := .code yX7_loadMechanical cX7_loadMechanical 4 (some .int) :: ((wsX7_loadMechanical_r1 ++ wsX7_loadMechanical_r2) ++ wsX70)
def wsX7_appendTo : List Cond := .code yX7_appendTo cX7_appendTo 2 none :: ([.fieldLink RX7 13 "SturmianWordsModel" "next" "[I"] ++ wsX70)
def wsX7_further : List Cond := .code yX7_further cX7_further 4 (some .boolean) :: ([.fieldLink RX7 13 "SturmianWordsModel" "next" "[I", .fieldLink RX7 72 "SturmianWordsModel" "newerLength" "I", .fieldLink RX7 25 "SturmianWordsModel" "newer" "[I", .fieldLink RX7 79 "SturmianWordsModel" "olderLength" "I", .fieldLink RX7 22 "SturmianWordsModel" "older" "[I", .methodLink RX7 75 yX7_appendTo, .instanceMethod yX7_appendTo, .selects RX7 yX7_appendTo yX7_appendTo, .initialized RX7, .code yX7_appendTo cX7_appendTo 2 none] ++ wsX70)
def wsX7_loadStandard_r1 : List Cond := [Cond.fieldLink RX7 51 "SturmianWordsModel" "termCount" "I", Cond.fieldLink RX7 22 "SturmianWordsModel" "older" "[I", Cond.fieldLink RX7 79 "SturmianWordsModel" "olderLength" "I", Cond.fieldLink RX7 25 "SturmianWordsModel" "newer" "[I", Cond.fieldLink RX7 72 "SturmianWordsModel" "newerLength" "I", Cond.fieldLink RX7 13 "SturmianWordsModel" "next" "[I", Cond.fieldLink RX7 19 "SturmianWordsModel" "terms" "[I", Cond.fieldLink RX7 7 "SturmianWordsModel" "now" "[I", Cond.methodLink RX7 54 yX7_expand, Cond.instanceMethod yX7_expand, Cond.selects RX7 yX7_expand yX7_expand, Cond.initialized RX7, Cond.code yX7_expand cX7_expand 4 none, Cond.methodLink RX7 82 yX7_further, Cond.instanceMethod yX7_further, Cond.selects RX7 yX7_further yX7_further, Cond.code yX7_further cX7_further 4 (some .boolean), Cond.methodLink RX7 75 yX7_appendTo, Cond.instanceMethod yX7_appendTo, Cond.selects RX7 yX7_appendTo yX7_appendTo, Cond.code yX7_appendTo cX7_appendTo 2 none, Cond.methodLink RX7 65 yX7_take, Cond.instanceMethod yX7_take, Cond.selects RX7 yX7_take yX7_take]
def wsX7_loadStandard_r2 : List Cond := [Cond.code yX7_take cX7_take 1 none, Cond.methodLink RX7 40 yX7_save, Cond.instanceMethod yX7_save, Cond.selects RX7 yX7_save yX7_save, Cond.code yX7_save cX7_save 2 none, Cond.fieldLink RX7 32 "SturmianWordsModel" "edits" "I", Cond.fieldLink RX7 16 "SturmianWordsModel" "past" "[I", Cond.methodLink RX7 36 yX7_copy, Cond.static yX7_copy, Cond.code yX7_copy cX7_copy 5 none]
def wsX7_loadStandard : List Cond := .code yX7_loadStandard cX7_loadStandard 3 (some .int) :: ((wsX7_loadStandard_r1 ++ wsX7_loadStandard_r2) ++ wsX70)
def wsX7_append : List Cond := .code yX7_append cX7_append 2 (some .int) :: ([.fieldLink RX7 7 "SturmianWordsModel" "now" "[I", .methodLink RX7 43 yX7_in, .static yX7_in, .initialized RX7, .code yX7_in cX7_in 3 (some .boolean), .methodLink RX7 40 yX7_save, .instanceMethod yX7_save, .selects RX7 yX7_save yX7_save, .code yX7_save cX7_save 2 none, .fieldLink RX7 32 "SturmianWordsModel" "edits" "I", .fieldLink RX7 16 "SturmianWordsModel" "past" "[I", .methodLink RX7 36 yX7_copy, .static yX7_copy, .code yX7_copy cX7_copy 5 none] ++ wsX70)
def wsX7_removeLast : List Cond := .code yX7_removeLast cX7_removeLast 1 (some .int) :: ([.fieldLink RX7 7 "SturmianWordsModel" "now" "[I", .methodLink RX7 40 yX7_save, .instanceMethod yX7_save, .selects RX7 yX7_save yX7_save, .initialized RX7, .code yX7_save cX7_save 2 none, .fieldLink RX7 32 "SturmianWordsModel" "edits" "I", .fieldLink RX7 16 "SturmianWordsModel" "past" "[I", .methodLink RX7 36 yX7_copy, .static yX7_copy, .code yX7_copy cX7_copy 5 none] ++ wsX70)
def wsX7_clear : List Cond := .code yX7_clear cX7_clear 2 (some .int) :: ([.fieldLink RX7 7 "SturmianWordsModel" "now" "[I", .methodLink RX7 40 yX7_save, .instanceMethod yX7_save, .selects RX7 yX7_save yX7_save, .initialized RX7, .code yX7_save cX7_save 2 none, .fieldLink RX7 32 "SturmianWordsModel" "edits" "I", .fieldLink RX7 16 "SturmianWordsModel" "past" "[I", .methodLink RX7 36 yX7_copy, .static yX7_copy, .code yX7_copy cX7_copy 5 none] ++ wsX70)
def wsX7_isPalindrome : List Cond := .code yX7_isPalindrome cX7_isPalindrome 4 (some .boolean) :: ([.fieldLink RX7 7 "SturmianWordsModel" "now" "[I"] ++ wsX70)
def wsX7_reverse : List Cond := .code yX7_reverse cX7_reverse 3 (some .int) :: ([.fieldLink RX7 7 "SturmianWordsModel" "now" "[I", .fieldLink RX7 13 "SturmianWordsModel" "next" "[I", .methodLink RX7 86 yX7_isPalindrome, .instanceMethod yX7_isPalindrome, .selects RX7 yX7_isPalindrome yX7_isPalindrome, .initialized RX7, .code yX7_isPalindrome cX7_isPalindrome 4 (some .boolean), .methodLink RX7 65 yX7_take, .instanceMethod yX7_take, .selects RX7 yX7_take yX7_take, .code yX7_take cX7_take 1 none, .methodLink RX7 40 yX7_save, .instanceMethod yX7_save, .selects RX7 yX7_save yX7_save, .code yX7_save cX7_save 2 none, .fieldLink RX7 32 "SturmianWordsModel" "edits" "I", .fieldLink RX7 16 "SturmianWordsModel" "past" "[I", .methodLink RX7 36 yX7_copy, .static yX7_copy, .code yX7_copy cX7_copy 5 none] ++ wsX70)
def wsX7_imageOf : List Cond := .code yX7_imageOf cX7_imageOf 2 (some .int) :: ([])
def wsX7_applyMorphism_r1 : List Cond := [Cond.fieldLink RX7 13 "SturmianWordsModel" "next" "[I", Cond.fieldLink RX7 7 "SturmianWordsModel" "now" "[I", Cond.methodLink RX7 43 yX7_in, Cond.static yX7_in, Cond.initialized RX7, Cond.code yX7_in cX7_in 3 (some .boolean), Cond.methodLink RX7 90 yX7_imageOf, Cond.static yX7_imageOf, Cond.code yX7_imageOf cX7_imageOf 2 (some .int), Cond.methodLink RX7 75 yX7_appendTo, Cond.instanceMethod yX7_appendTo, Cond.selects RX7 yX7_appendTo yX7_appendTo, Cond.code yX7_appendTo cX7_appendTo 2 none, Cond.methodLink RX7 65 yX7_take, Cond.instanceMethod yX7_take, Cond.selects RX7 yX7_take yX7_take, Cond.code yX7_take cX7_take 1 none, Cond.methodLink RX7 40 yX7_save, Cond.instanceMethod yX7_save, Cond.selects RX7 yX7_save yX7_save, Cond.code yX7_save cX7_save 2 none, Cond.fieldLink RX7 32 "SturmianWordsModel" "edits" "I", Cond.fieldLink RX7 16 "SturmianWordsModel" "past" "[I", Cond.methodLink RX7 36 yX7_copy]
def wsX7_applyMorphism_r2 : List Cond := [Cond.static yX7_copy, Cond.code yX7_copy cX7_copy 5 none]
def wsX7_applyMorphism : List Cond := .code yX7_applyMorphism cX7_applyMorphism 4 (some .int) :: ((wsX7_applyMorphism_r1 ++ wsX7_applyMorphism_r2) ++ wsX70)
def wsX7_stands : List Cond := .code yX7_stands cX7_stands 3 (some .boolean) :: ([.fieldLink RX7 7 "SturmianWordsModel" "now" "[I"] ++ wsX70)
def wsX7_invertMorphism_r1 : List Cond := [Cond.fieldLink RX7 13 "SturmianWordsModel" "next" "[I", Cond.fieldLink RX7 7 "SturmianWordsModel" "now" "[I", Cond.methodLink RX7 43 yX7_in, Cond.static yX7_in, Cond.initialized RX7, Cond.code yX7_in cX7_in 3 (some .boolean), Cond.methodLink RX7 90 yX7_imageOf, Cond.static yX7_imageOf, Cond.code yX7_imageOf cX7_imageOf 2 (some .int), Cond.methodLink RX7 93 yX7_stands, Cond.instanceMethod yX7_stands, Cond.selects RX7 yX7_stands yX7_stands, Cond.code yX7_stands cX7_stands 3 (some .boolean), Cond.methodLink RX7 75 yX7_appendTo, Cond.instanceMethod yX7_appendTo, Cond.selects RX7 yX7_appendTo yX7_appendTo, Cond.code yX7_appendTo cX7_appendTo 2 none, Cond.methodLink RX7 65 yX7_take, Cond.instanceMethod yX7_take, Cond.selects RX7 yX7_take yX7_take, Cond.code yX7_take cX7_take 1 none, Cond.methodLink RX7 40 yX7_save, Cond.instanceMethod yX7_save, Cond.selects RX7 yX7_save yX7_save]
def wsX7_invertMorphism_r2 : List Cond := [Cond.code yX7_save cX7_save 2 none, Cond.fieldLink RX7 32 "SturmianWordsModel" "edits" "I", Cond.fieldLink RX7 16 "SturmianWordsModel" "past" "[I", Cond.methodLink RX7 36 yX7_copy, Cond.static yX7_copy, Cond.code yX7_copy cX7_copy 5 none]
def wsX7_invertMorphism : List Cond := .code yX7_invertMorphism cX7_invertMorphism 6 (some .int) :: ((wsX7_invertMorphism_r1 ++ wsX7_invertMorphism_r2) ++ wsX70)
def wsX7_undo : List Cond := .code yX7_undo cX7_undo 1 (some .int) :: ([.fieldLink RX7 32 "SturmianWordsModel" "edits" "I", .fieldLink RX7 16 "SturmianWordsModel" "past" "[I", .fieldLink RX7 7 "SturmianWordsModel" "now" "[I", .methodLink RX7 36 yX7_copy, .static yX7_copy, .initialized RX7, .code yX7_copy cX7_copy 5 none] ++ wsX70)
def wsX7_length : List Cond := .code yX7_length cX7_length 1 (some .int) :: ([.fieldLink RX7 7 "SturmianWordsModel" "now" "[I"] ++ wsX70)
def wsX7_weight : List Cond := .code yX7_weight cX7_weight 1 (some .int) :: ([.fieldLink RX7 7 "SturmianWordsModel" "now" "[I", .methodLink RX7 68 yX7_weightOf, .static yX7_weightOf, .initialized RX7, .code yX7_weightOf cX7_weightOf 3 (some .int)] ++ wsX70)
def wsX7_letterAt : List Cond := .code yX7_letterAt cX7_letterAt 2 (some .int) :: ([.fieldLink RX7 7 "SturmianWordsModel" "now" "[I"] ++ wsX70)
def wsX7_compare : List Cond := .code yX7_compare cX7_compare 5 (some .int) :: ([.fieldLink RX7 7 "SturmianWordsModel" "now" "[I"] ++ wsX70)
def wsX7_isFirst : List Cond := .code yX7_isFirst cX7_isFirst 4 (some .boolean) :: ([.methodLink RX7 96 yX7_compare, .instanceMethod yX7_compare, .selects RX7 yX7_compare yX7_compare, .initialized RX7, .code yX7_compare cX7_compare 5 (some .int), .fieldLink RX7 7 "SturmianWordsModel" "now" "[I"] ++ wsX70)
def wsX7_factorCount : List Cond := .code yX7_factorCount cX7_factorCount 4 (some .int) :: ([.fieldLink RX7 7 "SturmianWordsModel" "now" "[I", .methodLink RX7 100 yX7_isFirst, .instanceMethod yX7_isFirst, .selects RX7 yX7_isFirst yX7_isFirst, .initialized RX7, .code yX7_isFirst cX7_isFirst 4 (some .boolean), .methodLink RX7 96 yX7_compare, .instanceMethod yX7_compare, .selects RX7 yX7_compare yX7_compare, .code yX7_compare cX7_compare 5 (some .int)] ++ wsX70)
def wsX7_numberAt : List Cond := .code yX7_numberAt cX7_numberAt 5 (some .int) :: ([.fieldLink RX7 7 "SturmianWordsModel" "now" "[I"] ++ wsX70)
def wsX7_factorAt : List Cond := .code yX7_factorAt cX7_factorAt 6 (some .int) :: ([.fieldLink RX7 7 "SturmianWordsModel" "now" "[I", .methodLink RX7 43 yX7_in, .static yX7_in, .initialized RX7, .code yX7_in cX7_in 3 (some .boolean), .methodLink RX7 100 yX7_isFirst, .instanceMethod yX7_isFirst, .selects RX7 yX7_isFirst yX7_isFirst, .code yX7_isFirst cX7_isFirst 4 (some .boolean), .methodLink RX7 96 yX7_compare, .instanceMethod yX7_compare, .selects RX7 yX7_compare yX7_compare, .code yX7_compare cX7_compare 5 (some .int), .methodLink RX7 103 yX7_numberAt, .instanceMethod yX7_numberAt, .selects RX7 yX7_numberAt yX7_numberAt, .code yX7_numberAt cX7_numberAt 5 (some .int)] ++ wsX70)
def wsX7_unbalancedLength : List Cond := .code yX7_unbalancedLength cX7_unbalancedLength 7 (some .int) :: ([.fieldLink RX7 7 "SturmianWordsModel" "now" "[I"] ++ wsX70)
def wsX7_palindromeCount : List Cond := .code yX7_palindromeCount cX7_palindromeCount 4 (some .int) :: ([.fieldLink RX7 7 "SturmianWordsModel" "now" "[I", .methodLink RX7 86 yX7_isPalindrome, .instanceMethod yX7_isPalindrome, .selects RX7 yX7_isPalindrome yX7_isPalindrome, .initialized RX7, .code yX7_isPalindrome cX7_isPalindrome 4 (some .boolean), .methodLink RX7 100 yX7_isFirst, .instanceMethod yX7_isFirst, .selects RX7 yX7_isFirst yX7_isFirst, .code yX7_isFirst cX7_isFirst 4 (some .boolean), .methodLink RX7 96 yX7_compare, .instanceMethod yX7_compare, .selects RX7 yX7_compare yX7_compare, .code yX7_compare cX7_compare 5 (some .int)] ++ wsX70)
def wsX7_longestPalindromicPrefix : List Cond := .code yX7_longestPalindromicPrefix cX7_longestPalindromicPrefix 2 (some .int) :: ([.fieldLink RX7 7 "SturmianWordsModel" "now" "[I", .methodLink RX7 86 yX7_isPalindrome, .instanceMethod yX7_isPalindrome, .selects RX7 yX7_isPalindrome yX7_isPalindrome, .initialized RX7, .code yX7_isPalindrome cX7_isPalindrome 4 (some .boolean)] ++ wsX70)
def wsX7_isPeriod : List Cond := .code yX7_isPeriod cX7_isPeriod 3 (some .boolean) :: ([.fieldLink RX7 7 "SturmianWordsModel" "now" "[I"] ++ wsX70)
def wsX7_leastPeriod : List Cond := .code yX7_leastPeriod cX7_leastPeriod 2 (some .int) :: ([.fieldLink RX7 7 "SturmianWordsModel" "now" "[I", .methodLink RX7 106 yX7_isPeriod, .instanceMethod yX7_isPeriod, .selects RX7 yX7_isPeriod yX7_isPeriod, .initialized RX7, .code yX7_isPeriod cX7_isPeriod 3 (some .boolean)] ++ wsX70)
def wsX7_isCentral : List Cond := .code yX7_isCentral cX7_isCentral 4 (some .int) :: ([.fieldLink RX7 7 "SturmianWordsModel" "now" "[I", .methodLink RX7 47 yX7_divisor, .static yX7_divisor, .initialized RX7, .code yX7_divisor cX7_divisor 5 (some .int), .methodLink RX7 106 yX7_isPeriod, .instanceMethod yX7_isPeriod, .selects RX7 yX7_isPeriod yX7_isPeriod, .code yX7_isPeriod cX7_isPeriod 3 (some .boolean)] ++ wsX70)
def wsX7_begins : List Cond := .code yX7_begins cX7_begins 5 (some .boolean) :: ([.fieldLink RX7 7 "SturmianWordsModel" "now" "[I"] ++ wsX70)
def wsX7_simplest : List Cond := .code yX7_simplest cX7_simplest 5 (some .int) :: ([.methodLink RX7 47 yX7_divisor, .static yX7_divisor, .initialized RX7, .code yX7_divisor cX7_divisor 5 (some .int), .methodLink RX7 109 yX7_begins, .instanceMethod yX7_begins, .selects RX7 yX7_begins yX7_begins, .code yX7_begins cX7_begins 5 (some .boolean), .fieldLink RX7 7 "SturmianWordsModel" "now" "[I"] ++ wsX70)
def wsX7_simplestSlope : List Cond := .code yX7_simplestSlope cX7_simplestSlope 2 (some .int) :: ([.methodLink RX7 43 yX7_in, .static yX7_in, .initialized RX7, .code yX7_in cX7_in 3 (some .boolean), .methodLink RX7 112 yX7_simplest, .instanceMethod yX7_simplest, .selects RX7 yX7_simplest yX7_simplest, .code yX7_simplest cX7_simplest 5 (some .int), .methodLink RX7 47 yX7_divisor, .static yX7_divisor, .code yX7_divisor cX7_divisor 5 (some .int), .methodLink RX7 109 yX7_begins, .instanceMethod yX7_begins, .selects RX7 yX7_begins yX7_begins, .code yX7_begins cX7_begins 5 (some .boolean), .fieldLink RX7 7 "SturmianWordsModel" "now" "[I"] ++ wsX70)
def wsX7_layPoints : List Cond := .code yX7_layPoints cX7_layPoints 4 none :: ([.fieldLink RX7 7 "SturmianWordsModel" "now" "[I", .fieldLink RX7 28 "SturmianWordsModel" "points" "[Z"] ++ wsX70)
def wsX7_gapsWith : List Cond := .code yX7_gapsWith cX7_gapsWith 5 (some .int) :: ([.fieldLink RX7 7 "SturmianWordsModel" "now" "[I", .fieldLink RX7 28 "SturmianWordsModel" "points" "[Z"] ++ wsX70)
def wsX7_sizeAt : List Cond := .code yX7_sizeAt cX7_sizeAt 5 (some .int) :: ([.fieldLink RX7 7 "SturmianWordsModel" "now" "[I", .methodLink RX7 116 yX7_layPoints, .instanceMethod yX7_layPoints, .selects RX7 yX7_layPoints yX7_layPoints, .initialized RX7, .code yX7_layPoints cX7_layPoints 4 none, .fieldLink RX7 28 "SturmianWordsModel" "points" "[Z", .methodLink RX7 119 yX7_gapsWith, .instanceMethod yX7_gapsWith, .selects RX7 yX7_gapsWith yX7_gapsWith, .code yX7_gapsWith cX7_gapsWith 5 (some .int)] ++ wsX70)
def wsX7_gapSizeCount : List Cond := .code yX7_gapSizeCount cX7_gapSizeCount 2 (some .int) :: ([.methodLink RX7 43 yX7_in, .static yX7_in, .initialized RX7, .code yX7_in cX7_in 3 (some .boolean), .methodLink RX7 122 yX7_sizeAt, .instanceMethod yX7_sizeAt, .selects RX7 yX7_sizeAt yX7_sizeAt, .code yX7_sizeAt cX7_sizeAt 5 (some .int), .fieldLink RX7 7 "SturmianWordsModel" "now" "[I", .methodLink RX7 116 yX7_layPoints, .instanceMethod yX7_layPoints, .selects RX7 yX7_layPoints yX7_layPoints, .code yX7_layPoints cX7_layPoints 4 none, .fieldLink RX7 28 "SturmianWordsModel" "points" "[Z", .methodLink RX7 119 yX7_gapsWith, .instanceMethod yX7_gapsWith, .selects RX7 yX7_gapsWith yX7_gapsWith, .code yX7_gapsWith cX7_gapsWith 5 (some .int)] ++ wsX70)
def wsX7_gapSize : List Cond := .code yX7_gapSize cX7_gapSize 3 (some .int) :: ([.methodLink RX7 43 yX7_in, .static yX7_in, .initialized RX7, .code yX7_in cX7_in 3 (some .boolean), .methodLink RX7 122 yX7_sizeAt, .instanceMethod yX7_sizeAt, .selects RX7 yX7_sizeAt yX7_sizeAt, .code yX7_sizeAt cX7_sizeAt 5 (some .int), .fieldLink RX7 7 "SturmianWordsModel" "now" "[I", .methodLink RX7 116 yX7_layPoints, .instanceMethod yX7_layPoints, .selects RX7 yX7_layPoints yX7_layPoints, .code yX7_layPoints cX7_layPoints 4 none, .fieldLink RX7 28 "SturmianWordsModel" "points" "[Z", .methodLink RX7 119 yX7_gapsWith, .instanceMethod yX7_gapsWith, .selects RX7 yX7_gapsWith yX7_gapsWith, .code yX7_gapsWith cX7_gapsWith 5 (some .int)] ++ wsX70)
def wsX7_gapsOfSize : List Cond := .code yX7_gapsOfSize cX7_gapsOfSize 3 (some .int) :: ([.methodLink RX7 43 yX7_in, .static yX7_in, .initialized RX7, .code yX7_in cX7_in 3 (some .boolean), .methodLink RX7 116 yX7_layPoints, .instanceMethod yX7_layPoints, .selects RX7 yX7_layPoints yX7_layPoints, .code yX7_layPoints cX7_layPoints 4 none, .fieldLink RX7 7 "SturmianWordsModel" "now" "[I", .fieldLink RX7 28 "SturmianWordsModel" "points" "[Z", .methodLink RX7 119 yX7_gapsWith, .instanceMethod yX7_gapsWith, .selects RX7 yX7_gapsWith yX7_gapsWith, .code yX7_gapsWith cX7_gapsWith 5 (some .int)] ++ wsX70)
def wsX7_historySize : List Cond := .code yX7_historySize cX7_historySize 1 (some .int) :: ([.fieldLink RX7 32 "SturmianWordsModel" "edits" "I"] ++ wsX70)
def wsJ9_max_7cf53 : List Cond := .code yJ9_max_7cf53 cJ9_max_7cf53 2 (some .int) :: ([])
def wsJ9_min_7cf53 : List Cond := .code yJ9_min_7cf53 cJ9_min_7cf53 2 (some .int) :: ([])
abbrev vwCl : List vw_C := [(RX0, TX0, 2), (RX1, TX1, 3), (RX3, TX3, 3), (RX4, TX4, 2), (RX5, TX5, 2), (RX6, TX6, 3), (RX7, TX7, 11)]
end
section
/-! rows on bits, shifts and unsigned numbers, to paste: each family out of a closed proof of our own, whole with what it rests on; each by itself clean at Lean in its own claim (generation 39, form 5). Take a family whole -/
/-! ===== Int32 by its bits: bt x i ===== -/
def bt (x : Int32) (i : Nat) : Bool := x.toBitVec.getLsbD i
theorem b_ext {x y : Int32} (h : ∀ i, i < 32 → bt x i = bt y i) : x = y := Int32.toBitVec_inj.mp (BitVec.eq_of_getLsbD_eq (fun i hi => h i hi))
theorem b_or (x y : Int32) (i : Nat) : bt (x ||| y) i = (bt x i || bt y i) := by unfold bt; rw [Int32.toBitVec_or, BitVec.getLsbD_or]
theorem b_and (x y : Int32) (i : Nat) : bt (x &&& y) i = (bt x i && bt y i) := by unfold bt; rw [Int32.toBitVec_and, BitVec.getLsbD_and]
theorem b_xor (x y : Int32) (i : Nat) : bt (x ^^^ y) i = (bt x i ^^ bt y i) := by unfold bt; rw [Int32.toBitVec_xor, BitVec.getLsbD_xor]
theorem b_big {x : Int32} {i : Nat} (h : 32 ≤ i) : bt x i = false := BitVec.getLsbD_of_ge _ _ h
theorem b_255 (i : Nat) : bt 255 i = decide (i < 8) := by
  rcases Nat.lt_or_ge i 32 with h | h
  · exact (by decide +kernel : ∀ i, i < 32 → bt 255 i = decide (i < 8)) i h
  · rw [b_big h, decide_eq_false (by omega)]
theorem b_65535 (i : Nat) : bt 65535 i = decide (i < 16) := by
  rcases Nat.lt_or_ge i 32 with h | h
  · exact (by decide +kernel : ∀ i, i < 32 → bt 65535 i = decide (i < 16)) i h
  · rw [b_big h, decide_eq_false (by omega)]
theorem b_m1 : ∀ i, i < 32 → bt (-1) i = true := by decide +kernel
theorem b_0 (i : Nat) : bt 0 i = false := BitVec.getLsbD_zero
theorem s_l : ∀ n, n < 32 → ((nI n &&& 31).toBitVec.smod 32).toNat = n := by decide +kernel
theorem s_u : ∀ n, n < 32 → (((nI n).toUInt32 &&& Int32.toUInt32 31).toBitVec % 32).toNat = n := by decide +kernel
theorem b_shl (n : Nat) (hn : n < 32) (x : Int32) {i : Nat} (hi : i < 32) : bt (x <<< (nI n &&& 31)) i = (decide (n ≤ i) && bt x (i - n)) := by
  unfold bt
  rw [Int32.toBitVec_shiftLeft]
  show (x.toBitVec <<< ((nI n &&& 31).toBitVec.smod 32).toNat).getLsbD i = _
  rw [s_l n hn, BitVec.getLsbD_shiftLeft]
  rcases Nat.lt_or_ge i n with h | h
  · simp [h, Nat.not_le.mpr h]
  · simp [hi, h, Nat.not_lt.mpr h]
theorem b_ushr (n : Nat) (hn : n < 32) (x : Int32) (i : Nat) : bt ((x.toUInt32 >>> ((nI n).toUInt32 &&& Int32.toUInt32 31)).toInt32) i = bt x (n + i) := by
  show (x.toUInt32 >>> ((nI n).toUInt32 &&& Int32.toUInt32 31)).toBitVec.getLsbD i = x.toUInt32.toBitVec.getLsbD (n + i)
  rw [UInt32.toBitVec_shiftRight]
  show (x.toUInt32.toBitVec >>> (((nI n).toUInt32 &&& Int32.toUInt32 31).toBitVec % 32).toNat).getLsbD i = _
  rw [s_u n hn, BitVec.getLsbD_ushiftRight]
theorem b_sshr (n : Nat) (hn : n < 32) (x : Int32) {i : Nat} (hi : i < 32) : bt (x >>> (nI n &&& 31)) i = if n + i < 32 then bt x (n + i) else bt x 31 := by
  unfold bt
  rw [Int32.toBitVec_shiftRight]
  show (x.toBitVec.sshiftRight ((nI n &&& 31).toBitVec.smod 32).toNat).getLsbD i = _
  rw [s_l n hn, BitVec.getLsbD_sshiftRight, BitVec.msb_eq_getLsbD_last]
  simp [hi]
theorem b_shl8 (x : Int32) {i : Nat} (hi : i < 32) : bt (x <<< ((8 : Int32) &&& 31)) i = (decide (8 ≤ i) && bt x (i - 8)) := b_shl 8 (by omega) x hi
theorem b_shl16 (x : Int32) {i : Nat} (hi : i < 32) : bt (x <<< ((16 : Int32) &&& 31)) i = (decide (16 ≤ i) && bt x (i - 16)) := b_shl 16 (by omega) x hi
theorem b_shl24 (x : Int32) {i : Nat} (hi : i < 32) : bt (x <<< ((24 : Int32) &&& 31)) i = (decide (24 ≤ i) && bt x (i - 24)) := b_shl 24 (by omega) x hi
theorem b_sshr8 (x : Int32) {i : Nat} (hi : i < 32) : bt (x >>> ((8 : Int32) &&& 31)) i = if 8 + i < 32 then bt x (8 + i) else bt x 31 := b_sshr 8 (by omega) x hi
/-! ===== nI under and, xor, >>>, one bit, 65535 ===== -/
theorem nx_and (a b : Nat) : nI a &&& nI b = nI (a &&& b) := by
  apply Int32.toBitVec_inj.1
  show BitVec.ofNat 32 a &&& BitVec.ofNat 32 b = BitVec.ofNat 32 (a &&& b)
  apply BitVec.eq_of_getLsbD_eq
  intro i hi
  simp [hi]
theorem nx_xor (a b : Nat) : nI a ^^^ nI b = nI (a ^^^ b) := by
  apply Int32.toBitVec_inj.1
  show BitVec.ofNat 32 a ^^^ BitVec.ofNat 32 b = BitVec.ofNat 32 (a ^^^ b)
  apply BitVec.eq_of_getLsbD_eq
  intro i hi
  simp [hi]
theorem nx_cnt : ∀ j : Fin 32, (UInt32.ofNat j.val &&& Int32.toUInt32 31).toNat % 32 = j.val := by decide +kernel
theorem nx_ush {k j : Nat} (hk : k < 65536) (hj : j < 32) : ((nI k).toUInt32 >>> ((nI j).toUInt32 &&& Int32.toUInt32 31)).toInt32 = nI (k >>> j) := by
  have hs : k >>> j ≤ k := by
    rw [Nat.shiftRight_eq_div_pow]
    exact Nat.div_le_self _ _
  have e2 : UInt32.ofNat k >>> (UInt32.ofNat j &&& Int32.toUInt32 31) = UInt32.ofNat (k >>> j) := by
    apply UInt32.toNat_inj.1
    have h1 : (UInt32.ofNat k).toNat = k := Nat.mod_eq_of_lt (by omega)
    have h2 : (UInt32.ofNat (k >>> j)).toNat = k >>> j := Nat.mod_eq_of_lt (by omega)
    rw [UInt32.toNat_shiftRight, nx_cnt ⟨j, hj⟩, h1, h2]
  show (UInt32.ofNat k >>> (UInt32.ofNat j &&& Int32.toUInt32 31)).toInt32 = _
  rw [e2]
  rfl
theorem nx_bit {k j : Nat} (hk : k < 65536) (hj : j < 16) : (((nI k).toUInt32 >>> ((nI j).toUInt32 &&& Int32.toUInt32 31)).toInt32 &&& 1) = 0 ↔ k.testBit j = false := by
  rw [nx_ush hk (by omega)]
  show nI (k >>> j) &&& nI 1 = 0 ↔ _
  rw [nx_and, Nat.and_one_is_mod, ← nI_0, nI_eq (by omega) (by omega), Nat.testBit_eq_decide_div_mod_eq, Nat.shiftRight_eq_div_pow, decide_eq_false_iff_not]
  generalize k / 2 ^ j = z
  omega
theorem nx_mod (k : Nat) : nI k &&& 65535 = nI (k % 65536) := by
  show nI k &&& nI 65535 = _
  rw [nx_and, show (65535 : Nat) = 2 ^ 16 - 1 from rfl, Nat.and_two_pow_sub_one_eq_mod]
theorem nx_m16 {k : Nat} (h : k < 65536) : nI k &&& 65535 = nI k := by rw [nx_mod, Nat.mod_eq_of_lt h]
theorem nx_mask (x : Int32) : ∃ k, k < 65536 ∧ x &&& 65535 = nI k := by
  have e : x = nI x.toBitVec.toNat := by
    apply Int32.toBitVec_inj.1
    show x.toBitVec = BitVec.ofNat 32 x.toBitVec.toNat
    simp
  refine ⟨x.toBitVec.toNat % 65536, Nat.mod_lt _ (by omega), ?_⟩
  rw [← nx_mod, ← e]
/-! ===== Int32 as a set of bits: test, set ===== -/
def nf_M (m : Int32) : Nat := 4294967296 - m.toBitVec.toNat
theorem nf_sh : ∀ l, l < 32 → ((1 : Int32) <<< (nI l &&& 31)).toBitVec = BitVec.twoPow 32 l := by decide +kernel
theorem nf_sl : ∀ l, l < 32 → (((nI l).toUInt32 &&& Int32.toUInt32 31).toBitVec % 32).toNat = l := by decide +kernel
theorem nf_tp : ∀ l, l < 32 → BitVec.twoPow 32 l ≠ 0#32 := by decide +kernel
theorem nf_bit (m : Int32) (l : Nat) (hl : l < 32) : ((m.toUInt32 >>> ((nI l).toUInt32 &&& Int32.toUInt32 31)).toInt32 &&& 1) = 0 ↔ (m &&& ((1 : Int32) <<< (nI l &&& 31))) = 0 := by
  have e : ((m.toUInt32 >>> ((nI l).toUInt32 &&& Int32.toUInt32 31)).toInt32).toBitVec = m.toBitVec >>> l := by
    show m.toBitVec >>> (((nI l).toUInt32 &&& Int32.toUInt32 31).toBitVec % 32) = m.toBitVec >>> l
    rw [BitVec.ushiftRight_eq', nf_sl l hl]
  rw [← Int32.toBitVec_inj, ← Int32.toBitVec_inj, Int32.toBitVec_and, Int32.toBitVec_and, nf_sh l hl, e, BitVec.and_twoPow]
  show (m.toBitVec >>> l &&& 1#32) = 0#32 ↔ _ = 0#32
  rw [BitVec.and_one_eq_setWidth_ofBool_getLsbD, BitVec.getLsbD_ushiftRight, Nat.add_zero]
  cases hb : m.toBitVec.getLsbD l
  · exact ⟨fun _ => by simp, fun _ => by decide⟩
  · exact ⟨fun z => absurd z (by decide), fun z => absurd ((if_pos rfl).symm.trans z) (nf_tp l hl)⟩
theorem nf_gr (m k : Int32) (h : m &&& k = 0) (hk : k ≠ 0) : nf_M (m ||| k) < nf_M m := by
  have hm := m.toBitVec.isLt
  have hm' := (m ||| k).toBitVec.isLt
  have h1 : m.toBitVec.toNat ≤ (m ||| k).toBitVec.toNat := by
    rw [Int32.toBitVec_or, BitVec.toNat_or]
    exact Nat.left_le_or
  have h2 : m.toBitVec.toNat ≠ (m ||| k).toBitVec.toNat := by
    intro e
    have e2 : m = m ||| k := Int32.toBitVec_inj.mp (BitVec.eq_of_toNat_eq e)
    apply hk
    apply Int32.toBitVec_inj.mp
    show k.toBitVec = 0#32
    apply BitVec.eq_of_getLsbD_eq
    intro i hi
    have a : m.toBitVec.getLsbD i = (m.toBitVec.getLsbD i || k.toBitVec.getLsbD i) := by rw [← BitVec.getLsbD_or, ← Int32.toBitVec_or, ← e2]
    have b : (m.toBitVec.getLsbD i && k.toBitVec.getLsbD i) = false := by
      rw [← BitVec.getLsbD_and, ← Int32.toBitVec_and, h]
      exact BitVec.getLsbD_zero
    rw [BitVec.getLsbD_zero]
    revert a b
    cases m.toBitVec.getLsbD i <;> cases k.toBitVec.getLsbD i <;> simp
  unfold nf_M
  omega
/-! ===== a byte read unsigned ===== -/
theorem bp_b (x : Int32) : x.toInt8.toInt32 &&& 255 = x &&& 255 := by
  apply Int32.toBitVec_inj.mp
  rw [Int32.toBitVec_and, Int32.toBitVec_and, Int8.toBitVec_toInt32, Int32.toBitVec_toInt8]
  apply BitVec.eq_of_getLsbD_eq
  intro i hi
  rw [BitVec.getLsbD_and, BitVec.getLsbD_and]
  have hm : ∀ i < 32, 8 ≤ i → (255 : Int32).toBitVec.getLsbD i = false := by decide
  rcases Nat.lt_or_ge i 8 with z | z
  · rw [BitVec.getLsbD_signExtend, BitVec.getLsbD_signExtend, if_pos z, if_pos hi]
    simp only [z, hi, decide_true, Bool.true_and]
  · rw [hm i hi z]; simp
/-! ===== the char cast and 65535 ===== -/
/-! ===== Int64 as a set of bits: test, set, clear ===== -/
theorem ts_nf {x : Bool} (h : ¬ x = false) : x = true := by cases x <;> first | rfl | exact absurd rfl h
theorem ts_nt {x : Bool} (h : ¬ x = true) : x = false := by cases x <;> first | rfl | exact absurd rfl h
theorem ts_bit {w : Int64} {s : UInt64} {j : Nat} (hj : j < 64) (hs : s.toNat = j) : ((w.toUInt64 >>> s).toInt64 &&& 1) = 0 ↔ w.toBitVec.getLsbD j = false := by
  have e : (w.toUInt64 >>> s).toInt64.toBitVec = w.toBitVec >>> j := by
    apply BitVec.eq_of_toNat_eq
    show (w.toUInt64 >>> s).toNat = _
    rw [UInt64.toNat_shiftRight, hs, Nat.mod_eq_of_lt hj, BitVec.toNat_ushiftRight]
    rfl
  rw [← Int64.toBitVec_inj, Int64.toBitVec_and, e]
  show w.toBitVec >>> j &&& 1#64 = 0#64 ↔ _
  constructor
  · intro h
    have t := congrArg (fun x => x.getLsbD 0) h
    simpa using t
  · intro h
    apply BitVec.eq_of_getLsbD_eq
    intro i hi
    cases i with
    | zero => simp [h]
    | succ i => simp
theorem ts_or {w m : Int64} {j : Nat} (hj : j < 64) (hm : m.toBitVec = BitVec.twoPow 64 j) : (w ||| m) = w ↔ w.toBitVec.getLsbD j = true := by
  rw [← Int64.toBitVec_inj, Int64.toBitVec_or, hm]
  constructor
  · intro h
    have t := congrArg (fun x => x.getLsbD j) h
    simp only [BitVec.getLsbD_or, BitVec.getLsbD_twoPow] at t
    simpa [hj] using t.symm
  · intro h
    apply BitVec.eq_of_getLsbD_eq
    intro i hi
    rw [BitVec.getLsbD_or, BitVec.getLsbD_twoPow]
    by_cases e : j = i
    · subst e; rw [h, Bool.true_or]
    · simp [e]
theorem ts_and {w m : Int64} {j : Nat} (hj : j < 64) (hm : m.toBitVec = BitVec.twoPow 64 j) : (w &&& (m ^^^ (-1))) = w ↔ w.toBitVec.getLsbD j = false := by
  have ha : (-1 : Int64).toBitVec = BitVec.allOnes 64 := by decide
  rw [← Int64.toBitVec_inj, Int64.toBitVec_and, Int64.toBitVec_xor, hm, ha]
  constructor
  · intro h
    have t := congrArg (fun x => x.getLsbD j) h
    simp only [BitVec.getLsbD_and, BitVec.getLsbD_xor, BitVec.getLsbD_twoPow, BitVec.getLsbD_allOnes] at t
    simpa [hj] using t.symm
  · intro h
    apply BitVec.eq_of_getLsbD_eq
    intro i hi
    rw [BitVec.getLsbD_and, BitVec.getLsbD_xor, BitVec.getLsbD_twoPow, BitVec.getLsbD_allOnes]
    by_cases e : j = i
    · subst e; rw [h, Bool.false_and]
    · simp [e, hi]
/-! ===== lN n to 2^64: shifts, and, or, masks, one bit ===== -/
theorem wb_tb (n : Nat) : (lN n).toBitVec = BitVec.ofNat 64 n := rfl
theorem wb_inj {a b : Int64} (h : a.toBitVec = b.toBitVec) : a = b := Int64.toBitVec_inj.mp h
theorem wb_tn {n : Nat} (h : n < 2 ^ 64) : (lN n).toBitVec.toNat = n := by rw [wb_tb, BitVec.toNat_ofNat, Nat.mod_eq_of_lt h]
theorem wb_of (x : Int64) : ∃ n, n < 2 ^ 64 ∧ x = lN n := ⟨x.toBitVec.toNat, x.toBitVec.isLt, wb_inj (by rw [wb_tb]; simp)⟩
theorem wb_of32 (x : Int32) : ∃ n, n < 2 ^ 32 ∧ x = nI n := ⟨x.toBitVec.toNat, x.toBitVec.isLt, Int32.toBitVec_inj.mp (by show _ = BitVec.ofNat 32 _; simp)⟩
theorem wb_c : ∀ k, k < 64 → ((nI k).toInt64 &&& 63) = lN k := by decide +kernel
theorem wb_cu : ∀ k, k < 64 → ((nI k).toInt64.toUInt64 &&& Int64.toUInt64 63) = UInt64.ofNat k := by decide +kernel
theorem wb_sm : ∀ k, k < 64 → (BitVec.ofNat 64 k).smod 64 = BitVec.ofNat 64 k := by decide +kernel
theorem wb_pw {a b : Nat} (h : a ≤ b) : 2 ^ b = 2 ^ a * 2 ^ (b - a) := by rw [← Nat.pow_add]; congr 1; omega
theorem wb_lt2 {a b : Nat} (h : a < b) : 2 ^ a < 2 ^ b := Nat.pow_lt_pow_right (by decide) h
theorem wb_mod (n : Nat) : lN n = lN (n % 2 ^ 64) := wb_inj (by rw [wb_tb, wb_tb]; apply BitVec.eq_of_toNat_eq; rw [BitVec.toNat_ofNat, BitVec.toNat_ofNat, Nat.mod_mod])
theorem wb_shr {n k : Nat} (hn : n < 2 ^ 64) (hk : k < 64) : ((lN n).toUInt64 >>> ((nI k).toInt64.toUInt64 &&& Int64.toUInt64 63)).toInt64 = lN (n / 2 ^ k) := by
  rw [wb_cu k hk]
  apply wb_inj
  apply BitVec.eq_of_toNat_eq
  show ((lN n).toUInt64 >>> UInt64.ofNat k).toNat = (BitVec.ofNat 64 _).toNat
  have h1 : (UInt64.ofNat k).toNat = k := by
    show (BitVec.ofNat 64 k).toNat = k
    rw [BitVec.toNat_ofNat, Nat.mod_eq_of_lt (by omega)]
  have h2 : (lN n).toUInt64.toNat = n := wb_tn hn
  rw [UInt64.toNat_shiftRight, h1, h2, Nat.mod_eq_of_lt hk, Nat.shiftRight_eq_div_pow, BitVec.toNat_ofNat, Nat.mod_eq_of_lt (Nat.lt_of_le_of_lt (Nat.div_le_self _ _) hn)]
theorem wb_shl (n : Nat) {k : Nat} (hk : k < 64) : lN n <<< ((nI k).toInt64 &&& 63) = lN (n * 2 ^ k) := by
  rw [wb_c k hk]
  apply wb_inj
  rw [Int64.toBitVec_shiftLeft, wb_tb, wb_tb, wb_tb, wb_sm k hk]
  apply BitVec.eq_of_toNat_eq
  rw [BitVec.shiftLeft_eq', BitVec.toNat_shiftLeft, BitVec.toNat_ofNat, BitVec.toNat_ofNat, BitVec.toNat_ofNat, Nat.mod_eq_of_lt (show k < 2 ^ 64 by omega), Nat.shiftLeft_eq, Nat.mul_mod, Nat.mod_mod, ← Nat.mul_mod]
theorem wb_and {a b : Nat} (ha : a < 2 ^ 64) (hb : b < 2 ^ 64) : lN a &&& lN b = lN (a &&& b) := by
  apply wb_inj
  rw [Int64.toBitVec_and, wb_tb, wb_tb, wb_tb]
  apply BitVec.eq_of_toNat_eq
  rw [BitVec.toNat_and, BitVec.toNat_ofNat, BitVec.toNat_ofNat, BitVec.toNat_ofNat, Nat.mod_eq_of_lt ha, Nat.mod_eq_of_lt hb, Nat.mod_eq_of_lt (Nat.and_lt_two_pow _ hb)]
theorem wb_or {a b : Nat} (ha : a < 2 ^ 64) (hb : b < 2 ^ 64) : lN a ||| lN b = lN (a ||| b) := by
  apply wb_inj
  rw [Int64.toBitVec_or, wb_tb, wb_tb, wb_tb]
  apply BitVec.eq_of_toNat_eq
  rw [BitVec.toNat_or, BitVec.toNat_ofNat, BitVec.toNat_ofNat, BitVec.toNat_ofNat, Nat.mod_eq_of_lt ha, Nat.mod_eq_of_lt hb, Nat.mod_eq_of_lt (Nat.or_lt_two_pow ha hb)]
theorem wb_mask {n k : Nat} (hn : n < 2 ^ 64) (hk : k < 64) : lN n &&& lN (2 ^ k - 1) = lN (n % 2 ^ k) := by
  rw [wb_and hn (by have := wb_lt2 hk; omega), Nat.and_two_pow_sub_one_eq_mod]
theorem wb_a1 {n : Nat} (hn : n < 2 ^ 64) : lN n &&& 1 = lN (n % 2) := wb_mask (k := 1) hn (by decide)
theorem wb_bit {n k : Nat} (hn : n < 2 ^ 64) (hk : k < 64) : ((lN n).toUInt64 >>> ((nI k).toInt64.toUInt64 &&& Int64.toUInt64 63)).toInt64 &&& 1 = lN (n / 2 ^ k % 2) := by
  rw [wb_shr hn hk, wb_a1 (Nat.lt_of_le_of_lt (Nat.div_le_self _ _) hn)]
theorem wb_xor {q k : Nat} (hk : k < 63) (h : 2 ^ k ≤ q) (h2 : q < 2 ^ (k + 1)) : lN q ^^^ lN (2 ^ k) = lN (q - 2 ^ k) := by
  obtain ⟨r, rfl⟩ : ∃ r, q = 2 ^ k + r := ⟨q - 2 ^ k, by omega⟩
  have hr : r < 2 ^ k := by rw [Nat.pow_succ] at h2; omega
  have hx : (2 ^ k + r) ^^^ 2 ^ k = r := by
    apply Nat.eq_of_testBit_eq
    intro i
    rw [Nat.testBit_xor, Nat.testBit_two_pow]
    rcases Nat.lt_trichotomy i k with h | h | h
    · rw [Nat.testBit_two_pow_add_gt h]
      simp [show ¬ k = i by omega]
    · subst h
      rw [Nat.testBit_two_pow_add_eq]
      simp
    · have a1 : 2 ^ (k + 1) ≤ 2 ^ i := Nat.pow_le_pow_right (by decide) h
      rw [Nat.testBit_lt_two_pow (show 2 ^ k + r < 2 ^ i by omega), Nat.testBit_lt_two_pow (show r < 2 ^ i by omega)]
      simp [show ¬ k = i by omega]
  have b1 := wb_lt2 (show k + 1 < 64 by omega)
  have b2 := wb_lt2 (show k < 64 by omega)
  apply wb_inj
  rw [Int64.toBitVec_xor, wb_tb, wb_tb, wb_tb]
  apply BitVec.eq_of_toNat_eq
  rw [BitVec.toNat_xor, BitVec.toNat_ofNat, BitVec.toNat_ofNat, BitVec.toNat_ofNat, Nat.mod_eq_of_lt (by omega : 2 ^ k + r < 2 ^ 64), Nat.mod_eq_of_lt b2, hx, Nat.add_sub_cancel_left, Nat.mod_eq_of_lt (by omega)]
/-! ===== lN: masks, 'or' of parts that don't overlap is a sum ===== -/
theorem u_tn {n : Nat} (h : n < 2 ^ 64) : (UInt64.ofNat n).toNat = n := Nat.mod_eq_of_lt h
theorem g_and {a b c : Nat} (ha : a < 2 ^ 64) (hb : b < 2 ^ 64) (hc : a &&& b = c) : lN a &&& lN b = lN c := by
  subst hc
  have h : UInt64.ofNat a &&& UInt64.ofNat b = UInt64.ofNat (a &&& b) := UInt64.toNat_inj.mp (by rw [UInt64.toNat_and, u_tn ha, u_tn hb, u_tn (Nat.and_lt_two_pow a hb)])
  have h2 := congrArg UInt64.toInt64 h
  exact h2
theorem g_and1 {a : Nat} (ha : a < 2 ^ 64) : lN a &&& 1 = lN (a % 2) := g_and (b := 1) ha (by decide) (Nat.and_two_pow_sub_one_eq_mod a 1)
theorem g_mask {a s p : Nat} (hp : 2 ^ s = p) (hs : s < 64) (ha : a < 2 ^ 64) : lN a &&& lN (p - 1) = lN (a % p) := by
  subst hp
  have := Nat.pow_lt_pow_right (show 1 < 2 by decide) hs
  exact g_and ha (by omega) (Nat.and_two_pow_sub_one_eq_mod a s)
theorem g_or {k p a b : Nat} (hp : 2 ^ k = p) (ha : a < p) (h : b * p + a < 2 ^ 64) : lN (b * p) ||| lN a = lN (b * p + a) := by
  subst hp
  have h1 : b * 2 ^ k ||| a = b * 2 ^ k + a := by rw [← Nat.shiftLeft_eq, Nat.shiftLeft_add_eq_or_of_lt ha]
  have h3 : UInt64.ofNat (b * 2 ^ k) ||| UInt64.ofNat a = UInt64.ofNat (b * 2 ^ k + a) := UInt64.toNat_inj.mp (by rw [UInt64.toNat_or, u_tn (by omega), u_tn (by omega), u_tn h, h1])
  have h2 := congrArg UInt64.toInt64 h3
  exact h2
theorem g_or' {k p a b : Nat} (hp : 2 ^ k = p) (ha : a < p) (h : a + b * p < 2 ^ 64) : lN a ||| lN (b * p) = lN (a + b * p) := by
  rw [Int64.or_comm, g_or hp ha (by omega), Nat.add_comm]
theorem g_ushr {a k p : Nat} {y : UInt64} (hy : y = UInt64.ofNat k) (hk : k < 64) (hp : 2 ^ k = p) (ha : a < 2 ^ 64) : ((lN a).toUInt64 >>> y).toInt64 = lN (a / p) := by
  subst hy hp
  have h : UInt64.ofNat a >>> UInt64.ofNat k = UInt64.ofNat (a / 2 ^ k) := UInt64.toNat_inj.mp (by rw [UInt64.toNat_shiftRight, u_tn ha, u_tn (by omega), u_tn (Nat.lt_of_le_of_lt (Nat.div_le_self _ _) ha), Nat.mod_eq_of_lt hk, Nat.shiftRight_eq_div_pow])
  have h2 := congrArg UInt64.toInt64 h
  exact h2
theorem g_shl {a k p : Nat} {y : Int64} (hy : y.toBitVec.smod 64 = BitVec.ofNat 64 k) (hk : k < 64) (hp : 2 ^ k = p) (ha : a < 2 ^ 64) : lN a <<< y = lN (a * p) := by
  subst hp
  apply Int64.toBitVec_inj.mp
  rw [Int64.toBitVec_shiftLeft, hy]
  apply BitVec.eq_of_toNat_eq
  have hb : (lN a).toBitVec.toNat = a := Nat.mod_eq_of_lt ha
  have hk' : (BitVec.ofNat 64 k).toNat = k := Nat.mod_eq_of_lt (by omega)
  have h : ((lN a).toBitVec <<< BitVec.ofNat 64 k).toNat = (a * 2 ^ k) % 2 ^ 64 := by simp only [BitVec.shiftLeft_eq', BitVec.toNat_shiftLeft, hb, hk', Nat.shiftLeft_eq]
  exact h
/-! ===== lN to 2^62 under >> and >>> ===== -/
theorem pf_lI {a : Nat} (h : a < 2 ^ 63) : (lN a).toInt = (a : Int) := lg_ofNat_toInt h
theorem pf_shr {a d : Nat} {D : Int64} (hD : (D.toBitVec.smod 64).toNat = d) (h : a < 2 ^ 62) : lN a >>> D = lN (a / 2 ^ d) := by
  have hd : a / 2 ^ d ≤ a := Nat.div_le_self _ _
  apply Int64.toInt_inj.mp
  have e : (lN a >>> D).toInt = (lN a).toInt >>> d := by
    rw [← hD]
    exact BitVec.toInt_sshiftRight ..
  rw [e, Int.shiftRight_eq_div_pow, pf_lI (by omega), pf_lI (by omega)]
  rfl
theorem pf_ushr {a d : Nat} {D : UInt64} (hD : D.toNat % 64 = d) (h : a < 2 ^ 62) : ((lN a).toUInt64 >>> D).toInt64 = lN (a / 2 ^ d) := by
  have hd : a / 2 ^ d ≤ a := Nat.div_le_self _ _
  have e : (lN a).toUInt64 >>> D = UInt64.ofNat (a / 2 ^ d) := UInt64.toNat_inj.mp (by
    rw [UInt64.toNat_shiftRight, hD, Nat.shiftRight_eq_div_pow, UInt64.toNat_ofNat']
    show (UInt64.ofNat a).toNat / 2 ^ d = _
    rw [UInt64.toNat_ofNat', Nat.mod_eq_of_lt (by omega), Nat.mod_eq_of_lt (by omega)])
  rw [e]
  rfl
theorem pf_andw (x : Int64) : ∃ m, m < 2 ^ 32 ∧ x &&& 4294967295 = lN m := ⟨x.toBitVec.toNat % 2 ^ 32, Nat.mod_lt _ (by decide), Int64.toBitVec_inj.mp (BitVec.eq_of_toNat_eq (by
  show (x.toBitVec &&& 4294967295#64).toNat = (BitVec.ofNat 64 (x.toBitVec.toNat % 2 ^ 32)).toNat
  rw [BitVec.toNat_and, show (4294967295#64).toNat = 2 ^ 32 - 1 from by decide, Nat.and_two_pow_sub_one_eq_mod, BitVec.toNat_ofNat]
  omega))⟩
/-! ===== Int64 as an unsigned number: uN x ===== -/
def uN (x : Int64) : Nat := x.toUInt64.toNat
theorem uN_lt (x : Int64) : uN x < 18446744073709551616 := x.toUInt64.toNat_lt
theorem uN_inj {x y : Int64} (h : uN x = uN y) : x = y := congrArg UInt64.toInt64 (UInt64.toNat_inj.mp h)
theorem uN_add (x y : Int64) : uN (x + y) = (uN x + uN y) % 18446744073709551616 := by
  show (x.toUInt64 + y.toUInt64).toNat = _
  exact UInt64.toNat_add _ _
theorem uN_mul (x y : Int64) : uN (x * y) = (uN x * uN y) % 18446744073709551616 := by
  show (x.toUInt64 * y.toUInt64).toNat = _
  exact UInt64.toNat_mul _ _
theorem uN_shl (x : Int64) : uN (x <<< ((1 : Int32).toInt64 &&& 63)) = (2 * uN x) % 18446744073709551616 := by
  have h : (((1 : Int32).toInt64 &&& 63).toBitVec.smod 64).toNat = 1 := by decide
  show (x.toBitVec <<< (((1 : Int32).toInt64 &&& 63).toBitVec.smod 64).toNat).toNat = _
  rw [h, BitVec.toNat_shiftLeft, Nat.shiftLeft_eq, Nat.mul_comm]
  rfl
theorem uN_shr (x : Int64) (s : UInt64) : uN (x.toUInt64 >>> s).toInt64 = uN x / 2 ^ (s.toNat % 64) := by
  show (x.toUInt64 >>> s).toNat = _
  rw [UInt64.toNat_shiftRight, Nat.shiftRight_eq_div_pow]
  rfl
theorem uN_s32 (x : Int64) : uN (x.toUInt64 >>> ((32 : Int32).toInt64.toUInt64 &&& Int64.toUInt64 63)).toInt64 = uN x / 4294967296 := by
  have h : ((32 : Int32).toInt64.toUInt64 &&& Int64.toUInt64 63).toNat % 64 = 32 := by decide
  rw [uN_shr, h]
theorem uN_s63 (x : Int64) : uN (x.toUInt64 >>> ((63 : Int32).toInt64.toUInt64 &&& Int64.toUInt64 63)).toInt64 = uN x / 9223372036854775808 := by
  have h : ((63 : Int32).toInt64.toUInt64 &&& Int64.toUInt64 63).toNat % 64 = 63 := by decide
  rw [uN_shr, h]
theorem uN_lo (x : Int64) : uN (x &&& 4294967295) = uN x % 4294967296 := by
  show (x.toUInt64 &&& Int64.toUInt64 4294967295).toNat = _
  rw [UInt64.toNat_and]
  exact Nat.and_two_pow_sub_one_eq_mod _ 32
theorem uN_bit (x : Int64) : (x &&& 1) = 0 ↔ uN x % 2 = 0 := by
  have h : uN (x &&& 1) = uN x % 2 := by
    show (x.toUInt64 &&& Int64.toUInt64 1).toNat = _
    rw [UInt64.toNat_and]
    exact Nat.and_two_pow_sub_one_eq_mod _ 1
  rw [← h]
  exact ⟨fun z => by rw [z]; rfl, fun z => uN_inj (z.trans rfl)⟩
theorem uN_or {x y : Int64} (hy : uN y < 2) : uN ((x <<< ((1 : Int32).toInt64 &&& 63)) ||| y) = (2 * uN x) % 18446744073709551616 + uN y := by
  have h1 : uN ((x <<< ((1 : Int32).toInt64 &&& 63)) ||| y) = uN (x <<< ((1 : Int32).toInt64 &&& 63)) ||| uN y := UInt64.toNat_or _ _
  have h2 : (2 * uN x) % 18446744073709551616 = 2 ^ 1 * (uN x % 9223372036854775808) := by omega
  rw [h1, uN_shl, h2]
  exact (Nat.two_pow_add_eq_or_of_lt (i := 1) hy _).symm
theorem nat_xor {a : Nat} (h : a < 18446744073709551616) : a ^^^ 2 ^ 63 = (a + 9223372036854775808) % 18446744073709551616 := by
  have h1 : (a ^^^ 2 ^ 63) % 2 ^ 63 = a % 2 ^ 63 := by rw [Nat.xor_mod_two_pow, Nat.mod_self, Nat.xor_zero]
  have h2 : (a ^^^ 2 ^ 63) / 2 ^ 63 = (a / 2 ^ 63) ^^^ 1 := by rw [Nat.xor_div_two_pow, Nat.div_self (Nat.two_pow_pos 63)]
  have h3 : a / 2 ^ 63 = 0 ∨ a / 2 ^ 63 = 1 := by omega
  generalize a ^^^ 2 ^ 63 = t at h1 h2
  rcases h3 with h3 | h3
  · rw [h3] at h2
    have h2 : t / 2 ^ 63 = 1 := h2
    omega
  · rw [h3] at h2
    have h2 : t / 2 ^ 63 = 0 := h2
    omega
theorem uN_xor (x : Int64) : uN (x ^^^ (-9223372036854775808)) = (uN x + 9223372036854775808) % 18446744073709551616 := by
  rw [← nat_xor (uN_lt x)]
  exact UInt64.toNat_xor _ _
theorem uN_int (x : Int64) : x.toInt = if 2 * uN x < 18446744073709551616 then (uN x : Int) else (uN x : Int) - 18446744073709551616 := BitVec.toInt_eq_toNat_cond _
theorem uN_le (x y : Int64) : (x ^^^ (-9223372036854775808)) ≤ (y ^^^ (-9223372036854775808)) ↔ uN x ≤ uN y := by
  have hx := uN_lt x
  have hy := uN_lt y
  rw [Int64.le_iff_toInt_le, uN_int, uN_int, uN_xor, uN_xor]
  omega
theorem uN_sk (x : Int64) {k : Nat} (hk : k < 64) : uN (x.toUInt64 >>> ((nI k).toInt64.toUInt64 &&& Int64.toUInt64 63)).toInt64 = uN x / 2 ^ k := by
  have h : ((nI k).toInt64.toUInt64 &&& Int64.toUInt64 63).toNat % 64 = k := by
    rw [nI_l (by omega), UInt64.toNat_and]
    have e : (lN k).toUInt64.toNat = k % 2 ^ 64 := rfl
    have e2 : (Int64.toUInt64 63).toNat = 2 ^ 6 - 1 := by decide
    rw [e, e2, Nat.and_two_pow_sub_one_eq_mod]
    omega
  rw [uN_shr, h]
/-! ===== unsigned comparison by xor with the least ===== -/
theorem lN_bv (n : Nat) : (lN n).toBitVec = BitVec.ofNat 64 n := rfl
theorem lN_nat {n : Nat} (h : n < 2 ^ 64) : (lN n).toBitVec.toNat = n := by rw [lN_bv, BitVec.toNat_ofNat]; exact Nat.mod_eq_of_lt h
theorem lN_xor (a b : Nat) : lN a ^^^ lN b = lN (a ^^^ b) := by
  apply Int64.toBitVec_inj.mp; rw [Int64.toBitVec_xor, lN_bv, lN_bv, lN_bv]; apply BitVec.eq_of_getLsbD_eq; intro i hi; simp [BitVec.getLsbD_ofNat, Nat.testBit_xor, hi]
theorem lN_ti {m : Nat} (h : m < 2 ^ 64) : (lN m).toInt = if m < 2 ^ 63 then (m : Int) else (m : Int) - 2 ^ 64 := by
  have c := BitVec.toInt_eq_toNat_cond (lN m).toBitVec
  rw [lN_nat h] at c
  show (lN m).toBitVec.toInt = _
  rw [c]
  split <;> split <;> omega
theorem xor63 {x : Nat} (h : x < 2 ^ 63) : x ^^^ 2 ^ 63 = 2 ^ 63 + x := by
  apply Nat.eq_of_testBit_eq
  intro i
  rw [Nat.testBit_xor, Nat.testBit_two_pow]
  rcases Nat.lt_trichotomy i 63 with z | z | z
  · rw [Nat.testBit_two_pow_add_gt z, decide_eq_false (by omega)]; simp
  · subst z; rw [Nat.testBit_two_pow_add_eq]; simp
  · have hp : 2 ^ 64 ≤ 2 ^ i := Nat.pow_le_pow_right (by decide) z
    rw [Nat.testBit_lt_two_pow (show x < 2 ^ i by omega), Nat.testBit_lt_two_pow (show 2 ^ 63 + x < 2 ^ i by omega), decide_eq_false (by omega)]; rfl
theorem xorS {a : Nat} (h : a < 2 ^ 64) : (lN a ^^^ (-9223372036854775808)).toInt = (a : Int) - 2 ^ 63 := by
  rw [show (-9223372036854775808 : Int64) = lN (2 ^ 63) from by decide +kernel, lN_xor]
  rcases Nat.lt_or_ge a (2 ^ 63) with z | z
  · rw [xor63 z, lN_ti (by omega), if_neg (by omega)]; omega
  · obtain ⟨x, rfl⟩ : ∃ x, a = 2 ^ 63 + x := ⟨a - 2 ^ 63, by omega⟩
    rw [← xor63 (by omega), Nat.xor_assoc, Nat.xor_self, Nat.xor_zero, lN_ti (by omega), if_pos (by omega), xor63 (by omega)]; omega
theorem ultL {a b : Nat} (ha : a < 2 ^ 64) (hb : b < 2 ^ 64) : ((lN b ^^^ (-9223372036854775808)) ≤ (lN a ^^^ (-9223372036854775808))) ↔ b ≤ a := by
  rw [Int64.le_iff_toInt_le, xorS ha, xorS hb]; omega
/-! ===== Int64 masks of n low bits ===== -/
theorem cr_bits (W U M : BitVec 64) : ((W &&& U) &&& (U &&& (M ^^^ BitVec.allOnes 64))) = 0#64 ↔ (W &&& U) &&& M = W &&& U := by
  constructor
  · intro h
    apply BitVec.eq_of_getLsbD_eq
    intro i hi
    have e := congrArg (fun x => BitVec.getLsbD x i) h
    simp only [BitVec.getLsbD_and, BitVec.getLsbD_xor, BitVec.getLsbD_allOnes, BitVec.getLsbD_zero, hi, decide_true] at e ⊢
    revert e
    cases W.getLsbD i <;> cases U.getLsbD i <;> cases M.getLsbD i <;> decide
  · intro h
    apply BitVec.eq_of_getLsbD_eq
    intro i hi
    have e := congrArg (fun x => BitVec.getLsbD x i) h
    simp only [BitVec.getLsbD_and, BitVec.getLsbD_xor, BitVec.getLsbD_allOnes, BitVec.getLsbD_zero, hi, decide_true] at e ⊢
    revert e
    cases W.getLsbD i <;> cases U.getLsbD i <;> cases M.getLsbD i <;> decide
theorem cr_mask (w U m : Int64) (n : Nat) (hm : m.toBitVec.toNat = 2 ^ n - 1) : ((w &&& U) &&& (U &&& (m ^^^ (-1)))) = 0 ↔ (w &&& U).toBitVec.toNat < 2 ^ n := by
  have e0 : (-1 : Int64).toBitVec = BitVec.allOnes 64 := by decide
  have z0 : (0 : Int64).toBitVec = 0#64 := by decide
  rw [← Int64.toBitVec_inj, z0, Int64.toBitVec_and, Int64.toBitVec_and, Int64.toBitVec_and, Int64.toBitVec_xor, e0, cr_bits]
  generalize w.toBitVec &&& U.toBitVec = T
  rw [← BitVec.toNat_inj, BitVec.toNat_and, hm, Nat.and_two_pow_sub_one_eq_mod]
  constructor
  · intro h
    have t := Nat.mod_lt T.toNat (Nat.two_pow_pos n)
    rw [h] at t
    exact t
  · exact Nat.mod_eq_of_lt
theorem cr_shr (t : Int64) (x : UInt64) (n : Nat) (hx : x.toNat % 64 = n) : (t.toUInt64 >>> x).toInt64 = 0 ↔ t.toBitVec.toNat < 2 ^ n := by
  rw [← Int64.toBitVec_inj, ← BitVec.toNat_inj]
  show (t.toUInt64 >>> x).toNat = 0 ↔ t.toUInt64.toNat < 2 ^ n
  rw [UInt64.toNat_shiftRight, hx, Nat.shiftRight_eq_div_pow]
  constructor
  · intro h
    have d : t.toUInt64.toNat / 2 ^ n < 1 := by
      rw [h]
      decide
    have e := (Nat.div_lt_iff_lt_mul (Nat.two_pow_pos n)).mp d
    rw [Nat.one_mul] at e
    exact e
  · exact Nat.div_eq_of_lt
theorem cr_amt (s : Int64) : ∃ n, n < 64 ∧ s &&& 63 = lN n ∧ (s.toUInt64 &&& Int64.toUInt64 63).toNat % 64 = n := by
  have e : (s.toUInt64 &&& Int64.toUInt64 63).toNat = s.toUInt64.toNat % 2 ^ 6 := by
    rw [UInt64.toNat_and, show (Int64.toUInt64 63).toNat = 2 ^ 6 - 1 from by decide, Nat.and_two_pow_sub_one_eq_mod]
  refine ⟨s.toUInt64.toNat % 2 ^ 6, by omega, ?_, by omega⟩
  rw [← Int64.toBitVec_inj, ← BitVec.toNat_inj]
  show (s.toUInt64 &&& Int64.toUInt64 63).toNat = (BitVec.ofNat 64 (s.toUInt64.toNat % 2 ^ 6)).toNat
  rw [e, BitVec.toNat_ofNat]
  omega
end
section
/-! plain facts to paste, each family by itself; over the kit's nI, lN and upd -/
/-! ===== drawers: more things than places ===== -/
theorem fb_holes : ∀ (m n : Nat) (f : Nat → Nat), (∀ i, i < n → f i < m) → (∀ i j, i < j → j < n → f i ≠ f j) → n ≤ m := by
  intro m
  induction m with
  | zero =>
    intro n f h1 _
    rcases Nat.eq_zero_or_pos n with h | h
    · omega
    · exact absurd (h1 0 h) (Nat.not_lt_zero _)
  | succ m ih =>
    intro n f h1 h2
    by_cases hx : ∃ i, i < n ∧ f i = m
    · obtain ⟨a, ha, hfa⟩ := hx
      have hg := ih (n - 1) (fun i => if i < a then f i else f (i + 1)) (by
        intro i hi
        by_cases q : i < a
        · simp only [if_pos q]
          have b1 := h1 i (by omega)
          have b2 := h2 i a q ha
          omega
        · simp only [if_neg q]
          have b1 := h1 (i + 1) (by omega)
          have b2 := h2 a (i + 1) (by omega) (by omega)
          omega) (by
        intro i j hij hj
        by_cases q : i < a
        · by_cases r : j < a
          · simp only [if_pos q, if_pos r]
            exact h2 i j hij (by omega)
          · simp only [if_pos q, if_neg r]
            exact h2 i (j + 1) (by omega) (by omega)
        · have r : ¬ j < a := by omega
          simp only [if_neg q, if_neg r]
          exact h2 (i + 1) (j + 1) (by omega) (by omega))
      omega
    · have hg := ih n f (fun i hi => by
        have b1 := h1 i hi
        have b2 : f i ≠ m := fun e => hx ⟨i, hi, e⟩
        omega) h2
      omega
/-- two of them in one place -/
theorem fb_twice {m n : Nat} {f : Nat → Nat} (h : ∀ i, i < n → f i < m) (hm : m < n) : ∃ i j, i < j ∧ j < n ∧ f i = f j := by
  refine Classical.byContradiction fun hx => ?_
  have := fb_holes m n f h (fun i j hij hj e => hx ⟨i, j, hij, hj, e⟩)
  omega
/-- as many as places, none twice: each place is taken -/
theorem fb_onto {n : Nat} {f : Nat → Nat} (h : ∀ i, i < n → f i < n) (h2 : ∀ i j, i < j → j < n → f i ≠ f j) {y : Nat} (hy : y < n) : ∃ i, i < n ∧ f i = y := by
  refine Classical.byContradiction fun hx => ?_
  have hne : ∀ i, i < n → f i ≠ y := fun i hi e => hx ⟨i, hi, e⟩
  have := fb_holes (n - 1) n (fun i => if f i < y then f i else f i - 1) (by
    intro i hi
    have b1 := h i hi
    have b2 := hne i hi
    by_cases q : f i < y
    · simp only [if_pos q]; omega
    · simp only [if_neg q]; omega) (by
    intro i j hij hj
    have b1 := hne i (by omega)
    have b2 := hne j hj
    have b3 := h2 i j hij hj
    by_cases q : f i < y
    · by_cases r : f j < y
      · simp only [if_pos q, if_pos r]; exact b3
      · simp only [if_pos q, if_neg r]; omega
    · by_cases r : f j < y
      · simp only [if_neg q, if_pos r]; omega
      · simp only [if_neg q, if_neg r]; omega)
  omega
/-! ===== how many places have a property ===== -/
def fb_ct (p : Nat → Bool) : Nat → Nat
  | 0 => 0
  | n + 1 => fb_ct p n + (if p n then 1 else 0)
theorem fb_ct_succ (p : Nat → Bool) (n : Nat) : fb_ct p (n + 1) = fb_ct p n + (if p n then 1 else 0) := rfl
theorem fb_ct_le (p : Nat → Bool) : ∀ n, fb_ct p n ≤ n
  | 0 => Nat.le_refl _
  | n + 1 => by
    have h := fb_ct_le p n
    rw [fb_ct_succ]
    split <;> omega
theorem fb_ct_step (p : Nat → Bool) (m : Nat) : ∀ n, fb_ct p m ≤ fb_ct p (m + n)
  | 0 => Nat.le_refl _
  | n + 1 => by
    have h := fb_ct_step p m n
    show fb_ct p m ≤ fb_ct p (m + n + 1)
    rw [fb_ct_succ]
    omega
theorem fb_ct_mono (p : Nat → Bool) {m n : Nat} (h : m ≤ n) : fb_ct p m ≤ fb_ct p n := by
  have := fb_ct_step p m (n - m)
  rwa [Nat.add_sub_cancel' h] at this
theorem fb_ct_cong {p q : Nat → Bool} : ∀ {n : Nat}, (∀ k, k < n → p k = q k) → fb_ct p n = fb_ct q n
  | 0, _ => rfl
  | n + 1, h => by
    rw [fb_ct_succ, fb_ct_succ, fb_ct_cong (fun k hk => h k (by omega)), h n (by omega)]
/-- one place changed -/
theorem fb_ct_out (p : Nat → Bool) (b : Bool) {i n : Nat} (h : n ≤ i) : fb_ct (fun k => if k = i then b else p k) n = fb_ct p n :=
  fb_ct_cong fun k hk => if_neg (by omega)
theorem fb_ct_upd (p : Nat → Bool) (b : Bool) {i : Nat} : ∀ {n : Nat}, i < n → fb_ct (fun k => if k = i then b else p k) n + (if p i then 1 else 0) = fb_ct p n + (if b then 1 else 0)
  | 0, h => absurd h (Nat.not_lt_zero i)
  | n + 1, h => by
    rw [fb_ct_succ, fb_ct_succ]
    rcases Nat.lt_or_ge i n with q | q
    · have := fb_ct_upd p b q
      have e : (if n = i then b else p n) = p n := if_neg (by omega)
      rw [e]
      omega
    · have e : i = n := by omega
      subst e
      rw [fb_ct_out p b (Nat.le_refl _)]
      simp only [if_true]
      omega
theorem fb_ct_sub {p q : Nat → Bool} : ∀ {n : Nat}, (∀ k, k < n → p k = true → q k = true) → fb_ct p n ≤ fb_ct q n
  | 0, _ => Nat.le_refl _
  | n + 1, h => by
    have h1 := fb_ct_sub (n := n) (p := p) (q := q) (fun k hk => h k (by omega))
    have h2 := h n (by omega)
    rw [fb_ct_succ, fb_ct_succ]
    cases hp : p n <;> cases hq : q n <;> simp_all <;> omega
theorem fb_ct_or {p q : Nat → Bool} : ∀ {n : Nat}, (∀ k, k < n → ¬ (p k = true ∧ q k = true)) → fb_ct (fun k => p k || q k) n = fb_ct p n + fb_ct q n
  | 0, _ => rfl
  | n + 1, h => by
    have h1 := fb_ct_or (n := n) (p := p) (q := q) (fun k hk => h k (by omega))
    have h2 := h n (by omega)
    rw [fb_ct_succ, fb_ct_succ, fb_ct_succ, h1]
    cases hp : p n <;> cases hq : q n <;> simp_all <;> omega
theorem fb_ct_not (p : Nat → Bool) : ∀ n, fb_ct p n + fb_ct (fun k => !p k) n = n
  | 0 => rfl
  | n + 1 => by
    have h := fb_ct_not p n
    rw [fb_ct_succ, fb_ct_succ]
    cases p n <;> simp <;> omega
theorem fb_ct_split (p : Nat → Bool) (m : Nat) : ∀ n, fb_ct p (m + n) = fb_ct p m + fb_ct (fun k => p (m + k)) n
  | 0 => rfl
  | n + 1 => by
    have h := fb_ct_split p m n
    show fb_ct p (m + n + 1) = _
    rw [fb_ct_succ, fb_ct_succ, h, Nat.add_assoc]
theorem fb_ct_zero {p : Nat → Bool} : ∀ {n : Nat}, fb_ct p n = 0 ↔ ∀ k, k < n → p k = false
  | 0 => ⟨fun _ k hk => absurd hk (Nat.not_lt_zero k), fun _ => rfl⟩
  | n + 1 => by
    have h := fb_ct_zero (p := p) (n := n)
    rw [fb_ct_succ]
    constructor
    · intro e k hk
      have e1 : fb_ct p n = 0 := by omega
      rcases Nat.lt_or_ge k n with q | q
      · exact h.mp e1 k q
      · have ek : k = n := by omega
        subst ek
        cases hp : p k
        · rfl
        · simp [hp] at e
    · intro a
      rw [h.mpr (fun k hk => a k (by omega)), a n (by omega)]
      rfl
theorem fb_ct_pos {p : Nat → Bool} {n : Nat} : 0 < fb_ct p n ↔ ∃ k, k < n ∧ p k = true := by
  constructor
  · intro h
    refine Classical.byContradiction fun hx => ?_
    have := fb_ct_zero.mpr (fun k hk => by
      cases hp : p k
      · rfl
      · exact absurd ⟨k, hk, hp⟩ hx : ∀ k, k < n → p k = false)
    omega
  · rintro ⟨k, hk, hp⟩
    rcases Nat.eq_zero_or_pos (fb_ct p n) with e | e
    · have := fb_ct_zero.mp e k hk
      rw [this] at hp
      cases hp
    · exact e
theorem fb_ct_all {p : Nat → Bool} {n : Nat} : fb_ct p n = n ↔ ∀ k, k < n → p k = true := by
  have h := fb_ct_not p n
  constructor
  · intro e k hk
    have z : fb_ct (fun k => !p k) n = 0 := by omega
    have := fb_ct_zero.mp z k hk
    cases hp : p k
    · simp [hp] at this
    · rfl
  · intro a
    have z : fb_ct (fun k => !p k) n = 0 := fb_ct_zero.mpr (fun k hk => by simp [a k hk])
    omega
/-- the k-th place with the property -/
theorem fb_ct_kth {p : Nat → Bool} {k : Nat} : ∀ {n : Nat}, k < fb_ct p n → ∃ i, i < n ∧ p i = true ∧ fb_ct p i = k
  | 0, h => absurd h (Nat.not_lt_zero k)
  | n + 1, h => by
    rcases Nat.lt_or_ge k (fb_ct p n) with q | q
    · obtain ⟨i, h1, h2⟩ := fb_ct_kth q
      exact ⟨i, by omega, h2⟩
    · rw [fb_ct_succ] at h
      cases hp : p n
      · simp [hp] at h; omega
      · simp [hp] at h
        exact ⟨n, by omega, hp, by omega⟩
theorem fb_ct_kth_one {p : Nat → Bool} {i j : Nat} (hi : p i = true) (hj : p j = true) (e : fb_ct p i = fb_ct p j) : i = j := by
  have key : ∀ a b : Nat, a < b → p a = true → fb_ct p a < fb_ct p b := by
    intro a b hab ha
    have h := fb_ct_mono p (show a + 1 ≤ b from hab)
    rw [fb_ct_succ, ha] at h
    simp at h
    omega
  rcases Nat.lt_trichotomy i j with q | q | q
  · have := key i j q hi; omega
  · exact q
  · have := key j i q hj; omega
/-! ===== sums over a range: one place changed, parts, bounds ===== -/
def fb_sm (f : Nat → Nat) : Nat → Nat
  | 0 => 0
  | n + 1 => fb_sm f n + f n
theorem fb_sm_succ (f : Nat → Nat) (n : Nat) : fb_sm f (n + 1) = fb_sm f n + f n := rfl
theorem fb_sm_cong {f g : Nat → Nat} : ∀ {n : Nat}, (∀ k, k < n → f k = g k) → fb_sm f n = fb_sm g n
  | 0, _ => rfl
  | n + 1, h => by rw [fb_sm_succ, fb_sm_succ, fb_sm_cong (fun k hk => h k (by omega)), h n (by omega)]
theorem fb_sm_out (f : Nat → Nat) (v : Nat) {i n : Nat} (h : n ≤ i) : fb_sm (fun k => if k = i then v else f k) n = fb_sm f n :=
  fb_sm_cong fun k hk => if_neg (by omega)
theorem fb_sm_upd (f : Nat → Nat) (v : Nat) {i : Nat} : ∀ {n : Nat}, i < n → fb_sm (fun k => if k = i then v else f k) n + f i = fb_sm f n + v
  | 0, h => absurd h (Nat.not_lt_zero i)
  | n + 1, h => by
    rw [fb_sm_succ, fb_sm_succ]
    rcases Nat.lt_or_ge i n with q | q
    · have := fb_sm_upd f v q
      have e : (if n = i then v else f n) = f n := if_neg (by omega)
      rw [e]
      omega
    · have e : i = n := by omega
      subst e
      rw [fb_sm_out f v (Nat.le_refl _)]
      simp only [if_true]
      omega
theorem fb_sm_add (f g : Nat → Nat) : ∀ n, fb_sm (fun k => f k + g k) n = fb_sm f n + fb_sm g n
  | 0 => rfl
  | n + 1 => by
    have h := fb_sm_add f g n
    rw [fb_sm_succ, fb_sm_succ, fb_sm_succ, h]
    omega
theorem fb_sm_le {f g : Nat → Nat} : ∀ {n : Nat}, (∀ k, k < n → f k ≤ g k) → fb_sm f n ≤ fb_sm g n
  | 0, _ => Nat.le_refl _
  | n + 1, h => by
    have h1 := fb_sm_le (n := n) (f := f) (g := g) (fun k hk => h k (by omega))
    have h2 := h n (by omega)
    rw [fb_sm_succ, fb_sm_succ]
    omega
theorem fb_sm_const (c : Nat) : ∀ n, fb_sm (fun _ => c) n = n * c
  | 0 => by rw [Nat.zero_mul]; rfl
  | n + 1 => by rw [fb_sm_succ, fb_sm_const c n, Nat.succ_mul]
theorem fb_sm_bound {f : Nat → Nat} {c n : Nat} (h : ∀ k, k < n → f k ≤ c) : fb_sm f n ≤ n * c := by
  rw [← fb_sm_const c n]
  exact fb_sm_le h
theorem fb_sm_mono (f : Nat → Nat) (m : Nat) : ∀ n, fb_sm f m ≤ fb_sm f (m + n)
  | 0 => Nat.le_refl _
  | n + 1 => by
    have h := fb_sm_mono f m n
    show fb_sm f m ≤ fb_sm f (m + n + 1)
    rw [fb_sm_succ]
    omega
theorem fb_sm_part (f : Nat → Nat) {i n : Nat} (h : i < n) : fb_sm f i + f i ≤ fb_sm f n := by
  have := fb_sm_mono f (i + 1) (n - (i + 1))
  rw [fb_sm_succ, show i + 1 + (n - (i + 1)) = n by omega] at this
  exact this
theorem fb_sm_split (f : Nat → Nat) (m : Nat) : ∀ n, fb_sm f (m + n) = fb_sm f m + fb_sm (fun k => f (m + k)) n
  | 0 => rfl
  | n + 1 => by
    have h := fb_sm_split f m n
    show fb_sm f (m + n + 1) = _
    rw [fb_sm_succ, fb_sm_succ, h, Nat.add_assoc]
theorem fb_sm_zero {f : Nat → Nat} {n : Nat} (h : fb_sm f n = 0) : ∀ k, k < n → f k = 0 := fun k hk => by
  have := fb_sm_part f hk
  omega
/-- the same over whole numbers -/
def fb_si (f : Nat → Int) : Nat → Int
  | 0 => 0
  | n + 1 => fb_si f n + f n
theorem fb_si_succ (f : Nat → Int) (n : Nat) : fb_si f (n + 1) = fb_si f n + f n := rfl
theorem fb_si_cong {f g : Nat → Int} : ∀ {n : Nat}, (∀ k, k < n → f k = g k) → fb_si f n = fb_si g n
  | 0, _ => rfl
  | n + 1, h => by rw [fb_si_succ, fb_si_succ, fb_si_cong (fun k hk => h k (by omega)), h n (by omega)]
theorem fb_si_out (f : Nat → Int) (v : Int) {i n : Nat} (h : n ≤ i) : fb_si (fun k => if k = i then v else f k) n = fb_si f n :=
  fb_si_cong fun k hk => if_neg (by omega)
theorem fb_si_upd (f : Nat → Int) (v : Int) {i : Nat} : ∀ {n : Nat}, i < n → fb_si (fun k => if k = i then v else f k) n = fb_si f n - f i + v
  | 0, h => absurd h (Nat.not_lt_zero i)
  | n + 1, h => by
    rw [fb_si_succ, fb_si_succ]
    rcases Nat.lt_or_ge i n with q | q
    · have := fb_si_upd f v q
      have e : (if n = i then v else f n) = f n := if_neg (by omega)
      rw [e]
      omega
    · have e : i = n := by omega
      subst e
      rw [fb_si_out f v (Nat.le_refl _)]
      simp only [if_true]
      omega
theorem fb_si_add (f g : Nat → Int) : ∀ n, fb_si (fun k => f k + g k) n = fb_si f n + fb_si g n
  | 0 => rfl
  | n + 1 => by
    have h := fb_si_add f g n
    rw [fb_si_succ, fb_si_succ, fb_si_succ, h]
    omega
theorem fb_si_sub (f g : Nat → Int) : ∀ n, fb_si (fun k => f k - g k) n = fb_si f n - fb_si g n
  | 0 => rfl
  | n + 1 => by
    have h := fb_si_sub f g n
    rw [fb_si_succ, fb_si_succ, fb_si_succ, h]
    omega
theorem fb_si_mul (c : Int) (f : Nat → Int) : ∀ n, fb_si (fun k => c * f k) n = c * fb_si f n
  | 0 => (Int.mul_zero c).symm
  | n + 1 => by
    have h := fb_si_mul c f n
    rw [fb_si_succ, fb_si_succ, h, Int.mul_add]
theorem fb_si_split (f : Nat → Int) (m : Nat) : ∀ n, fb_si f (m + n) = fb_si f m + fb_si (fun k => f (m + k)) n
  | 0 => (Int.add_zero _).symm
  | n + 1 => by
    have h := fb_si_split f m n
    show fb_si f (m + n + 1) = _
    rw [fb_si_succ, fb_si_succ, h, Int.add_assoc]
theorem fb_si_nat (f : Nat → Nat) : ∀ n, fb_si (fun k => (f k : Int)) n = (fb_sm f n : Int)
  | 0 => rfl
  | n + 1 => by
    have h := fb_si_nat f n
    rw [fb_si_succ, fb_sm_succ, h]
    omega
theorem fb_si_bound {f : Nat → Int} {c : Int} (hc : 0 ≤ c) : ∀ {n : Nat}, (∀ k, k < n → -c ≤ f k ∧ f k ≤ c) → -(n * c) ≤ fb_si f n ∧ fb_si f n ≤ n * c
  | 0, _ => by simp [fb_si]
  | n + 1, h => by
    have h1 := fb_si_bound (n := n) (f := f) hc (fun k hk => h k (by omega))
    have h2 := h n (by omega)
    have e : ((n + 1 : Nat) : Int) * c = n * c + c := by rw [Int.natCast_add, Int.add_mul]; simp
    rw [fb_si_succ, e]
    omega
/-! ===== bits of a long that isn't negative ===== -/
theorem fb_andL (a b : Nat) : lN a &&& lN b = lN (a &&& b) := by
  apply Int64.toBitVec_inj.1
  show BitVec.ofNat 64 a &&& BitVec.ofNat 64 b = BitVec.ofNat 64 (a &&& b)
  apply BitVec.eq_of_getLsbD_eq
  intro i hi
  simp [hi]
theorem fb_orL (a b : Nat) : lN a ||| lN b = lN (a ||| b) := by
  apply Int64.toBitVec_inj.1
  show BitVec.ofNat 64 a ||| BitVec.ofNat 64 b = BitVec.ofNat 64 (a ||| b)
  apply BitVec.eq_of_getLsbD_eq
  intro i hi
  simp [hi]
theorem fb_xorL (a b : Nat) : lN a ^^^ lN b = lN (a ^^^ b) := by
  apply Int64.toBitVec_inj.1
  show BitVec.ofNat 64 a ^^^ BitVec.ofNat 64 b = BitVec.ofNat 64 (a ^^^ b)
  apply BitVec.eq_of_getLsbD_eq
  intro i hi
  simp [hi]
theorem fb_xorI (a b : Nat) : nI a ^^^ nI b = nI (a ^^^ b) := by
  apply Int32.toBitVec_inj.1
  show BitVec.ofNat 32 a ^^^ BitVec.ofNat 32 b = BitVec.ofNat 32 (a ^^^ b)
  apply BitVec.eq_of_getLsbD_eq
  intro i hi
  simp [hi]
theorem fb_maskL (n k : Nat) : lN n &&& lN (2 ^ k - 1) = lN (n % 2 ^ k) := by rw [fb_andL, Nat.and_two_pow_sub_one_eq_mod]
theorem fb_or_sumL {a k : Nat} (b : Nat) (h : a < 2 ^ k) : lN (2 ^ k * b) ||| lN a = lN (2 ^ k * b + a) := by rw [fb_orL, Nat.two_pow_add_eq_or_of_lt h]
theorem fb_lN_inj {a b : Nat} (ha : a < 2 ^ 63) (hb : b < 2 ^ 63) : lN a = lN b ↔ a = b := by
  constructor
  · intro h
    have h1 : (BitVec.ofNat 64 a).toNat = (BitVec.ofNat 64 b).toNat := congrArg (fun x : Int64 => x.toBitVec.toNat) h
    rw [BitVec.toNat_ofNat, BitVec.toNat_ofNat, Nat.mod_eq_of_lt (by omega), Nat.mod_eq_of_lt (by omega)] at h1
    exact h1
  · rintro rfl; rfl
theorem fb_bit_nat (n j : Nat) : n &&& 2 ^ j = 0 ↔ n.testBit j = false := by
  constructor
  · intro h
    have h1 : (n &&& 2 ^ j).testBit j = false := by rw [h]; simp
    rw [Nat.testBit_and] at h1
    simpa using h1
  · intro h
    apply Nat.eq_of_testBit_eq
    intro i
    rw [Nat.testBit_and]
    by_cases hi : j = i
    · subst hi; simp [h]
    · first | (simp [Nat.testBit_two_pow, hi]; done) | (simp [Nat.testBit_two_pow_of_ne hi]; done)
/-- one bit of a long -/
theorem fb_bitL {n j : Nat} (hj : j < 63) : lN n &&& lN (2 ^ j) = 0 ↔ n.testBit j = false := by
  have h2 : (2 : Nat) ^ j < 2 ^ 63 := Nat.pow_lt_pow_right (by decide) hj
  have hle : n &&& 2 ^ j ≤ 2 ^ j := Nat.and_le_right
  rw [fb_andL, ← fb_bit_nat, show (0 : Int64) = lN 0 from rfl]
  exact fb_lN_inj (by omega) (by decide)
/-- a bit set, a bit taken off -/
theorem fb_bit_set (n j i : Nat) : (n ||| 2 ^ j).testBit i = (n.testBit i || decide (i = j)) := by
  rw [Nat.testBit_or]
  by_cases h : j = i
  · subst h; simp
  · have h2 : ¬ i = j := fun e => h e.symm
    first | (simp [Nat.testBit_two_pow, h, h2]; done) | (simp [Nat.testBit_two_pow_of_ne h, h2]; done)
theorem fb_bit_flip (n j i : Nat) : (n ^^^ 2 ^ j).testBit i = (n.testBit i ^^ decide (i = j)) := by
  rw [Nat.testBit_xor]
  by_cases h : j = i
  · subst h; simp
  · have h2 : ¬ i = j := fun e => h e.symm
    first | (simp [Nat.testBit_two_pow, h, h2]; done) | (simp [Nat.testBit_two_pow_of_ne h, h2]; done)
/-! ===== a stretch of an array written over by a function ===== -/
def fb_put {α : Type} (f g : Nat → α) (a n : Nat) : Nat → α := fun k => if a ≤ k ∧ k < a + n then g (k - a) else f k
theorem fb_put_0 {α : Type} (f g : Nat → α) (a : Nat) : fb_put f g a 0 = f := funext fun k => if_neg (by omega)
theorem fb_put_in {α : Type} {f g : Nat → α} {a n k : Nat} (h1 : a ≤ k) (h2 : k < a + n) : fb_put f g a n k = g (k - a) := if_pos ⟨h1, h2⟩
theorem fb_put_out {α : Type} {f g : Nat → α} {a n k : Nat} (h : k < a ∨ a + n ≤ k) : fb_put f g a n k = f k := if_neg (by omega)
theorem fb_put_succ (f g : Nat → Int32) (a n : Nat) : upd (fb_put f g a n) (a + n) (g n) = fb_put f g a (n + 1) := by
  funext k
  by_cases h : k = a + n
  · subst h
    simp [upd, fb_put]
  · by_cases h1 : a ≤ k ∧ k < a + n
    · have h2 : a ≤ k ∧ k < a + (n + 1) := by omega
      simp only [upd, fb_put, if_neg h, if_pos h1, if_pos h2]
    · have h2 : ¬ (a ≤ k ∧ k < a + (n + 1)) := by omega
      simp only [upd, fb_put, if_neg h, if_neg h1, if_neg h2]
/-- .. from the far end down -/
theorem fb_put_down (f g : Nat → Int32) {a n m : Nat} (h : m < n) : upd (fb_put f (fun k => g (k + (m + 1))) (a + (m + 1)) (n - (m + 1))) (a + m) (g m) = fb_put f (fun k => g (k + m)) (a + m) (n - m) := by
  funext k
  by_cases h0 : k = a + m
  · subst h0
    simp only [upd, if_true]
    rw [fb_put_in (by omega) (by omega)]
    exact congrArg g (by omega)
  · simp only [upd, if_neg h0]
    by_cases h1 : a + (m + 1) ≤ k ∧ k < a + (m + 1) + (n - (m + 1))
    · rw [fb_put_in h1.1 h1.2, fb_put_in (by omega) (by omega)]
      exact congrArg g (by omega)
    · rw [fb_put_out (by omega), fb_put_out (by omega)]
theorem fb_put_cong {α : Type} {f f2 g g2 : Nat → α} {a n : Nat} (hf : ∀ k, (k < a ∨ a + n ≤ k) → f k = f2 k) (hg : ∀ k, k < n → g k = g2 k) : fb_put f g a n = fb_put f2 g2 a n := by
  funext k
  by_cases h : a ≤ k ∧ k < a + n
  · rw [fb_put_in h.1 h.2, fb_put_in h.1 h.2, hg _ (by omega)]
  · rw [fb_put_out (by omega), fb_put_out (by omega), hf _ (by omega)]
/-! ===== the least, the first, the best so far; that there is one alone ===== -/
theorem fb_first {p : Nat → Prop} [DecidablePred p] : ∀ {n : Nat}, (∃ i, i < n ∧ p i) → ∃ i, i < n ∧ p i ∧ ∀ j, j < i → ¬ p j
  | 0, h => by obtain ⟨i, hi, -⟩ := h; exact absurd hi (Nat.not_lt_zero i)
  | n + 1, h => by
    by_cases q : ∃ i, i < n ∧ p i
    · obtain ⟨i, h1, h2⟩ := fb_first q
      exact ⟨i, by omega, h2⟩
    · obtain ⟨i, h1, h2⟩ := h
      have e : i = n := by
        rcases Nat.lt_or_ge i n with r | r
        · exact absurd ⟨i, r, h2⟩ q
        · omega
      subst e
      exact ⟨i, by omega, h2, fun j hj hp => q ⟨j, hj, hp⟩⟩
theorem fb_first_one {p : Nat → Prop} {i j : Nat} (hi : p i) (hi2 : ∀ k, k < i → ¬ p k) (hj : p j) (hj2 : ∀ k, k < j → ¬ p k) : i = j := by
  rcases Nat.lt_trichotomy i j with q | q | q
  · exact absurd hi (hj2 i q)
  · exact q
  · exact absurd hj (hi2 j q)
theorem fb_last {p : Nat → Prop} [DecidablePred p] : ∀ {n : Nat}, (∃ i, i < n ∧ p i) → ∃ i, i < n ∧ p i ∧ ∀ j, i < j → j < n → ¬ p j
  | 0, h => by obtain ⟨i, hi, -⟩ := h; exact absurd hi (Nat.not_lt_zero i)
  | n + 1, h => by
    by_cases q : p n
    · exact ⟨n, by omega, q, fun j h1 h2 => by omega⟩
    · obtain ⟨i, h1, h2⟩ := h
      have hi : i < n := by
        rcases Nat.lt_or_ge i n with r | r
        · exact r
        · have e : i = n := by omega
          subst e
          exact absurd h2 q
      obtain ⟨i2, a1, a2, a3⟩ := fb_last (n := n) ⟨i, hi, h2⟩
      refine ⟨i2, by omega, a2, fun j b1 b2 => ?_⟩
      rcases Nat.lt_or_ge j n with r | r
      · exact a3 j b1 r
      · have e : j = n := by omega
        subst e
        exact q
/-- the first greatest -/
theorem fb_best (f : Nat → Int) : ∀ {n : Nat}, 0 < n → ∃ i, i < n ∧ (∀ j, j < n → f j ≤ f i) ∧ ∀ j, j < i → f j < f i
  | 0, h => absurd h (Nat.lt_irrefl 0)
  | 1, _ => ⟨0, by omega, fun j hj => by have e : j = 0 := by omega
                                         subst e; exact Int.le_refl _, fun j hj => absurd hj (Nat.not_lt_zero j)⟩
  | n + 2, _ => by
    obtain ⟨i, h1, h2, h3⟩ := fb_best f (n := n + 1) (by omega)
    by_cases q : f i < f (n + 1)
    · refine ⟨n + 1, by omega, fun j hj => ?_, fun j hj => ?_⟩
      · rcases Nat.lt_or_ge j (n + 1) with r | r
        · have := h2 j r; omega
        · have e : j = n + 1 := by omega
          subst e; exact Int.le_refl _
      · have := h2 j hj; omega
    · refine ⟨i, by omega, fun j hj => ?_, h3⟩
      rcases Nat.lt_or_ge j (n + 1) with r | r
      · exact h2 j r
      · have e : j = n + 1 := by omega
        subst e; omega
theorem fb_best_one {f : Nat → Int} {n i j : Nat} (hi : i < n) (hi2 : ∀ k, k < n → f k ≤ f i) (hi3 : ∀ k, k < i → f k < f i) (hj : j < n) (hj2 : ∀ k, k < n → f k ≤ f j) (hj3 : ∀ k, k < j → f k < f j) : i = j := by
  rcases Nat.lt_trichotomy i j with q | q | q
  · have a := hj3 i q
    have b := hi2 j hj
    omega
  · exact q
  · have a := hi3 j q
    have b := hj2 i hi
    omega
/-- the first least -/
theorem fb_low (f : Nat → Int) {n : Nat} (h : 0 < n) : ∃ i, i < n ∧ (∀ j, j < n → f i ≤ f j) ∧ ∀ j, j < i → f i < f j := by
  obtain ⟨i, h1, h2, h3⟩ := fb_best (fun k => -f k) h
  exact ⟨i, h1, fun j hj => by have := h2 j hj; omega, fun j hj => by have := h3 j hj; omega⟩
/-! ===== signed ints as whole numbers, within bounds ===== -/
theorem fb_rng (x : Int32) : -2147483648 ≤ x.toInt ∧ x.toInt < 2147483648 := by
  have h1 := Int32.le_toInt x
  have h2 := Int32.toInt_lt x
  omega
theorem fb_bmod {z : Int} (h1 : -2147483648 ≤ z) (h2 : z < 2147483648) : z.bmod (2 ^ 32) = z := by
  rw [Int.bmod_eq_of_le (by omega) (by omega)]
theorem fb_addI {x y : Int32} (h1 : -2147483648 ≤ x.toInt + y.toInt) (h2 : x.toInt + y.toInt < 2147483648) : (x + y).toInt = x.toInt + y.toInt := by
  rw [Int32.toInt_add, fb_bmod h1 h2]
theorem fb_subI {x y : Int32} (h1 : -2147483648 ≤ x.toInt - y.toInt) (h2 : x.toInt - y.toInt < 2147483648) : (x - y).toInt = x.toInt - y.toInt := by
  rw [Int32.toInt_sub, fb_bmod h1 h2]
theorem fb_mulI {x y : Int32} (h1 : -2147483648 ≤ x.toInt * y.toInt) (h2 : x.toInt * y.toInt < 2147483648) : (x * y).toInt = x.toInt * y.toInt := by
  rw [Int32.toInt_mul, fb_bmod h1 h2]
theorem fb_negI {x : Int32} (h : x.toInt ≠ -2147483648) : (-x).toInt = -x.toInt := by
  have := fb_rng x
  rw [Int32.toInt_neg, fb_bmod (by omega) (by omega)]
theorem fb_ofI {z : Int} (h1 : -2147483648 ≤ z) (h2 : z < 2147483648) : (Int32.ofInt z).toInt = z := by
  rw [Int32.toInt_ofInt, fb_bmod h1 h2]
theorem fb_asI (x : Int32) : Int32.ofInt x.toInt = x := Int32.ofInt_toInt x
theorem fb_rngL (x : Int64) : -9223372036854775808 ≤ x.toInt ∧ x.toInt < 9223372036854775808 := by
  have h1 := Int64.le_toInt x
  have h2 := Int64.toInt_lt x
  omega
theorem fb_bmodL {z : Int} (h1 : -9223372036854775808 ≤ z) (h2 : z < 9223372036854775808) : z.bmod (2 ^ 64) = z := by
  rw [Int.bmod_eq_of_le (by omega) (by omega)]
theorem fb_addL {x y : Int64} (h1 : -9223372036854775808 ≤ x.toInt + y.toInt) (h2 : x.toInt + y.toInt < 9223372036854775808) : (x + y).toInt = x.toInt + y.toInt := by
  rw [Int64.toInt_add, fb_bmodL h1 h2]
theorem fb_subL {x y : Int64} (h1 : -9223372036854775808 ≤ x.toInt - y.toInt) (h2 : x.toInt - y.toInt < 9223372036854775808) : (x - y).toInt = x.toInt - y.toInt := by
  rw [Int64.toInt_sub, fb_bmodL h1 h2]
theorem fb_mulL {x y : Int64} (h1 : -9223372036854775808 ≤ x.toInt * y.toInt) (h2 : x.toInt * y.toInt < 9223372036854775808) : (x * y).toInt = x.toInt * y.toInt := by
  rw [Int64.toInt_mul, fb_bmodL h1 h2]
/-! ===== cuts of what is narrow already ===== -/
theorem fb_byte {x : Int32} (h1 : -128 ≤ x.toInt) (h2 : x.toInt < 128) : x.toInt8.toInt32 = x := by
  apply Int32.toInt_inj.1
  rw [Int8.toInt_toInt32, Int32.toInt_toInt8, Int.bmod_eq_of_le (by omega) (by omega)]
theorem fb_short {x : Int32} (h1 : -32768 ≤ x.toInt) (h2 : x.toInt < 32768) : x.toInt16.toInt32 = x := by
  apply Int32.toInt_inj.1
  rw [Int16.toInt_toInt32, Int32.toInt_toInt16, Int.bmod_eq_of_le (by omega) (by omega)]
theorem fb_byte_rng (x : Int32) : -128 ≤ x.toInt8.toInt32.toInt ∧ x.toInt8.toInt32.toInt < 128 := by
  rw [Int8.toInt_toInt32]
  have h1 := Int8.le_toInt x.toInt8
  have h2 := Int8.toInt_lt x.toInt8
  omega
theorem fb_short_rng (x : Int32) : -32768 ≤ x.toInt16.toInt32.toInt ∧ x.toInt16.toInt32.toInt < 32768 := by
  rw [Int16.toInt_toInt32]
  have h1 := Int16.le_toInt x.toInt16
  have h2 := Int16.toInt_lt x.toInt16
  omega
theorem fb_byte_twice (x : Int32) : x.toInt8.toInt32.toInt8.toInt32 = x.toInt8.toInt32 := fb_byte (fb_byte_rng x).1 (fb_byte_rng x).2
theorem fb_short_twice (x : Int32) : x.toInt16.toInt32.toInt16.toInt32 = x.toInt16.toInt32 := fb_short (fb_short_rng x).1 (fb_short_rng x).2
theorem fb_char {n : Nat} (h : n < 65536) : (nI n).toUInt32.toUInt16.toUInt32.toInt32 = nI n := by
  apply Int32.toBitVec_inj.1
  apply BitVec.eq_of_toNat_eq
  have e1 : (nI n).toBitVec.toNat = n := by
    show (BitVec.ofNat 32 n).toNat = n
    rw [BitVec.toNat_ofNat, Nat.mod_eq_of_lt (by omega)]
  have e2 : ((nI n).toUInt32.toUInt16.toUInt32).toNat = n := by
    rw [UInt16.toNat_toUInt32, UInt32.toNat_toUInt16]
    show (nI n).toBitVec.toNat % 2 ^ 16 = n
    rw [e1, Nat.mod_eq_of_lt (by omega)]
  rw [e1]
  exact e2
end
section
/-! z: whole numbers for ints and longs; the rows of the kit, turned to them -/
def iZ (z : Int) : Int32 := Int32.ofInt z
def lZ (z : Int) : Int64 := Int64.ofInt z
/-- 2 to the k -/
def pw (k : Int) : Int := 2 ^ k.toNat
theorem pw_pos (k : Int) : 0 < pw k := Int.pow_pos (by decide)
theorem pw_0 : pw 0 = 1 := rfl
theorem pw_1 : pw 1 = 2 := rfl
theorem pw_s {k : Int} (h : 0 ≤ k) : pw (k + 1) = 2 * pw k := by
  have e : (k + 1).toNat = k.toNat + 1 := by omega
  unfold pw
  rw [e, Int.pow_succ, Int.mul_comm]
theorem pw_add {a b : Int} (ha : 0 ≤ a) (hb : 0 ≤ b) : pw (a + b) = pw a * pw b := by
  have e : (a + b).toNat = a.toNat + b.toNat := by omega
  unfold pw
  rw [e, Int.pow_add]
theorem pw_cast (k : Int) : pw k = ((2 ^ k.toNat : Nat) : Int) := by
  unfold pw
  rw [Int.natCast_pow]
  rfl
theorem pw_le {a b : Int} (ha : 0 ≤ a) (h : a ≤ b) : pw a ≤ pw b := by
  rw [pw_cast, pw_cast]
  have := Nat.pow_le_pow_right (n := 2) (by decide) (show a.toNat ≤ b.toNat by omega)
  omega
theorem pw_62 {a : Int} (ha : a ≤ 61) : pw a ≤ 2305843009213693952 := by
  rw [pw_cast]
  have := Nat.pow_le_pow_right (n := 2) (by decide) (show a.toNat ≤ 61 by omega)
  have e : (2 : Nat) ^ 61 = 2305843009213693952 := by decide +kernel
  omega
theorem iZ_t {z : Int} (h1 : -2147483648 ≤ z) (h2 : z < 2147483648) : (iZ z).toInt = z := by
  show (Int32.ofInt z).toInt = z
  rw [Int32.toInt_ofInt]
  exact fb_bmod h1 h2
theorem lZ_t {z : Int} (h1 : -9223372036854775808 ≤ z) (h2 : z < 9223372036854775808) : (lZ z).toInt = z := by
  show (Int64.ofInt z).toInt = z
  rw [Int64.toInt_ofInt]
  exact fb_bmodL h1 h2
theorem iZ_of (x : Int32) : ∃ z : Int, x = iZ z ∧ -2147483648 ≤ z ∧ z < 2147483648 :=
  ⟨x.toInt, (Int32.ofInt_toInt x).symm, Int32.le_toInt x, Int32.toInt_lt x⟩
theorem iZ_nI (n : Nat) : nI n = iZ (n : Int) := by
  show Int32.ofNat n = Int32.ofInt (n : Int)
  exact (Int32.ofInt_eq_ofNat).symm
theorem iZ_add (a b : Int) : iZ a + iZ b = iZ (a + b) := (Int32.ofInt_add a b).symm
theorem iZ_sub (a b : Int) : iZ a - iZ b = iZ (a - b) := (Int32.ofInt_sub a b).symm
theorem iZ_mul (a b : Int) : iZ a * iZ b = iZ (a * b) := (Int32.ofInt_mul a b).symm
theorem lZ_add (a b : Int) : lZ a + lZ b = lZ (a + b) := (Int64.ofInt_add a b).symm
theorem lZ_sub (a b : Int) : lZ a - lZ b = lZ (a - b) := (Int64.ofInt_sub a b).symm
theorem lZ_mul (a b : Int) : lZ a * lZ b = lZ (a * b) := (Int64.ofInt_mul a b).symm
theorem iZ_lt {a b : Int} (h : -2147483648 ≤ a ∧ a < 2147483648 ∧ -2147483648 ≤ b ∧ b < 2147483648) : iZ a < iZ b ↔ a < b := by
  rw [Int32.lt_iff_toInt_lt, iZ_t h.1 h.2.1, iZ_t h.2.2.1 h.2.2.2]
theorem iZ_le {a b : Int} (h : -2147483648 ≤ a ∧ a < 2147483648 ∧ -2147483648 ≤ b ∧ b < 2147483648) : iZ a ≤ iZ b ↔ a ≤ b := by
  rw [Int32.le_iff_toInt_le, iZ_t h.1 h.2.1, iZ_t h.2.2.1 h.2.2.2]
theorem iZ_eq {a b : Int} (h : -2147483648 ≤ a ∧ a < 2147483648 ∧ -2147483648 ≤ b ∧ b < 2147483648) : iZ a = iZ b ↔ a = b := by
  constructor
  · intro q
    have := congrArg Int32.toInt q
    rwa [iZ_t h.1 h.2.1, iZ_t h.2.2.1 h.2.2.2] at this
  · rintro rfl; rfl
theorem lZ_lt {a b : Int} (h : -9223372036854775808 ≤ a ∧ a < 9223372036854775808 ∧ -9223372036854775808 ≤ b ∧ b < 9223372036854775808) : lZ a < lZ b ↔ a < b := by
  rw [Int64.lt_iff_toInt_lt, lZ_t h.1 h.2.1, lZ_t h.2.2.1 h.2.2.2]
theorem lZ_eq {a b : Int} (h : -9223372036854775808 ≤ a ∧ a < 9223372036854775808 ∧ -9223372036854775808 ≤ b ∧ b < 9223372036854775808) : lZ a = lZ b ↔ a = b := by
  constructor
  · intro q
    have := congrArg Int64.toInt q
    rwa [lZ_t h.1 h.2.1, lZ_t h.2.2.1 h.2.2.2] at this
  · rintro rfl; rfl
theorem iZ_0 : (0 : Int32) = iZ 0 := by decide +kernel
theorem iZ_cl {z : Int} (h1 : 0 ≤ z) (h2 : z < 2147483648) : (iZ z).toNatClampNeg = z.toNat := by
  show (iZ z).toInt.toNat = _
  rw [iZ_t (by omega) h2]
theorem iZ_in {z : Int} {n : Nat} (h : 0 ≤ z ∧ z < 2147483648 ∧ z < n) : vp_in (iZ z) n := by
  rw [vp_in_iff, iZ_t (by omega) h.2.1]
  omega
theorem iZ_div {a b : Int} (ha : 0 ≤ a ∧ a < 2147483648) (hb : 0 < b ∧ b < 2147483648) : iZ a / iZ b = iZ (a / b) := by
  obtain ⟨n, rfl⟩ : ∃ n : Nat, a = n := ⟨a.toNat, by omega⟩
  obtain ⟨k, rfl⟩ : ∃ n : Nat, b = n := ⟨b.toNat, by omega⟩
  rw [← iZ_nI, ← iZ_nI, pk_div (by omega) (by omega) (by omega), iZ_nI]
  rfl
theorem iZ_rem {a b : Int} (ha : 0 ≤ a ∧ a < 2147483648) (hb : 0 < b ∧ b < 2147483648) : iZ a - iZ a / iZ b * iZ b = iZ (a % b) := by
  rw [iZ_div ha hb, iZ_mul, iZ_sub]
  congr 1
  rw [Int.emod_def, Int.mul_comm b]
theorem lZ_lN (n : Nat) : lN n = lZ (n : Int) := by
  show Int64.ofNat n = Int64.ofInt (n : Int)
  exact (Int64.ofInt_eq_ofNat).symm
theorem lZ_div {a b : Int} (ha : 0 ≤ a ∧ a < 9223372036854775808) (hb : 0 < b ∧ b < 9223372036854775808) : lZ a / lZ b = lZ (a / b) := by
  obtain ⟨n, rfl⟩ : ∃ n : Nat, a = n := ⟨a.toNat, by omega⟩
  obtain ⟨k, rfl⟩ : ∃ n : Nat, b = n := ⟨b.toNat, by omega⟩
  rw [← lZ_lN, ← lZ_lN, pk_lDiv (by omega) (by omega) (by omega), lZ_lN]
  rfl
theorem iZ_l {a : Int} (h : -2147483648 ≤ a ∧ a < 2147483648) : (iZ a).toInt64 = lZ a := by
  apply Int64.toInt_inj.mp
  rw [Int32.toInt_toInt64, iZ_t h.1 h.2, lZ_t (by omega) (by omega)]
theorem lZ_i (a : Int) : (lZ a).toInt32 = iZ a := by
  show (Int64.ofInt a).toInt32 = Int32.ofInt a
  exact Int64.toInt32_ofInt
theorem lZ_shr {a k : Int} (ha : 0 ≤ a ∧ a < 9223372036854775808) (hk : 0 ≤ k ∧ k < 64) : ((lZ a).toUInt64 >>> ((iZ k).toInt64.toUInt64 &&& Int64.toUInt64 63)).toInt64 = lZ (a / pw k) := by
  obtain ⟨n, rfl⟩ : ∃ n : Nat, a = n := ⟨a.toNat, by omega⟩
  obtain ⟨j, rfl⟩ : ∃ n : Nat, k = n := ⟨k.toNat, by omega⟩
  rw [← lZ_lN, ← iZ_nI, wb_shr (by omega) (by omega), lZ_lN, pw_cast]
  rfl
theorem lZ_shl {a k : Int} (ha : 0 ≤ a) (hk : 0 ≤ k ∧ k < 64) : lZ a <<< ((iZ k).toInt64 &&& 63) = lZ (a * pw k) := by
  obtain ⟨n, rfl⟩ : ∃ n : Nat, a = n := ⟨a.toNat, by omega⟩
  obtain ⟨j, rfl⟩ : ∃ n : Nat, k = n := ⟨k.toNat, by omega⟩
  rw [← lZ_lN, ← iZ_nI, wb_shl n (by omega), lZ_lN, pw_cast, Int.natCast_mul]
  rfl
theorem lZ_mask {a k : Int} (ha : 0 ≤ a ∧ a < 9223372036854775808) (hk : 0 ≤ k ∧ k < 64) : lZ a &&& lZ (pw k - 1) = lZ (a % pw k) := by
  obtain ⟨n, rfl⟩ : ∃ n : Nat, a = n := ⟨a.toNat, by omega⟩
  obtain ⟨j, rfl⟩ : ∃ n : Nat, k = n := ⟨k.toNat, by omega⟩
  have e : pw (j : Int) - 1 = ((2 ^ j - 1 : Nat) : Int) := by
    have h := Nat.pow_pos (n := j) (show 0 < 2 by decide)
    rw [pw_cast, show ((j : Int)).toNat = j from rfl]
    omega
  rw [e, ← lZ_lN, ← lZ_lN, wb_mask (by omega) (by omega), lZ_lN, pw_cast]
  rfl
theorem lZ_or {a b k : Int} (hk : 0 ≤ k ∧ k < 63) (ha : 0 ≤ a ∧ a * pw k + b < 9223372036854775808) (hb : 0 ≤ b ∧ b < pw k) : lZ (a * pw k) ||| lZ b = lZ (a * pw k + b) := by
  obtain ⟨n, rfl⟩ : ∃ n : Nat, a = n := ⟨a.toNat, by omega⟩
  obtain ⟨j, rfl⟩ : ∃ n : Nat, k = n := ⟨k.toNat, by omega⟩
  obtain ⟨z, rfl⟩ : ∃ n : Nat, b = n := ⟨b.toNat, by omega⟩
  rw [pw_cast, show ((j : Int)).toNat = j from rfl] at ha hb ⊢
  rw [← Int.natCast_mul, ← Int.natCast_add] at *
  rw [← lZ_lN, ← lZ_lN, ← lZ_lN, g_or (k := j) rfl (by omega) (by omega)]
/-- a truth as a number -/
noncomputable def bv (P : Prop) : Int := @ite _ P (Classical.propDecidable P) 1 0
theorem bv_t {P : Prop} (h : P) : bv P = 1 := by unfold bv; rw [if_pos h]
theorem bv_f {P : Prop} (h : ¬ P) : bv P = 0 := by unfold bv; rw [if_neg h]
theorem bv_r (P : Prop) : bv P = 0 ∨ bv P = 1 := by
  rcases Classical.em P with h | h
  · exact Or.inr (bv_t h)
  · exact Or.inl (bv_f h)
theorem bv_0 {P : Prop} : bv P = 0 ↔ ¬ P := by
  rcases Classical.em P with h | h
  · rw [bv_t h]; simp [h]
  · rw [bv_f h]; simp [h]
theorem bv_c {P Q : Prop} (h : P ↔ Q) : bv P = bv Q := by rw [propext h]
theorem bv_zr (P : Prop) : narrow .boolean (.int (iZ (bv P))) = .int (iZ (bv P)) := by
  rcases bv_r P with h | h <;> rw [h] <;> rfl
section ZR
variable {p : Program} {l : Launch} {e : Env} {R : Room} {s : State} {m : MethodId} {args : Array Value} {below : List Frame} {meth : Method} {c : Code} {H : Heap} {locs : List Loc} {cells slots : Nat} {Q : State → Prop}
variable {cc : ByteArray} {pc : Nat} {ls : Array Slot} {rest : List Value} {a b : Int}
theorem z_iadd (hx : p.tables.exec = Jvm.exec) (hb : c.code = cc) (d : decode cc pc = .ok (.iadd, 1)) (k : W p l e R s m args below meth c H locs cells slots Q (F0 m (pc + 1) ls (.int (iZ (a + b)) :: rest))) : W p l e R s m args below meth c H locs cells slots Q (F0 m pc ls (.int (iZ b) :: .int (iZ a) :: rest)) := lv_iadd hx hb d (by rw [iZ_add]; exact k)
theorem z_isub (hx : p.tables.exec = Jvm.exec) (hb : c.code = cc) (d : decode cc pc = .ok (.isub, 1)) (k : W p l e R s m args below meth c H locs cells slots Q (F0 m (pc + 1) ls (.int (iZ (a - b)) :: rest))) : W p l e R s m args below meth c H locs cells slots Q (F0 m pc ls (.int (iZ b) :: .int (iZ a) :: rest)) := lv_isub hx hb d (by rw [iZ_sub]; exact k)
theorem z_imul (hx : p.tables.exec = Jvm.exec) (hb : c.code = cc) (d : decode cc pc = .ok (.imul, 1)) (k : W p l e R s m args below meth c H locs cells slots Q (F0 m (pc + 1) ls (.int (iZ (a * b)) :: rest))) : W p l e R s m args below meth c H locs cells slots Q (F0 m pc ls (.int (iZ b) :: .int (iZ a) :: rest)) := lv_imul hx hb d (by rw [iZ_mul]; exact k)
theorem z_idiv (hx : p.tables.exec = Jvm.exec) (hb : c.code = cc) (d : decode cc pc = .ok (.idiv, 1)) (h : (0 ≤ a ∧ a < 2147483648) ∧ 0 < b ∧ b < 2147483648) (k : W p l e R s m args below meth c H locs cells slots Q (F0 m (pc + 1) ls (.int (iZ (a / b)) :: rest))) : W p l e R s m args below meth c H locs cells slots Q (F0 m pc ls (.int (iZ b) :: .int (iZ a) :: rest)) := lv_idiv hx hb d (by rw [iZ_0, iZ_eq (by omega)]; omega) (by rw [iZ_div h.1 h.2]; exact k)
theorem z_irem (hx : p.tables.exec = Jvm.exec) (hb : c.code = cc) (d : decode cc pc = .ok (.irem, 1)) (h : (0 ≤ a ∧ a < 2147483648) ∧ 0 < b ∧ b < 2147483648) (k : W p l e R s m args below meth c H locs cells slots Q (F0 m (pc + 1) ls (.int (iZ (a % b)) :: rest))) : W p l e R s m args below meth c H locs cells slots Q (F0 m pc ls (.int (iZ b) :: .int (iZ a) :: rest)) := lv_irem hx hb d (by rw [iZ_0, iZ_eq (by omega)]; omega) (by rw [iZ_rem h.1 h.2]; exact k)
theorem z_ladd (hx : p.tables.exec = Jvm.exec) (hb : c.code = cc) (d : decode cc pc = .ok (.ladd, 1)) (k : W p l e R s m args below meth c H locs cells slots Q (F0 m (pc + 1) ls (.long (lZ (a + b)) :: rest))) : W p l e R s m args below meth c H locs cells slots Q (F0 m pc ls (.long (lZ b) :: .long (lZ a) :: rest)) := lv_ladd hx hb d (by rw [lZ_add]; exact k)
theorem z_lsub (hx : p.tables.exec = Jvm.exec) (hb : c.code = cc) (d : decode cc pc = .ok (.lsub, 1)) (k : W p l e R s m args below meth c H locs cells slots Q (F0 m (pc + 1) ls (.long (lZ (a - b)) :: rest))) : W p l e R s m args below meth c H locs cells slots Q (F0 m pc ls (.long (lZ b) :: .long (lZ a) :: rest)) := lv_lsub hx hb d (by rw [lZ_sub]; exact k)
theorem z_lmul (hx : p.tables.exec = Jvm.exec) (hb : c.code = cc) (d : decode cc pc = .ok (.lmul, 1)) (k : W p l e R s m args below meth c H locs cells slots Q (F0 m (pc + 1) ls (.long (lZ (a * b)) :: rest))) : W p l e R s m args below meth c H locs cells slots Q (F0 m pc ls (.long (lZ b) :: .long (lZ a) :: rest)) := lv_lmul hx hb d (by rw [lZ_mul]; exact k)
theorem z_ldiv (hx : p.tables.exec = Jvm.exec) (hb : c.code = cc) (d : decode cc pc = .ok (.ldiv, 1)) (h : (0 ≤ a ∧ a < 9223372036854775808) ∧ 0 < b ∧ b < 9223372036854775808) (k : W p l e R s m args below meth c H locs cells slots Q (F0 m (pc + 1) ls (.long (lZ (a / b)) :: rest))) : W p l e R s m args below meth c H locs cells slots Q (F0 m pc ls (.long (lZ b) :: .long (lZ a) :: rest)) := lv_ldiv hx hb d (by rw [show (0 : Int64) = lZ 0 by decide +kernel, lZ_eq (by omega)]; omega) (by rw [lZ_div h.1 h.2]; exact k)
theorem z_i2l (hx : p.tables.exec = Jvm.exec) (hb : c.code = cc) (d : decode cc pc = .ok (.i2l, 1)) (h : -2147483648 ≤ a ∧ a < 2147483648) (k : W p l e R s m args below meth c H locs cells slots Q (F0 m (pc + 1) ls (.long (lZ a) :: rest))) : W p l e R s m args below meth c H locs cells slots Q (F0 m pc ls (.int (iZ a) :: rest)) := lv_i2l hx hb d (iZ_l h) k
theorem z_l2i (hx : p.tables.exec = Jvm.exec) (hb : c.code = cc) (d : decode cc pc = .ok (.l2i, 1)) (k : W p l e R s m args below meth c H locs cells slots Q (F0 m (pc + 1) ls (.int (iZ a) :: rest))) : W p l e R s m args below meth c H locs cells slots Q (F0 m pc ls (.long (lZ a) :: rest)) := lv_l2i hx hb d (lZ_i a) k
theorem z_lushr (hx : p.tables.exec = Jvm.exec) (hb : c.code = cc) (d : decode cc pc = .ok (.lushr, 1)) (h : (0 ≤ a ∧ a < 9223372036854775808) ∧ 0 ≤ b ∧ b < 64) (k : W p l e R s m args below meth c H locs cells slots Q (F0 m (pc + 1) ls (.long (lZ (a / pw b)) :: rest))) : W p l e R s m args below meth c H locs cells slots Q (F0 m pc ls (.int (iZ b) :: .long (lZ a) :: rest)) := lv_lushr hx hb d (lZ_shr h.1 h.2) k
theorem z_lshl (hx : p.tables.exec = Jvm.exec) (hb : c.code = cc) (d : decode cc pc = .ok (.lshl, 1)) (h : 0 ≤ a ∧ 0 ≤ b ∧ b < 64) (k : W p l e R s m args below meth c H locs cells slots Q (F0 m (pc + 1) ls (.long (lZ (a * pw b)) :: rest))) : W p l e R s m args below meth c H locs cells slots Q (F0 m pc ls (.int (iZ b) :: .long (lZ a) :: rest)) := lv_lshl hx hb d (lZ_shl h.1 h.2) k
theorem z_mask {k : Int} (hx : p.tables.exec = Jvm.exec) (hb : c.code = cc) (d : decode cc pc = .ok (.land, 1)) (eq : b = pw k - 1) (h : (0 ≤ a ∧ a < 9223372036854775808) ∧ 0 ≤ k ∧ k < 64) (kk : W p l e R s m args below meth c H locs cells slots Q (F0 m (pc + 1) ls (.long (lZ (a % pw k)) :: rest))) : W p l e R s m args below meth c H locs cells slots Q (F0 m pc ls (.long (lZ b) :: .long (lZ a) :: rest)) := lv_land hx hb d (by rw [eq, lZ_mask h.1 h.2]; exact kk)
theorem z_lor {k : Int} (hx : p.tables.exec = Jvm.exec) (hb : c.code = cc) (d : decode cc pc = .ok (.lor, 1)) (h : (0 ≤ k ∧ k < 63) ∧ (0 ≤ a ∧ a * pw k + b < 9223372036854775808) ∧ 0 ≤ b ∧ b < pw k) (kk : W p l e R s m args below meth c H locs cells slots Q (F0 m (pc + 1) ls (.long (lZ (a * pw k + b)) :: rest))) : W p l e R s m args below meth c H locs cells slots Q (F0 m pc ls (.long (lZ b) :: .long (lZ (a * pw k)) :: rest)) := lv_lor hx hb d (by rw [lZ_or h.1 h.2.1 h.2.2]; exact kk)
/-- the top number, written otherwise -/
theorem z_top (eq : a = b) (k : W p l e R s m args below meth c H locs cells slots Q (F0 m pc ls (.int (iZ b) :: rest))) : W p l e R s m args below meth c H locs cells slots Q (F0 m pc ls (.int (iZ a) :: rest)) := by subst eq; exact k
theorem z_topl (eq : a = b) (k : W p l e R s m args below meth c H locs cells slots Q (F0 m pc ls (.long (lZ b) :: rest))) : W p l e R s m args below meth c H locs cells slots Q (F0 m pc ls (.long (lZ a) :: rest)) := by subst eq; exact k
theorem z_tope (k : ∀ b : Int, b = a → W p l e R s m args below meth c H locs cells slots Q (F0 m pc ls (.int (iZ b) :: rest))) : W p l e R s m args below meth c H locs cells slots Q (F0 m pc ls (.int (iZ a) :: rest)) := k a rfl
theorem z_topel (k : ∀ b : Int, b = a → W p l e R s m args below meth c H locs cells slots Q (F0 m pc ls (.long (lZ b) :: rest))) : W p l e R s m args below meth c H locs cells slots Q (F0 m pc ls (.long (lZ a) :: rest)) := k a rfl
theorem z_icmp_lt (hx : p.tables.exec = Jvm.exec) (hb : c.code = cc) {off : Int} {tgt : Nat} (d : decode cc pc = .ok (.if_icmp .lt off, 3)) (ht : (pc : Int) + off = (tgt : Int)) (h : -2147483648 ≤ a ∧ a < 2147483648 ∧ -2147483648 ≤ b ∧ b < 2147483648) (kt : a < b → W p l e R s m args below meth c H locs cells slots Q (F0 m tgt ls rest)) (kf : b ≤ a → W p l e R s m args below meth c H locs cells slots Q (F0 m (pc + 3) ls rest)) : W p l e R s m args below meth c H locs cells slots Q (F0 m pc ls (.int (iZ b) :: .int (iZ a) :: rest)) := by
  refine lv_icmp_lt hx hb d ht (fun q => kt ?_) (fun q => kf ?_)
  all_goals
    skip
    skip
    have h' : -2147483648 ≤ b ∧ b < 2147483648 ∧ -2147483648 ≤ a ∧ a < 2147483648 := by omega
    first | rw [iZ_lt h] at q | rw [iZ_le h] at q | rw [iZ_eq h] at q | rw [iZ_lt h'] at q | rw [iZ_le h'] at q | rw [iZ_eq h'] at q
    omega
theorem z_if_lt (hx : p.tables.exec = Jvm.exec) (hb : c.code = cc) {off : Int} {tgt : Nat} (d : decode cc pc = .ok (.ifCond .lt off, 3)) (ht : (pc : Int) + off = (tgt : Int)) (h : -2147483648 ≤ a ∧ a < 2147483648) (kt : a < 0 → W p l e R s m args below meth c H locs cells slots Q (F0 m tgt ls rest)) (kf : 0 ≤ a → W p l e R s m args below meth c H locs cells slots Q (F0 m (pc + 3) ls rest)) : W p l e R s m args below meth c H locs cells slots Q (F0 m pc ls (.int (iZ a) :: rest)) := by
  refine lv_if_lt hx hb d ht (fun q => kt ?_) (fun q => kf ?_)
  all_goals
    rw [iZ_0] at q
    have h : -2147483648 ≤ a ∧ a < 2147483648 ∧ -2147483648 ≤ (0 : Int) ∧ (0 : Int) < 2147483648 := by omega
    have h' : -2147483648 ≤ (0 : Int) ∧ (0 : Int) < 2147483648 ∧ -2147483648 ≤ a ∧ a < 2147483648 := by omega
    first | rw [iZ_lt h] at q | rw [iZ_le h] at q | rw [iZ_eq h] at q | rw [iZ_lt h'] at q | rw [iZ_le h'] at q | rw [iZ_eq h'] at q
    omega
theorem z_icmp_ge (hx : p.tables.exec = Jvm.exec) (hb : c.code = cc) {off : Int} {tgt : Nat} (d : decode cc pc = .ok (.if_icmp .ge off, 3)) (ht : (pc : Int) + off = (tgt : Int)) (h : -2147483648 ≤ a ∧ a < 2147483648 ∧ -2147483648 ≤ b ∧ b < 2147483648) (kt : b ≤ a → W p l e R s m args below meth c H locs cells slots Q (F0 m tgt ls rest)) (kf : a < b → W p l e R s m args below meth c H locs cells slots Q (F0 m (pc + 3) ls rest)) : W p l e R s m args below meth c H locs cells slots Q (F0 m pc ls (.int (iZ b) :: .int (iZ a) :: rest)) := by
  refine lv_icmp_ge hx hb d ht (fun q => kt ?_) (fun q => kf ?_)
  all_goals
    skip
    skip
    have h' : -2147483648 ≤ b ∧ b < 2147483648 ∧ -2147483648 ≤ a ∧ a < 2147483648 := by omega
    first | rw [iZ_lt h] at q | rw [iZ_le h] at q | rw [iZ_eq h] at q | rw [iZ_lt h'] at q | rw [iZ_le h'] at q | rw [iZ_eq h'] at q
    omega
theorem z_if_ge (hx : p.tables.exec = Jvm.exec) (hb : c.code = cc) {off : Int} {tgt : Nat} (d : decode cc pc = .ok (.ifCond .ge off, 3)) (ht : (pc : Int) + off = (tgt : Int)) (h : -2147483648 ≤ a ∧ a < 2147483648) (kt : 0 ≤ a → W p l e R s m args below meth c H locs cells slots Q (F0 m tgt ls rest)) (kf : a < 0 → W p l e R s m args below meth c H locs cells slots Q (F0 m (pc + 3) ls rest)) : W p l e R s m args below meth c H locs cells slots Q (F0 m pc ls (.int (iZ a) :: rest)) := by
  refine lv_if_ge hx hb d ht (fun q => kt ?_) (fun q => kf ?_)
  all_goals
    rw [iZ_0] at q
    have h : -2147483648 ≤ a ∧ a < 2147483648 ∧ -2147483648 ≤ (0 : Int) ∧ (0 : Int) < 2147483648 := by omega
    have h' : -2147483648 ≤ (0 : Int) ∧ (0 : Int) < 2147483648 ∧ -2147483648 ≤ a ∧ a < 2147483648 := by omega
    first | rw [iZ_lt h] at q | rw [iZ_le h] at q | rw [iZ_eq h] at q | rw [iZ_lt h'] at q | rw [iZ_le h'] at q | rw [iZ_eq h'] at q
    omega
theorem z_icmp_gt (hx : p.tables.exec = Jvm.exec) (hb : c.code = cc) {off : Int} {tgt : Nat} (d : decode cc pc = .ok (.if_icmp .gt off, 3)) (ht : (pc : Int) + off = (tgt : Int)) (h : -2147483648 ≤ a ∧ a < 2147483648 ∧ -2147483648 ≤ b ∧ b < 2147483648) (kt : b < a → W p l e R s m args below meth c H locs cells slots Q (F0 m tgt ls rest)) (kf : a ≤ b → W p l e R s m args below meth c H locs cells slots Q (F0 m (pc + 3) ls rest)) : W p l e R s m args below meth c H locs cells slots Q (F0 m pc ls (.int (iZ b) :: .int (iZ a) :: rest)) := by
  refine lv_icmp_gt hx hb d ht (fun q => kt ?_) (fun q => kf ?_)
  all_goals
    skip
    skip
    have h' : -2147483648 ≤ b ∧ b < 2147483648 ∧ -2147483648 ≤ a ∧ a < 2147483648 := by omega
    first | rw [iZ_lt h] at q | rw [iZ_le h] at q | rw [iZ_eq h] at q | rw [iZ_lt h'] at q | rw [iZ_le h'] at q | rw [iZ_eq h'] at q
    omega
theorem z_if_gt (hx : p.tables.exec = Jvm.exec) (hb : c.code = cc) {off : Int} {tgt : Nat} (d : decode cc pc = .ok (.ifCond .gt off, 3)) (ht : (pc : Int) + off = (tgt : Int)) (h : -2147483648 ≤ a ∧ a < 2147483648) (kt : 0 < a → W p l e R s m args below meth c H locs cells slots Q (F0 m tgt ls rest)) (kf : a ≤ 0 → W p l e R s m args below meth c H locs cells slots Q (F0 m (pc + 3) ls rest)) : W p l e R s m args below meth c H locs cells slots Q (F0 m pc ls (.int (iZ a) :: rest)) := by
  refine lv_if_gt hx hb d ht (fun q => kt ?_) (fun q => kf ?_)
  all_goals
    rw [iZ_0] at q
    have h : -2147483648 ≤ a ∧ a < 2147483648 ∧ -2147483648 ≤ (0 : Int) ∧ (0 : Int) < 2147483648 := by omega
    have h' : -2147483648 ≤ (0 : Int) ∧ (0 : Int) < 2147483648 ∧ -2147483648 ≤ a ∧ a < 2147483648 := by omega
    first | rw [iZ_lt h] at q | rw [iZ_le h] at q | rw [iZ_eq h] at q | rw [iZ_lt h'] at q | rw [iZ_le h'] at q | rw [iZ_eq h'] at q
    omega
theorem z_icmp_le (hx : p.tables.exec = Jvm.exec) (hb : c.code = cc) {off : Int} {tgt : Nat} (d : decode cc pc = .ok (.if_icmp .le off, 3)) (ht : (pc : Int) + off = (tgt : Int)) (h : -2147483648 ≤ a ∧ a < 2147483648 ∧ -2147483648 ≤ b ∧ b < 2147483648) (kt : a ≤ b → W p l e R s m args below meth c H locs cells slots Q (F0 m tgt ls rest)) (kf : b < a → W p l e R s m args below meth c H locs cells slots Q (F0 m (pc + 3) ls rest)) : W p l e R s m args below meth c H locs cells slots Q (F0 m pc ls (.int (iZ b) :: .int (iZ a) :: rest)) := by
  refine lv_icmp_le hx hb d ht (fun q => kt ?_) (fun q => kf ?_)
  all_goals
    skip
    skip
    have h' : -2147483648 ≤ b ∧ b < 2147483648 ∧ -2147483648 ≤ a ∧ a < 2147483648 := by omega
    first | rw [iZ_lt h] at q | rw [iZ_le h] at q | rw [iZ_eq h] at q | rw [iZ_lt h'] at q | rw [iZ_le h'] at q | rw [iZ_eq h'] at q
    omega
theorem z_if_le (hx : p.tables.exec = Jvm.exec) (hb : c.code = cc) {off : Int} {tgt : Nat} (d : decode cc pc = .ok (.ifCond .le off, 3)) (ht : (pc : Int) + off = (tgt : Int)) (h : -2147483648 ≤ a ∧ a < 2147483648) (kt : a ≤ 0 → W p l e R s m args below meth c H locs cells slots Q (F0 m tgt ls rest)) (kf : 0 < a → W p l e R s m args below meth c H locs cells slots Q (F0 m (pc + 3) ls rest)) : W p l e R s m args below meth c H locs cells slots Q (F0 m pc ls (.int (iZ a) :: rest)) := by
  refine lv_if_le hx hb d ht (fun q => kt ?_) (fun q => kf ?_)
  all_goals
    rw [iZ_0] at q
    have h : -2147483648 ≤ a ∧ a < 2147483648 ∧ -2147483648 ≤ (0 : Int) ∧ (0 : Int) < 2147483648 := by omega
    have h' : -2147483648 ≤ (0 : Int) ∧ (0 : Int) < 2147483648 ∧ -2147483648 ≤ a ∧ a < 2147483648 := by omega
    first | rw [iZ_lt h] at q | rw [iZ_le h] at q | rw [iZ_eq h] at q | rw [iZ_lt h'] at q | rw [iZ_le h'] at q | rw [iZ_eq h'] at q
    omega
theorem z_icmp_eq (hx : p.tables.exec = Jvm.exec) (hb : c.code = cc) {off : Int} {tgt : Nat} (d : decode cc pc = .ok (.if_icmp .eq off, 3)) (ht : (pc : Int) + off = (tgt : Int)) (h : -2147483648 ≤ a ∧ a < 2147483648 ∧ -2147483648 ≤ b ∧ b < 2147483648) (kt : a = b → W p l e R s m args below meth c H locs cells slots Q (F0 m tgt ls rest)) (kf : ¬ a = b → W p l e R s m args below meth c H locs cells slots Q (F0 m (pc + 3) ls rest)) : W p l e R s m args below meth c H locs cells slots Q (F0 m pc ls (.int (iZ b) :: .int (iZ a) :: rest)) := by
  refine lv_icmp_eq hx hb d ht (fun q => kt ?_) (fun q => kf ?_)
  all_goals
    skip
    skip
    have h' : -2147483648 ≤ b ∧ b < 2147483648 ∧ -2147483648 ≤ a ∧ a < 2147483648 := by omega
    first | rw [iZ_lt h] at q | rw [iZ_le h] at q | rw [iZ_eq h] at q | rw [iZ_lt h'] at q | rw [iZ_le h'] at q | rw [iZ_eq h'] at q
    omega
theorem z_if_eq (hx : p.tables.exec = Jvm.exec) (hb : c.code = cc) {off : Int} {tgt : Nat} (d : decode cc pc = .ok (.ifCond .eq off, 3)) (ht : (pc : Int) + off = (tgt : Int)) (h : -2147483648 ≤ a ∧ a < 2147483648) (kt : a = 0 → W p l e R s m args below meth c H locs cells slots Q (F0 m tgt ls rest)) (kf : ¬ a = 0 → W p l e R s m args below meth c H locs cells slots Q (F0 m (pc + 3) ls rest)) : W p l e R s m args below meth c H locs cells slots Q (F0 m pc ls (.int (iZ a) :: rest)) := by
  refine lv_if_eq hx hb d ht (fun q => kt ?_) (fun q => kf ?_)
  all_goals
    rw [iZ_0] at q
    have h : -2147483648 ≤ a ∧ a < 2147483648 ∧ -2147483648 ≤ (0 : Int) ∧ (0 : Int) < 2147483648 := by omega
    have h' : -2147483648 ≤ (0 : Int) ∧ (0 : Int) < 2147483648 ∧ -2147483648 ≤ a ∧ a < 2147483648 := by omega
    first | rw [iZ_lt h] at q | rw [iZ_le h] at q | rw [iZ_eq h] at q | rw [iZ_lt h'] at q | rw [iZ_le h'] at q | rw [iZ_eq h'] at q
    omega
theorem z_icmp_ne (hx : p.tables.exec = Jvm.exec) (hb : c.code = cc) {off : Int} {tgt : Nat} (d : decode cc pc = .ok (.if_icmp .ne off, 3)) (ht : (pc : Int) + off = (tgt : Int)) (h : -2147483648 ≤ a ∧ a < 2147483648 ∧ -2147483648 ≤ b ∧ b < 2147483648) (kt : ¬ a = b → W p l e R s m args below meth c H locs cells slots Q (F0 m tgt ls rest)) (kf : a = b → W p l e R s m args below meth c H locs cells slots Q (F0 m (pc + 3) ls rest)) : W p l e R s m args below meth c H locs cells slots Q (F0 m pc ls (.int (iZ b) :: .int (iZ a) :: rest)) := by
  refine lv_icmp_ne hx hb d ht (fun q => kt ?_) (fun q => kf ?_)
  all_goals
    skip
    skip
    have h' : -2147483648 ≤ b ∧ b < 2147483648 ∧ -2147483648 ≤ a ∧ a < 2147483648 := by omega
    first | rw [iZ_lt h] at q | rw [iZ_le h] at q | rw [iZ_eq h] at q | rw [iZ_lt h'] at q | rw [iZ_le h'] at q | rw [iZ_eq h'] at q
    omega
theorem z_if_ne (hx : p.tables.exec = Jvm.exec) (hb : c.code = cc) {off : Int} {tgt : Nat} (d : decode cc pc = .ok (.ifCond .ne off, 3)) (ht : (pc : Int) + off = (tgt : Int)) (h : -2147483648 ≤ a ∧ a < 2147483648) (kt : ¬ a = 0 → W p l e R s m args below meth c H locs cells slots Q (F0 m tgt ls rest)) (kf : a = 0 → W p l e R s m args below meth c H locs cells slots Q (F0 m (pc + 3) ls rest)) : W p l e R s m args below meth c H locs cells slots Q (F0 m pc ls (.int (iZ a) :: rest)) := by
  refine lv_if_ne hx hb d ht (fun q => kt ?_) (fun q => kf ?_)
  all_goals
    rw [iZ_0] at q
    have h : -2147483648 ≤ a ∧ a < 2147483648 ∧ -2147483648 ≤ (0 : Int) ∧ (0 : Int) < 2147483648 := by omega
    have h' : -2147483648 ≤ (0 : Int) ∧ (0 : Int) < 2147483648 ∧ -2147483648 ≤ a ∧ a < 2147483648 := by omega
    first | rw [iZ_lt h] at q | rw [iZ_le h] at q | rw [iZ_eq h] at q | rw [iZ_lt h'] at q | rw [iZ_le h'] at q | rw [iZ_eq h'] at q
    omega
theorem z_ifB_eq {P : Prop} (hx : p.tables.exec = Jvm.exec) (hb : c.code = cc) {off : Int} {tgt : Nat} (d : decode cc pc = .ok (.ifCond .eq off, 3)) (ht : (pc : Int) + off = (tgt : Int)) (kt : ¬ P → W p l e R s m args below meth c H locs cells slots Q (F0 m tgt ls rest)) (kf : P → W p l e R s m args below meth c H locs cells slots Q (F0 m (pc + 3) ls rest)) : W p l e R s m args below meth c H locs cells slots Q (F0 m pc ls (.int (iZ (bv P)) :: rest)) := by
  refine z_if_eq hx hb d ht (by have := bv_r P; omega) (fun q => kt ?_) (fun q => kf ?_)
  all_goals
    rcases Classical.em P with h | h
    · have := bv_t h; first | exact h | (exfalso; omega)
    · have := bv_f h; first | exact h | (exfalso; omega)
theorem z_ifB_ne {P : Prop} (hx : p.tables.exec = Jvm.exec) (hb : c.code = cc) {off : Int} {tgt : Nat} (d : decode cc pc = .ok (.ifCond .ne off, 3)) (ht : (pc : Int) + off = (tgt : Int)) (kt : P → W p l e R s m args below meth c H locs cells slots Q (F0 m tgt ls rest)) (kf : ¬ P → W p l e R s m args below meth c H locs cells slots Q (F0 m (pc + 3) ls rest)) : W p l e R s m args below meth c H locs cells slots Q (F0 m pc ls (.int (iZ (bv P)) :: rest)) := by
  refine z_if_ne hx hb d ht (by have := bv_r P; omega) (fun q => kt ?_) (fun q => kf ?_)
  all_goals
    rcases Classical.em P with h | h
    · have := bv_t h; first | exact h | (exfalso; omega)
    · have := bv_f h; first | exact h | (exfalso; omega)
theorem z_lcmp (hx : p.tables.exec = Jvm.exec) (hb : c.code = cc) (d : decode cc pc = .ok (.lcmp, 1)) (h : -9223372036854775808 ≤ a ∧ a < 9223372036854775808 ∧ -9223372036854775808 ≤ b ∧ b < 9223372036854775808) (k : ∀ t : Int, (t = -1 ∧ a < b ∨ t = 0 ∧ a = b ∨ t = 1 ∧ b < a) → W p l e R s m args below meth c H locs cells slots Q (F0 m (pc + 1) ls (.int (iZ t) :: rest))) : W p l e R s m args below meth c H locs cells slots Q (F0 m pc ls (.long (lZ b) :: .long (lZ a) :: rest)) := by
  refine W.lcmp hx hb d ?_
  have e : lg_cmp (lZ a) (lZ b) = iZ (if b < a then 1 else if a = b then 0 else -1) := by
    unfold lg_cmp
    have h1 : lZ a > lZ b ↔ b < a := lZ_lt (by omega)
    have h2 := lZ_eq h
    by_cases q1 : b < a
    · rw [if_pos q1, if_pos (h1.mpr q1)]; rfl
    · rw [if_neg q1, if_neg (fun z => q1 (h1.mp z))]
      by_cases q2 : a = b
      · rw [if_pos q2, if_pos (h2.mpr q2)]; rfl
      · rw [if_neg q2, if_neg (fun z => q2 (h2.mp z))]; rfl
  rw [e]
  refine k _ ?_
  split
  · omega
  · split <;> omega
end ZR
/-! the contracts of this claim -/
def zNs : List Cond := [.methodLinkNest RX5 62 yX6_commonDivisor "SturmianWords", .methodLinkNest RX3 21 yX6_quotient "SturmianWords", .methodLinkNest RX6 9 yX1_init "SturmianWords", .methodLinkNest RX6 18 yX0_init "SturmianWords", .fieldLinkNest RX2 53 "SturmianWords$Word" "size" "I" "SturmianWords", .fieldLinkNest RX0 43 "SturmianWords$Slope" "numerator" "I" "SturmianWords", .fieldLinkNest RX0 29 "SturmianWords$Slope" "denominator" "I" "SturmianWords", .fieldLinkNest RX6 96 "SturmianWords$State" "word" "LSturmianWords$Word;" "SturmianWords", .fieldLinkNest RX6 93 "SturmianWords$Word" "size" "I" "SturmianWords", .fieldLinkNest RX6 65 "SturmianWords$Slope" "intercept" "I" "SturmianWords", .fieldLinkNest RX6 62 "SturmianWords$Slope" "numerator" "I" "SturmianWords", .fieldLinkNest RX6 58 "SturmianWords$Slope" "denominator" "I" "SturmianWords", .fieldLinkNest RX6 54 "SturmianWords$State" "slope" "LSturmianWords$Slope;" "SturmianWords", .fieldLinkNest RX6 127 "SturmianWords$History" "kept" "I" "SturmianWords", .fieldLinkNest RX6 100 "SturmianWords$Word" "bits" "J" "SturmianWords"]
theorem zNs_tab : ∀ w ∈ zNs, w.onTables = true := by decide +kernel
theorem zNs_warm {s U : State} (hW : s.WarmedH U.vm) (h : ∀ w ∈ zNs, va_Nw w s) : ∀ w ∈ zNs, va_Nw w U := by
  have q : ∀ (w : Cond), va_Nw w s → (∃ a i b n d h, w = .fieldLinkNest a i b n d h) ∨ (∃ a i x h, w = .methodLinkNest a i x h) → va_Nw w U := by
    rintro w hw (⟨a, i, b, n, d, h, rfl⟩ | ⟨a, i, x, h, rfl⟩)
    · exact va_Nw.warmF hW hw
    · exact va_Nw.warmM hW hw
  intro w hw
  refine q w (h w hw) ?_
  simp only [zNs, List.mem_cons, List.not_mem_nil, or_false] at hw
  rcases hw with rfl | rfl | rfl | rfl | rfl | rfl | rfl | rfl | rfl | rfl | rfl | rfl | rfl | rfl | rfl
  all_goals first | exact Or.inl ⟨_, _, _, _, _, _, rfl⟩ | exact Or.inr ⟨_, _, _, _, rfl⟩
def tyS (cy : Nat → ClassId) : List (ClassId × FieldType) := [(cy 0, .int), (cy 1, .boolean), (cy 2, .object "SturmianWords$State")]
def KK (G : va_G) (cy : Nat → ClassId) (U : State) : Prop := va_K G vwCl (tyS cy) U ∧ ∀ w ∈ zNs, va_Nw w U
theorem KK.warm {G : va_G} {cy : Nat → ClassId} {s U : State} (h : KK G cy s) (hW : s.WarmedH U.vm) : KK G cy U := ⟨va_K.moved hW.alike h.1, zNs_warm hW h.2⟩
theorem KK.same {G : va_G} {cy : Nat → ClassId} {s U : State} (h : KK G cy s) (e : s.vm = U.vm) : KK G cy U := ⟨va_K.moved (by rw [e]; exact Vm.Alike.refl _) h.1, fun w hw => va_Nw.same (zNs_tab w hw) e (h.2 w hw)⟩
/-- a contract's start: the tables, the arguments, the heap -/
def P1 (G : va_G) (cy : Nat → ClassId) (av : List Value) (B : Heap → Prop) : Array Value → State → Prop := fun v U => v = av.toArray ∧ KK G cy U ∧ B U.heap
theorem P1_blind {G : va_G} {cy : Nat → ClassId} {av : List Value} {B : Heap → Prop} : FrameBlind (P1 G cy av B) := fun _ _ _ _ h => ⟨h.1, h.2.1.same rfl, h.2.2⟩
theorem P1_mk {G : va_G} {cy : Nat → ClassId} {av : List Value} {B : Heap → Prop} {s : State} {H : Heap} (hK : KK G cy s) (hB : B H) : ∀ U : State, U.heap = H → s.WarmedH U.vm → P1 G cy av B av.toArray U := fun U hU hW => ⟨rfl, hK.warm hW, by rw [hU]; exact hB⟩
theorem z_head {l : Launch} {y : MethodName} {ws ws' : List Cond} {rm : Room} {G : va_G} {cy : Nat → ClassId} {av : List Value} {B : Heap → Prop} {Qc : Array Value → State → Outcome → State → Prop} {mc ms : Nat} {free : Addr → Prop} {cc : ByteArray} {maxL : Nat} {ret : Option FieldType} {lv : List (Nat × Value)} (C : String) (hy : plainName y.cls = true) (hyc : y.cls = C) (hw : ws = Cond.code y cc maxL ret :: ws') (hn : (lg_sl av).length ≤ maxL) (hlv : lv_args 0 av = lv)
    (body : ∀ (p : Program) (e : Env) (s : State) (m : MethodId) (below : List Frame) (meth : Method) (c : Code) (ls : Array Slot), p.tables.exec = Jvm.exec → c.code = cc → meth.sig.returnType = ret → meth.locks = false → c.maxLocals = maxL → s.vm.findClass C = some m.cls → meth.name = y.name → (∀ w ∈ ws, w.before av.toArray s = true) → KK G cy s → B s.heap → lv_has ls maxL lv → W p l e rm s m av.toArray below meth c s.heap [] 0 0 (MQ below Qc av.toArray s mc ms free) (F0 m 0 ls [])) : Met l y ws rm (P1 G cy av B) Qc mc ms free := by
  refine Met.ofW (cc := cc) (maxL := maxL) (ret := ret) hy hw ?_
  intro p e s m args below meth c s₁ Bo hml hv
  obtain ⟨rfl, hK, hB⟩ := hv
  have hts := atoms_spec (ws := ws) Bo.pre
  have hown : s.vm.findClass C = some m.cls := hyc ▸ findClass_of_methodNamed Bo.named
  rw [lg_entry_eq]
  exact body p e s m below meth c _ Bo.exec Bo.bytes Bo.returns Bo.notSynchronized hml hown (name_of_methodNamed Bo.named Bo.method).1 hts hK hB (hlv ▸ lv_entry av hn)
/-- what an effectful method does: its answer, the heap before and behind -/
def Q1 (Rr : Option Value → Heap → Heap → Prop) : Array Value → State → Outcome → State → Prop := fun _ st o t => ∃ v : Option Value, o = .returned v ∧ Rr v st.heap t.heap
section ZC
variable {p : Program} {l : Launch} {e : Env} {R : Room} {s : State} {m : MethodId} {args : Array Value} {below : List Frame} {meth : Method} {c : Code} {H : Heap} {locs : List Loc} {cells slots : Nat} {Q : State → Prop}
variable {cc : ByteArray} {pc : Nat} {ls : Array Slot} {rest st0 : List Value} {a E : Int} {arr : Array Value} {mc ms : Nat} {free : Addr → Prop}
theorem z_calli (hr : va_Run p l e R s m args below meth c H locs cells slots 0 0 (F0 m pc ls st0) rest (vp_Si (fun r => r = iZ E) arr) (fun _ => False)) (kk : W p l e R s m args below meth c H locs cells slots Q (F0 m (pc + 3) ls (.int (iZ E) :: rest))) : W p l e R s m args below meth c H locs cells slots Q (F0 m pc ls st0) := vp_callSi hr.run (fun r h => by subst h; exact kk)
theorem z_calll (hr : va_Run p l e R s m args below meth c H locs cells slots 0 0 (F0 m pc ls st0) rest (vp_Sl (fun r => r = lZ E) arr) (fun _ => False)) (kk : W p l e R s m args below meth c H locs cells slots Q (F0 m (pc + 3) ls (.long (lZ E) :: rest))) : W p l e R s m args below meth c H locs cells slots Q (F0 m pc ls st0) := vp_callSl hr.run (fun r h => by subst h; exact kk)
theorem z_iretP (hx : p.tables.exec = Jvm.exec) (hb : c.code = cc) (hr : meth.sig.returnType = some .int) (hlocks : meth.locks = false) (d : decode cc pc = .ok (.ireturn, 1)) (h : a = E) : W p l e R s m args below meth c s.heap [] 0 0 (MQ below (vp_Si (fun r => r = iZ E)) args s 0 0 (fun _ => False)) (F0 m pc ls [.int (iZ a)]) := W.iret hx hb hr (fun t ht hW => ⟨_, rfl, by rw [h], ht⟩) (fun _ h => absurd h List.not_mem_nil) d hlocks
theorem z_zretP {P : Prop} (hx : p.tables.exec = Jvm.exec) (hb : c.code = cc) (hr : meth.sig.returnType = some .boolean) (hlocks : meth.locks = false) (d : decode cc pc = .ok (.ireturn, 1)) (h : a = bv P) : W p l e R s m args below meth c s.heap [] 0 0 (MQ below (vp_Si (fun r => r = iZ (bv P))) args s 0 0 (fun _ => False)) (F0 m pc ls [.int (iZ a)]) := W.zret hx hb hr (by rw [h]; exact bv_zr P) (fun t ht hW => ⟨_, rfl, by rw [h], ht⟩) (fun _ h => absurd h List.not_mem_nil) d hlocks
theorem z_lretP (hx : p.tables.exec = Jvm.exec) (hb : c.code = cc) (hr : meth.sig.returnType = some .long) (hlocks : meth.locks = false) (d : decode cc pc = .ok (.lreturn, 1)) (h : a = E) : W p l e R s m args below meth c s.heap [] 0 0 (MQ below (vp_Sl (fun r => r = lZ E)) args s 0 0 (fun _ => False)) (F0 m pc ls [.long (lZ a)]) := W.lret hx hb hr (fun t ht hW => ⟨_, rfl, by rw [h], ht⟩) (fun _ h => absurd h List.not_mem_nil) d hlocks
theorem z_callE {Rr : Option Value → Heap → Heap → Prop} {A : Nat → Prop} (hr : va_Run p l e R s m args below meth c H locs cells slots mc ms (F0 m pc ls st0) rest (Q1 Rr arr) free) (hL : ∀ q ∈ locs, A q.base) (hf : ∀ q, free q → A q) (kk : ∀ (v : Option Value) (H1 : Heap) (locs1 : List Loc), Rr v H H1 → (∀ q ∈ locs1, A q.base) → W p l e R s m args below meth c H1 locs1 (cells + mc) (slots + ms) Q (F0 m (pc + 3) ls (v.toList ++ rest))) : W p l e R s m args below meth c H locs cells slots Q (F0 m pc ls st0) := by
  intro T hT X
  obtain ⟨v, st₀, t, T', L, h0, X', hL1, e1, e2, ⟨v', hv, hp⟩, st⟩ := hr T hT X
  cases hv
  rw [h0, ← e1] at hp
  obtain ⟨t2, a1, b1⟩ := kk v T'.heap (locs ++ L) hp (fun q hq => by
    rcases List.mem_append.mp hq with h | h
    · exact hL q h
    · exact hf _ (hL1 q h)) T' rfl X'
  exact ⟨t2, st t2 a1, b1⟩
theorem z_iretE {Rr : Option Value → Heap → Heap → Prop} (hx : p.tables.exec = Jvm.exec) (hb : c.code = cc) (hr : meth.sig.returnType = some .int) (hlocks : meth.locks = false) (d : decode cc pc = .ok (.ireturn, 1)) (hL : ∀ q ∈ locs, free q.base) (hc : cells ≤ mc ∧ slots ≤ ms) (h : Rr (some (.int (iZ a))) s.heap H) : W p l e R s m args below meth c H locs cells slots (MQ below (Q1 Rr) args s mc ms free) (F0 m pc ls [.int (iZ a)]) := W.widen hc.1 hc.2 (W.iret hx hb hr (fun t ht hW => ⟨_, rfl, by rw [ht]; exact h⟩) hL d hlocks)
theorem z_vretE {Rr : Option Value → Heap → Heap → Prop} (hx : p.tables.exec = Jvm.exec) (hb : c.code = cc) (hr : meth.sig.returnType = none) (hlocks : meth.locks = false) (d : decode cc pc = .ok (.return_, 1)) (hL : ∀ q ∈ locs, free q.base) (hc : cells ≤ mc ∧ slots ≤ ms) (h : Rr none s.heap H) : W p l e R s m args below meth c H locs cells slots (MQ below (Q1 Rr) args s mc ms free) (F0 m pc ls []) := W.widen hc.1 hc.2 (W.vret hx hb hr (fun t ht hW => ⟨_, rfl, by rw [ht]; exact h⟩) hL d hlocks)
theorem z_aretE {Rr : Option Value → Heap → Heap → Prop} {v : Value} {rt : FieldType} (hx : p.tables.exec = Jvm.exec) (hb : c.code = cc) (hr : meth.sig.returnType = some rt) (hrt : (∃ n, rt = .object n) ∨ ∃ t, rt = .array t) (hlocks : meth.locks = false) (d : decode cc pc = .ok (.areturn, 1)) (hv : v = .null ∨ ∃ a, v = .ref a) (hL : ∀ q ∈ locs, free q.base) (hc : cells ≤ mc ∧ slots ≤ ms) (h : Rr (some v) s.heap H) : W p l e R s m args below meth c H locs cells slots (MQ below (Q1 Rr) args s mc ms free) (F0 m pc ls [v]) := W.widen hc.1 hc.2 (W.aret hx hb hr hrt hv (fun t ht hW => ⟨_, rfl, by rw [ht]; exact h⟩) hL d hlocks)
theorem z_zretE {P : Prop} {Rr : Option Value → Heap → Heap → Prop} (hx : p.tables.exec = Jvm.exec) (hb : c.code = cc) (hr : meth.sig.returnType = some .boolean) (hlocks : meth.locks = false) (d : decode cc pc = .ok (.ireturn, 1)) (hL : ∀ q ∈ locs, free q.base) (hc : cells ≤ mc ∧ slots ≤ ms) (h1 : a = bv P) (h : Rr (some (.int (iZ a))) s.heap H) : W p l e R s m args below meth c H locs cells slots (MQ below (Q1 Rr) args s mc ms free) (F0 m pc ls [.int (iZ a)]) := W.widen hc.1 hc.2 (W.zret hx hb hr (by rw [h1]; exact bv_zr P) (fun t ht hW => ⟨_, rfl, by rw [ht]; exact h⟩) hL d hlocks)
theorem z_loop1 {A1 : Type} {nL : Nat} (L : A1 → List (Nat × Value)) (I : A1 → Prop) (μ : A1 → Int) {a1 : A1} (h0 : I a1) (hl : lv_has ls nL (L a1)) (hs : ∀ (a1 : A1), I a1 → (∀ (b1 : A1), I b1 → (0 ≤ μ b1 ∧ μ b1 < μ a1) → ∀ ls : Array Slot, lv_has ls nL (L b1) → W p l e R s m args below meth c H locs cells slots Q (F0 m pc ls st0)) → ∀ ls : Array Slot, lv_has ls nL (L a1) → W p l e R s m args below meth c H locs cells slots Q (F0 m pc ls st0)) : W p l e R s m args below meth c H locs cells slots Q (F0 m pc ls st0) := by
  have key : ∀ (n : Nat) (a1 : A1), I a1 → (μ a1).toNat < n → ∀ ls : Array Slot, lv_has ls nL (L a1) → W p l e R s m args below meth c H locs cells slots Q (F0 m pc ls st0) := by
    intro n
    induction n with
    | zero => intro a1 _ h; exact absurd h (Nat.not_lt_zero _)
    | succ n ih => exact fun a1 hI hm => hs a1 hI (fun b1 hJ hc => ih b1 hJ (by omega))
  exact key _ a1 h0 (Nat.lt_succ_self _) ls hl
theorem z_loopH1 {A1 : Type} {nL : Nat} {A : Nat → Prop} (L : A1 → List (Nat × Value)) (I : A1 → Heap → Prop) (μ : A1 → Int) (C D : A1 → Nat) {a1 : A1} (h0 : I a1 H) (hL : ∀ q ∈ locs, A q.base) (hl : lv_has ls nL (L a1)) (hs : ∀ (a1 : A1) (H : Heap) (locs : List Loc), I a1 H → (∀ q ∈ locs, A q.base) → (∀ (b1 : A1) (H1 : Heap) (locs1 : List Loc), I b1 H1 → (∀ q ∈ locs1, A q.base) → (0 ≤ μ b1 ∧ μ b1 < μ a1) → ∀ ls : Array Slot, lv_has ls nL (L b1) → W p l e R s m args below meth c H1 locs1 (C b1) (D b1) Q (F0 m pc ls st0)) → ∀ ls : Array Slot, lv_has ls nL (L a1) → W p l e R s m args below meth c H locs (C a1) (D a1) Q (F0 m pc ls st0)) : W p l e R s m args below meth c H locs (C a1) (D a1) Q (F0 m pc ls st0) := by
  have key : ∀ (n : Nat) (a1 : A1) (H : Heap) (locs : List Loc), I a1 H → (∀ q ∈ locs, A q.base) → (μ a1).toNat < n → ∀ ls : Array Slot, lv_has ls nL (L a1) → W p l e R s m args below meth c H locs (C a1) (D a1) Q (F0 m pc ls st0) := by
    intro n
    induction n with
    | zero => intro a1 H locs _ _ h; exact absurd h (Nat.not_lt_zero _)
    | succ n ih => exact fun a1 H locs hI hA hm => hs a1 H locs hI hA (fun b1 H1 locs1 hJ hA1 hc => ih b1 H1 locs1 hJ hA1 (by omega))
  exact key _ a1 H locs h0 hL (Nat.lt_succ_self _) ls hl
theorem z_loop2 {A1 A2 : Type} {nL : Nat} (L : A1 → A2 → List (Nat × Value)) (I : A1 → A2 → Prop) (μ : A1 → A2 → Int) {a1 : A1} {a2 : A2} (h0 : I a1 a2) (hl : lv_has ls nL (L a1 a2)) (hs : ∀ (a1 : A1) (a2 : A2), I a1 a2 → (∀ (b1 : A1) (b2 : A2), I b1 b2 → (0 ≤ μ b1 b2 ∧ μ b1 b2 < μ a1 a2) → ∀ ls : Array Slot, lv_has ls nL (L b1 b2) → W p l e R s m args below meth c H locs cells slots Q (F0 m pc ls st0)) → ∀ ls : Array Slot, lv_has ls nL (L a1 a2) → W p l e R s m args below meth c H locs cells slots Q (F0 m pc ls st0)) : W p l e R s m args below meth c H locs cells slots Q (F0 m pc ls st0) := by
  have key : ∀ (n : Nat) (a1 : A1) (a2 : A2), I a1 a2 → (μ a1 a2).toNat < n → ∀ ls : Array Slot, lv_has ls nL (L a1 a2) → W p l e R s m args below meth c H locs cells slots Q (F0 m pc ls st0) := by
    intro n
    induction n with
    | zero => intro a1 a2 _ h; exact absurd h (Nat.not_lt_zero _)
    | succ n ih => exact fun a1 a2 hI hm => hs a1 a2 hI (fun b1 b2 hJ hc => ih b1 b2 hJ (by omega))
  exact key _ a1 a2 h0 (Nat.lt_succ_self _) ls hl
theorem z_loopH2 {A1 A2 : Type} {nL : Nat} {A : Nat → Prop} (L : A1 → A2 → List (Nat × Value)) (I : A1 → A2 → Heap → Prop) (μ : A1 → A2 → Int) (C D : A1 → A2 → Nat) {a1 : A1} {a2 : A2} (h0 : I a1 a2 H) (hL : ∀ q ∈ locs, A q.base) (hl : lv_has ls nL (L a1 a2)) (hs : ∀ (a1 : A1) (a2 : A2) (H : Heap) (locs : List Loc), I a1 a2 H → (∀ q ∈ locs, A q.base) → (∀ (b1 : A1) (b2 : A2) (H1 : Heap) (locs1 : List Loc), I b1 b2 H1 → (∀ q ∈ locs1, A q.base) → (0 ≤ μ b1 b2 ∧ μ b1 b2 < μ a1 a2) → ∀ ls : Array Slot, lv_has ls nL (L b1 b2) → W p l e R s m args below meth c H1 locs1 (C b1 b2) (D b1 b2) Q (F0 m pc ls st0)) → ∀ ls : Array Slot, lv_has ls nL (L a1 a2) → W p l e R s m args below meth c H locs (C a1 a2) (D a1 a2) Q (F0 m pc ls st0)) : W p l e R s m args below meth c H locs (C a1 a2) (D a1 a2) Q (F0 m pc ls st0) := by
  have key : ∀ (n : Nat) (a1 : A1) (a2 : A2) (H : Heap) (locs : List Loc), I a1 a2 H → (∀ q ∈ locs, A q.base) → (μ a1 a2).toNat < n → ∀ ls : Array Slot, lv_has ls nL (L a1 a2) → W p l e R s m args below meth c H locs (C a1 a2) (D a1 a2) Q (F0 m pc ls st0) := by
    intro n
    induction n with
    | zero => intro a1 a2 H locs _ _ h; exact absurd h (Nat.not_lt_zero _)
    | succ n ih => exact fun a1 a2 H locs hI hA hm => hs a1 a2 H locs hI hA (fun b1 b2 H1 locs1 hJ hA1 hc => ih b1 b2 H1 locs1 hJ hA1 (by omega))
  exact key _ a1 a2 H locs h0 hL (Nat.lt_succ_self _) ls hl
theorem z_loop3 {A1 A2 A3 : Type} {nL : Nat} (L : A1 → A2 → A3 → List (Nat × Value)) (I : A1 → A2 → A3 → Prop) (μ : A1 → A2 → A3 → Int) {a1 : A1} {a2 : A2} {a3 : A3} (h0 : I a1 a2 a3) (hl : lv_has ls nL (L a1 a2 a3)) (hs : ∀ (a1 : A1) (a2 : A2) (a3 : A3), I a1 a2 a3 → (∀ (b1 : A1) (b2 : A2) (b3 : A3), I b1 b2 b3 → (0 ≤ μ b1 b2 b3 ∧ μ b1 b2 b3 < μ a1 a2 a3) → ∀ ls : Array Slot, lv_has ls nL (L b1 b2 b3) → W p l e R s m args below meth c H locs cells slots Q (F0 m pc ls st0)) → ∀ ls : Array Slot, lv_has ls nL (L a1 a2 a3) → W p l e R s m args below meth c H locs cells slots Q (F0 m pc ls st0)) : W p l e R s m args below meth c H locs cells slots Q (F0 m pc ls st0) := by
  have key : ∀ (n : Nat) (a1 : A1) (a2 : A2) (a3 : A3), I a1 a2 a3 → (μ a1 a2 a3).toNat < n → ∀ ls : Array Slot, lv_has ls nL (L a1 a2 a3) → W p l e R s m args below meth c H locs cells slots Q (F0 m pc ls st0) := by
    intro n
    induction n with
    | zero => intro a1 a2 a3 _ h; exact absurd h (Nat.not_lt_zero _)
    | succ n ih => exact fun a1 a2 a3 hI hm => hs a1 a2 a3 hI (fun b1 b2 b3 hJ hc => ih b1 b2 b3 hJ (by omega))
  exact key _ a1 a2 a3 h0 (Nat.lt_succ_self _) ls hl
theorem z_loopH3 {A1 A2 A3 : Type} {nL : Nat} {A : Nat → Prop} (L : A1 → A2 → A3 → List (Nat × Value)) (I : A1 → A2 → A3 → Heap → Prop) (μ : A1 → A2 → A3 → Int) (C D : A1 → A2 → A3 → Nat) {a1 : A1} {a2 : A2} {a3 : A3} (h0 : I a1 a2 a3 H) (hL : ∀ q ∈ locs, A q.base) (hl : lv_has ls nL (L a1 a2 a3)) (hs : ∀ (a1 : A1) (a2 : A2) (a3 : A3) (H : Heap) (locs : List Loc), I a1 a2 a3 H → (∀ q ∈ locs, A q.base) → (∀ (b1 : A1) (b2 : A2) (b3 : A3) (H1 : Heap) (locs1 : List Loc), I b1 b2 b3 H1 → (∀ q ∈ locs1, A q.base) → (0 ≤ μ b1 b2 b3 ∧ μ b1 b2 b3 < μ a1 a2 a3) → ∀ ls : Array Slot, lv_has ls nL (L b1 b2 b3) → W p l e R s m args below meth c H1 locs1 (C b1 b2 b3) (D b1 b2 b3) Q (F0 m pc ls st0)) → ∀ ls : Array Slot, lv_has ls nL (L a1 a2 a3) → W p l e R s m args below meth c H locs (C a1 a2 a3) (D a1 a2 a3) Q (F0 m pc ls st0)) : W p l e R s m args below meth c H locs (C a1 a2 a3) (D a1 a2 a3) Q (F0 m pc ls st0) := by
  have key : ∀ (n : Nat) (a1 : A1) (a2 : A2) (a3 : A3) (H : Heap) (locs : List Loc), I a1 a2 a3 H → (∀ q ∈ locs, A q.base) → (μ a1 a2 a3).toNat < n → ∀ ls : Array Slot, lv_has ls nL (L a1 a2 a3) → W p l e R s m args below meth c H locs (C a1 a2 a3) (D a1 a2 a3) Q (F0 m pc ls st0) := by
    intro n
    induction n with
    | zero => intro a1 a2 a3 H locs _ _ h; exact absurd h (Nat.not_lt_zero _)
    | succ n ih => exact fun a1 a2 a3 H locs hI hA hm => hs a1 a2 a3 H locs hI hA (fun b1 b2 b3 H1 locs1 hJ hA1 hc => ih b1 b2 b3 H1 locs1 hJ hA1 (by omega))
  exact key _ a1 a2 a3 H locs h0 hL (Nat.lt_succ_self _) ls hl
theorem z_loop4 {A1 A2 A3 A4 : Type} {nL : Nat} (L : A1 → A2 → A3 → A4 → List (Nat × Value)) (I : A1 → A2 → A3 → A4 → Prop) (μ : A1 → A2 → A3 → A4 → Int) {a1 : A1} {a2 : A2} {a3 : A3} {a4 : A4} (h0 : I a1 a2 a3 a4) (hl : lv_has ls nL (L a1 a2 a3 a4)) (hs : ∀ (a1 : A1) (a2 : A2) (a3 : A3) (a4 : A4), I a1 a2 a3 a4 → (∀ (b1 : A1) (b2 : A2) (b3 : A3) (b4 : A4), I b1 b2 b3 b4 → (0 ≤ μ b1 b2 b3 b4 ∧ μ b1 b2 b3 b4 < μ a1 a2 a3 a4) → ∀ ls : Array Slot, lv_has ls nL (L b1 b2 b3 b4) → W p l e R s m args below meth c H locs cells slots Q (F0 m pc ls st0)) → ∀ ls : Array Slot, lv_has ls nL (L a1 a2 a3 a4) → W p l e R s m args below meth c H locs cells slots Q (F0 m pc ls st0)) : W p l e R s m args below meth c H locs cells slots Q (F0 m pc ls st0) := by
  have key : ∀ (n : Nat) (a1 : A1) (a2 : A2) (a3 : A3) (a4 : A4), I a1 a2 a3 a4 → (μ a1 a2 a3 a4).toNat < n → ∀ ls : Array Slot, lv_has ls nL (L a1 a2 a3 a4) → W p l e R s m args below meth c H locs cells slots Q (F0 m pc ls st0) := by
    intro n
    induction n with
    | zero => intro a1 a2 a3 a4 _ h; exact absurd h (Nat.not_lt_zero _)
    | succ n ih => exact fun a1 a2 a3 a4 hI hm => hs a1 a2 a3 a4 hI (fun b1 b2 b3 b4 hJ hc => ih b1 b2 b3 b4 hJ (by omega))
  exact key _ a1 a2 a3 a4 h0 (Nat.lt_succ_self _) ls hl
theorem z_loopH4 {A1 A2 A3 A4 : Type} {nL : Nat} {A : Nat → Prop} (L : A1 → A2 → A3 → A4 → List (Nat × Value)) (I : A1 → A2 → A3 → A4 → Heap → Prop) (μ : A1 → A2 → A3 → A4 → Int) (C D : A1 → A2 → A3 → A4 → Nat) {a1 : A1} {a2 : A2} {a3 : A3} {a4 : A4} (h0 : I a1 a2 a3 a4 H) (hL : ∀ q ∈ locs, A q.base) (hl : lv_has ls nL (L a1 a2 a3 a4)) (hs : ∀ (a1 : A1) (a2 : A2) (a3 : A3) (a4 : A4) (H : Heap) (locs : List Loc), I a1 a2 a3 a4 H → (∀ q ∈ locs, A q.base) → (∀ (b1 : A1) (b2 : A2) (b3 : A3) (b4 : A4) (H1 : Heap) (locs1 : List Loc), I b1 b2 b3 b4 H1 → (∀ q ∈ locs1, A q.base) → (0 ≤ μ b1 b2 b3 b4 ∧ μ b1 b2 b3 b4 < μ a1 a2 a3 a4) → ∀ ls : Array Slot, lv_has ls nL (L b1 b2 b3 b4) → W p l e R s m args below meth c H1 locs1 (C b1 b2 b3 b4) (D b1 b2 b3 b4) Q (F0 m pc ls st0)) → ∀ ls : Array Slot, lv_has ls nL (L a1 a2 a3 a4) → W p l e R s m args below meth c H locs (C a1 a2 a3 a4) (D a1 a2 a3 a4) Q (F0 m pc ls st0)) : W p l e R s m args below meth c H locs (C a1 a2 a3 a4) (D a1 a2 a3 a4) Q (F0 m pc ls st0) := by
  have key : ∀ (n : Nat) (a1 : A1) (a2 : A2) (a3 : A3) (a4 : A4) (H : Heap) (locs : List Loc), I a1 a2 a3 a4 H → (∀ q ∈ locs, A q.base) → (μ a1 a2 a3 a4).toNat < n → ∀ ls : Array Slot, lv_has ls nL (L a1 a2 a3 a4) → W p l e R s m args below meth c H locs (C a1 a2 a3 a4) (D a1 a2 a3 a4) Q (F0 m pc ls st0) := by
    intro n
    induction n with
    | zero => intro a1 a2 a3 a4 H locs _ _ h; exact absurd h (Nat.not_lt_zero _)
    | succ n ih => exact fun a1 a2 a3 a4 H locs hI hA hm => hs a1 a2 a3 a4 H locs hI hA (fun b1 b2 b3 b4 H1 locs1 hJ hA1 hc => ih b1 b2 b3 b4 H1 locs1 hJ hA1 (by omega))
  exact key _ a1 a2 a3 a4 H locs h0 hL (Nat.lt_succ_self _) ls hl
theorem z_loop5 {A1 A2 A3 A4 A5 : Type} {nL : Nat} (L : A1 → A2 → A3 → A4 → A5 → List (Nat × Value)) (I : A1 → A2 → A3 → A4 → A5 → Prop) (μ : A1 → A2 → A3 → A4 → A5 → Int) {a1 : A1} {a2 : A2} {a3 : A3} {a4 : A4} {a5 : A5} (h0 : I a1 a2 a3 a4 a5) (hl : lv_has ls nL (L a1 a2 a3 a4 a5)) (hs : ∀ (a1 : A1) (a2 : A2) (a3 : A3) (a4 : A4) (a5 : A5), I a1 a2 a3 a4 a5 → (∀ (b1 : A1) (b2 : A2) (b3 : A3) (b4 : A4) (b5 : A5), I b1 b2 b3 b4 b5 → (0 ≤ μ b1 b2 b3 b4 b5 ∧ μ b1 b2 b3 b4 b5 < μ a1 a2 a3 a4 a5) → ∀ ls : Array Slot, lv_has ls nL (L b1 b2 b3 b4 b5) → W p l e R s m args below meth c H locs cells slots Q (F0 m pc ls st0)) → ∀ ls : Array Slot, lv_has ls nL (L a1 a2 a3 a4 a5) → W p l e R s m args below meth c H locs cells slots Q (F0 m pc ls st0)) : W p l e R s m args below meth c H locs cells slots Q (F0 m pc ls st0) := by
  have key : ∀ (n : Nat) (a1 : A1) (a2 : A2) (a3 : A3) (a4 : A4) (a5 : A5), I a1 a2 a3 a4 a5 → (μ a1 a2 a3 a4 a5).toNat < n → ∀ ls : Array Slot, lv_has ls nL (L a1 a2 a3 a4 a5) → W p l e R s m args below meth c H locs cells slots Q (F0 m pc ls st0) := by
    intro n
    induction n with
    | zero => intro a1 a2 a3 a4 a5 _ h; exact absurd h (Nat.not_lt_zero _)
    | succ n ih => exact fun a1 a2 a3 a4 a5 hI hm => hs a1 a2 a3 a4 a5 hI (fun b1 b2 b3 b4 b5 hJ hc => ih b1 b2 b3 b4 b5 hJ (by omega))
  exact key _ a1 a2 a3 a4 a5 h0 (Nat.lt_succ_self _) ls hl
theorem z_loopH5 {A1 A2 A3 A4 A5 : Type} {nL : Nat} {A : Nat → Prop} (L : A1 → A2 → A3 → A4 → A5 → List (Nat × Value)) (I : A1 → A2 → A3 → A4 → A5 → Heap → Prop) (μ : A1 → A2 → A3 → A4 → A5 → Int) (C D : A1 → A2 → A3 → A4 → A5 → Nat) {a1 : A1} {a2 : A2} {a3 : A3} {a4 : A4} {a5 : A5} (h0 : I a1 a2 a3 a4 a5 H) (hL : ∀ q ∈ locs, A q.base) (hl : lv_has ls nL (L a1 a2 a3 a4 a5)) (hs : ∀ (a1 : A1) (a2 : A2) (a3 : A3) (a4 : A4) (a5 : A5) (H : Heap) (locs : List Loc), I a1 a2 a3 a4 a5 H → (∀ q ∈ locs, A q.base) → (∀ (b1 : A1) (b2 : A2) (b3 : A3) (b4 : A4) (b5 : A5) (H1 : Heap) (locs1 : List Loc), I b1 b2 b3 b4 b5 H1 → (∀ q ∈ locs1, A q.base) → (0 ≤ μ b1 b2 b3 b4 b5 ∧ μ b1 b2 b3 b4 b5 < μ a1 a2 a3 a4 a5) → ∀ ls : Array Slot, lv_has ls nL (L b1 b2 b3 b4 b5) → W p l e R s m args below meth c H1 locs1 (C b1 b2 b3 b4 b5) (D b1 b2 b3 b4 b5) Q (F0 m pc ls st0)) → ∀ ls : Array Slot, lv_has ls nL (L a1 a2 a3 a4 a5) → W p l e R s m args below meth c H locs (C a1 a2 a3 a4 a5) (D a1 a2 a3 a4 a5) Q (F0 m pc ls st0)) : W p l e R s m args below meth c H locs (C a1 a2 a3 a4 a5) (D a1 a2 a3 a4 a5) Q (F0 m pc ls st0) := by
  have key : ∀ (n : Nat) (a1 : A1) (a2 : A2) (a3 : A3) (a4 : A4) (a5 : A5) (H : Heap) (locs : List Loc), I a1 a2 a3 a4 a5 H → (∀ q ∈ locs, A q.base) → (μ a1 a2 a3 a4 a5).toNat < n → ∀ ls : Array Slot, lv_has ls nL (L a1 a2 a3 a4 a5) → W p l e R s m args below meth c H locs (C a1 a2 a3 a4 a5) (D a1 a2 a3 a4 a5) Q (F0 m pc ls st0) := by
    intro n
    induction n with
    | zero => intro a1 a2 a3 a4 a5 H locs _ _ h; exact absurd h (Nat.not_lt_zero _)
    | succ n ih => exact fun a1 a2 a3 a4 a5 H locs hI hA hm => hs a1 a2 a3 a4 a5 H locs hI hA (fun b1 b2 b3 b4 b5 H1 locs1 hJ hA1 hc => ih b1 b2 b3 b4 b5 H1 locs1 hJ hA1 (by omega))
  exact key _ a1 a2 a3 a4 a5 H locs h0 hL (Nat.lt_succ_self _) ls hl
theorem z_loop6 {A1 A2 A3 A4 A5 A6 : Type} {nL : Nat} (L : A1 → A2 → A3 → A4 → A5 → A6 → List (Nat × Value)) (I : A1 → A2 → A3 → A4 → A5 → A6 → Prop) (μ : A1 → A2 → A3 → A4 → A5 → A6 → Int) {a1 : A1} {a2 : A2} {a3 : A3} {a4 : A4} {a5 : A5} {a6 : A6} (h0 : I a1 a2 a3 a4 a5 a6) (hl : lv_has ls nL (L a1 a2 a3 a4 a5 a6)) (hs : ∀ (a1 : A1) (a2 : A2) (a3 : A3) (a4 : A4) (a5 : A5) (a6 : A6), I a1 a2 a3 a4 a5 a6 → (∀ (b1 : A1) (b2 : A2) (b3 : A3) (b4 : A4) (b5 : A5) (b6 : A6), I b1 b2 b3 b4 b5 b6 → (0 ≤ μ b1 b2 b3 b4 b5 b6 ∧ μ b1 b2 b3 b4 b5 b6 < μ a1 a2 a3 a4 a5 a6) → ∀ ls : Array Slot, lv_has ls nL (L b1 b2 b3 b4 b5 b6) → W p l e R s m args below meth c H locs cells slots Q (F0 m pc ls st0)) → ∀ ls : Array Slot, lv_has ls nL (L a1 a2 a3 a4 a5 a6) → W p l e R s m args below meth c H locs cells slots Q (F0 m pc ls st0)) : W p l e R s m args below meth c H locs cells slots Q (F0 m pc ls st0) := by
  have key : ∀ (n : Nat) (a1 : A1) (a2 : A2) (a3 : A3) (a4 : A4) (a5 : A5) (a6 : A6), I a1 a2 a3 a4 a5 a6 → (μ a1 a2 a3 a4 a5 a6).toNat < n → ∀ ls : Array Slot, lv_has ls nL (L a1 a2 a3 a4 a5 a6) → W p l e R s m args below meth c H locs cells slots Q (F0 m pc ls st0) := by
    intro n
    induction n with
    | zero => intro a1 a2 a3 a4 a5 a6 _ h; exact absurd h (Nat.not_lt_zero _)
    | succ n ih => exact fun a1 a2 a3 a4 a5 a6 hI hm => hs a1 a2 a3 a4 a5 a6 hI (fun b1 b2 b3 b4 b5 b6 hJ hc => ih b1 b2 b3 b4 b5 b6 hJ (by omega))
  exact key _ a1 a2 a3 a4 a5 a6 h0 (Nat.lt_succ_self _) ls hl
theorem z_loopH6 {A1 A2 A3 A4 A5 A6 : Type} {nL : Nat} {A : Nat → Prop} (L : A1 → A2 → A3 → A4 → A5 → A6 → List (Nat × Value)) (I : A1 → A2 → A3 → A4 → A5 → A6 → Heap → Prop) (μ : A1 → A2 → A3 → A4 → A5 → A6 → Int) (C D : A1 → A2 → A3 → A4 → A5 → A6 → Nat) {a1 : A1} {a2 : A2} {a3 : A3} {a4 : A4} {a5 : A5} {a6 : A6} (h0 : I a1 a2 a3 a4 a5 a6 H) (hL : ∀ q ∈ locs, A q.base) (hl : lv_has ls nL (L a1 a2 a3 a4 a5 a6)) (hs : ∀ (a1 : A1) (a2 : A2) (a3 : A3) (a4 : A4) (a5 : A5) (a6 : A6) (H : Heap) (locs : List Loc), I a1 a2 a3 a4 a5 a6 H → (∀ q ∈ locs, A q.base) → (∀ (b1 : A1) (b2 : A2) (b3 : A3) (b4 : A4) (b5 : A5) (b6 : A6) (H1 : Heap) (locs1 : List Loc), I b1 b2 b3 b4 b5 b6 H1 → (∀ q ∈ locs1, A q.base) → (0 ≤ μ b1 b2 b3 b4 b5 b6 ∧ μ b1 b2 b3 b4 b5 b6 < μ a1 a2 a3 a4 a5 a6) → ∀ ls : Array Slot, lv_has ls nL (L b1 b2 b3 b4 b5 b6) → W p l e R s m args below meth c H1 locs1 (C b1 b2 b3 b4 b5 b6) (D b1 b2 b3 b4 b5 b6) Q (F0 m pc ls st0)) → ∀ ls : Array Slot, lv_has ls nL (L a1 a2 a3 a4 a5 a6) → W p l e R s m args below meth c H locs (C a1 a2 a3 a4 a5 a6) (D a1 a2 a3 a4 a5 a6) Q (F0 m pc ls st0)) : W p l e R s m args below meth c H locs (C a1 a2 a3 a4 a5 a6) (D a1 a2 a3 a4 a5 a6) Q (F0 m pc ls st0) := by
  have key : ∀ (n : Nat) (a1 : A1) (a2 : A2) (a3 : A3) (a4 : A4) (a5 : A5) (a6 : A6) (H : Heap) (locs : List Loc), I a1 a2 a3 a4 a5 a6 H → (∀ q ∈ locs, A q.base) → (μ a1 a2 a3 a4 a5 a6).toNat < n → ∀ ls : Array Slot, lv_has ls nL (L a1 a2 a3 a4 a5 a6) → W p l e R s m args below meth c H locs (C a1 a2 a3 a4 a5 a6) (D a1 a2 a3 a4 a5 a6) Q (F0 m pc ls st0) := by
    intro n
    induction n with
    | zero => intro a1 a2 a3 a4 a5 a6 H locs _ _ h; exact absurd h (Nat.not_lt_zero _)
    | succ n ih => exact fun a1 a2 a3 a4 a5 a6 H locs hI hA hm => hs a1 a2 a3 a4 a5 a6 H locs hI hA (fun b1 b2 b3 b4 b5 b6 H1 locs1 hJ hA1 hc => ih b1 b2 b3 b4 b5 b6 H1 locs1 hJ hA1 (by omega))
  exact key _ a1 a2 a3 a4 a5 a6 H locs h0 hL (Nat.lt_succ_self _) ls hl
theorem z_loop7 {A1 A2 A3 A4 A5 A6 A7 : Type} {nL : Nat} (L : A1 → A2 → A3 → A4 → A5 → A6 → A7 → List (Nat × Value)) (I : A1 → A2 → A3 → A4 → A5 → A6 → A7 → Prop) (μ : A1 → A2 → A3 → A4 → A5 → A6 → A7 → Int) {a1 : A1} {a2 : A2} {a3 : A3} {a4 : A4} {a5 : A5} {a6 : A6} {a7 : A7} (h0 : I a1 a2 a3 a4 a5 a6 a7) (hl : lv_has ls nL (L a1 a2 a3 a4 a5 a6 a7)) (hs : ∀ (a1 : A1) (a2 : A2) (a3 : A3) (a4 : A4) (a5 : A5) (a6 : A6) (a7 : A7), I a1 a2 a3 a4 a5 a6 a7 → (∀ (b1 : A1) (b2 : A2) (b3 : A3) (b4 : A4) (b5 : A5) (b6 : A6) (b7 : A7), I b1 b2 b3 b4 b5 b6 b7 → (0 ≤ μ b1 b2 b3 b4 b5 b6 b7 ∧ μ b1 b2 b3 b4 b5 b6 b7 < μ a1 a2 a3 a4 a5 a6 a7) → ∀ ls : Array Slot, lv_has ls nL (L b1 b2 b3 b4 b5 b6 b7) → W p l e R s m args below meth c H locs cells slots Q (F0 m pc ls st0)) → ∀ ls : Array Slot, lv_has ls nL (L a1 a2 a3 a4 a5 a6 a7) → W p l e R s m args below meth c H locs cells slots Q (F0 m pc ls st0)) : W p l e R s m args below meth c H locs cells slots Q (F0 m pc ls st0) := by
  have key : ∀ (n : Nat) (a1 : A1) (a2 : A2) (a3 : A3) (a4 : A4) (a5 : A5) (a6 : A6) (a7 : A7), I a1 a2 a3 a4 a5 a6 a7 → (μ a1 a2 a3 a4 a5 a6 a7).toNat < n → ∀ ls : Array Slot, lv_has ls nL (L a1 a2 a3 a4 a5 a6 a7) → W p l e R s m args below meth c H locs cells slots Q (F0 m pc ls st0) := by
    intro n
    induction n with
    | zero => intro a1 a2 a3 a4 a5 a6 a7 _ h; exact absurd h (Nat.not_lt_zero _)
    | succ n ih => exact fun a1 a2 a3 a4 a5 a6 a7 hI hm => hs a1 a2 a3 a4 a5 a6 a7 hI (fun b1 b2 b3 b4 b5 b6 b7 hJ hc => ih b1 b2 b3 b4 b5 b6 b7 hJ (by omega))
  exact key _ a1 a2 a3 a4 a5 a6 a7 h0 (Nat.lt_succ_self _) ls hl
theorem z_loopH7 {A1 A2 A3 A4 A5 A6 A7 : Type} {nL : Nat} {A : Nat → Prop} (L : A1 → A2 → A3 → A4 → A5 → A6 → A7 → List (Nat × Value)) (I : A1 → A2 → A3 → A4 → A5 → A6 → A7 → Heap → Prop) (μ : A1 → A2 → A3 → A4 → A5 → A6 → A7 → Int) (C D : A1 → A2 → A3 → A4 → A5 → A6 → A7 → Nat) {a1 : A1} {a2 : A2} {a3 : A3} {a4 : A4} {a5 : A5} {a6 : A6} {a7 : A7} (h0 : I a1 a2 a3 a4 a5 a6 a7 H) (hL : ∀ q ∈ locs, A q.base) (hl : lv_has ls nL (L a1 a2 a3 a4 a5 a6 a7)) (hs : ∀ (a1 : A1) (a2 : A2) (a3 : A3) (a4 : A4) (a5 : A5) (a6 : A6) (a7 : A7) (H : Heap) (locs : List Loc), I a1 a2 a3 a4 a5 a6 a7 H → (∀ q ∈ locs, A q.base) → (∀ (b1 : A1) (b2 : A2) (b3 : A3) (b4 : A4) (b5 : A5) (b6 : A6) (b7 : A7) (H1 : Heap) (locs1 : List Loc), I b1 b2 b3 b4 b5 b6 b7 H1 → (∀ q ∈ locs1, A q.base) → (0 ≤ μ b1 b2 b3 b4 b5 b6 b7 ∧ μ b1 b2 b3 b4 b5 b6 b7 < μ a1 a2 a3 a4 a5 a6 a7) → ∀ ls : Array Slot, lv_has ls nL (L b1 b2 b3 b4 b5 b6 b7) → W p l e R s m args below meth c H1 locs1 (C b1 b2 b3 b4 b5 b6 b7) (D b1 b2 b3 b4 b5 b6 b7) Q (F0 m pc ls st0)) → ∀ ls : Array Slot, lv_has ls nL (L a1 a2 a3 a4 a5 a6 a7) → W p l e R s m args below meth c H locs (C a1 a2 a3 a4 a5 a6 a7) (D a1 a2 a3 a4 a5 a6 a7) Q (F0 m pc ls st0)) : W p l e R s m args below meth c H locs (C a1 a2 a3 a4 a5 a6 a7) (D a1 a2 a3 a4 a5 a6 a7) Q (F0 m pc ls st0) := by
  have key : ∀ (n : Nat) (a1 : A1) (a2 : A2) (a3 : A3) (a4 : A4) (a5 : A5) (a6 : A6) (a7 : A7) (H : Heap) (locs : List Loc), I a1 a2 a3 a4 a5 a6 a7 H → (∀ q ∈ locs, A q.base) → (μ a1 a2 a3 a4 a5 a6 a7).toNat < n → ∀ ls : Array Slot, lv_has ls nL (L a1 a2 a3 a4 a5 a6 a7) → W p l e R s m args below meth c H locs (C a1 a2 a3 a4 a5 a6 a7) (D a1 a2 a3 a4 a5 a6 a7) Q (F0 m pc ls st0) := by
    intro n
    induction n with
    | zero => intro a1 a2 a3 a4 a5 a6 a7 H locs _ _ h; exact absurd h (Nat.not_lt_zero _)
    | succ n ih => exact fun a1 a2 a3 a4 a5 a6 a7 H locs hI hA hm => hs a1 a2 a3 a4 a5 a6 a7 H locs hI hA (fun b1 b2 b3 b4 b5 b6 b7 H1 locs1 hJ hA1 hc => ih b1 b2 b3 b4 b5 b6 b7 H1 locs1 hJ hA1 (by omega))
  exact key _ a1 a2 a3 a4 a5 a6 a7 H locs h0 hL (Nat.lt_succ_self _) ls hl
theorem z_loop8 {A1 A2 A3 A4 A5 A6 A7 A8 : Type} {nL : Nat} (L : A1 → A2 → A3 → A4 → A5 → A6 → A7 → A8 → List (Nat × Value)) (I : A1 → A2 → A3 → A4 → A5 → A6 → A7 → A8 → Prop) (μ : A1 → A2 → A3 → A4 → A5 → A6 → A7 → A8 → Int) {a1 : A1} {a2 : A2} {a3 : A3} {a4 : A4} {a5 : A5} {a6 : A6} {a7 : A7} {a8 : A8} (h0 : I a1 a2 a3 a4 a5 a6 a7 a8) (hl : lv_has ls nL (L a1 a2 a3 a4 a5 a6 a7 a8)) (hs : ∀ (a1 : A1) (a2 : A2) (a3 : A3) (a4 : A4) (a5 : A5) (a6 : A6) (a7 : A7) (a8 : A8), I a1 a2 a3 a4 a5 a6 a7 a8 → (∀ (b1 : A1) (b2 : A2) (b3 : A3) (b4 : A4) (b5 : A5) (b6 : A6) (b7 : A7) (b8 : A8), I b1 b2 b3 b4 b5 b6 b7 b8 → (0 ≤ μ b1 b2 b3 b4 b5 b6 b7 b8 ∧ μ b1 b2 b3 b4 b5 b6 b7 b8 < μ a1 a2 a3 a4 a5 a6 a7 a8) → ∀ ls : Array Slot, lv_has ls nL (L b1 b2 b3 b4 b5 b6 b7 b8) → W p l e R s m args below meth c H locs cells slots Q (F0 m pc ls st0)) → ∀ ls : Array Slot, lv_has ls nL (L a1 a2 a3 a4 a5 a6 a7 a8) → W p l e R s m args below meth c H locs cells slots Q (F0 m pc ls st0)) : W p l e R s m args below meth c H locs cells slots Q (F0 m pc ls st0) := by
  have key : ∀ (n : Nat) (a1 : A1) (a2 : A2) (a3 : A3) (a4 : A4) (a5 : A5) (a6 : A6) (a7 : A7) (a8 : A8), I a1 a2 a3 a4 a5 a6 a7 a8 → (μ a1 a2 a3 a4 a5 a6 a7 a8).toNat < n → ∀ ls : Array Slot, lv_has ls nL (L a1 a2 a3 a4 a5 a6 a7 a8) → W p l e R s m args below meth c H locs cells slots Q (F0 m pc ls st0) := by
    intro n
    induction n with
    | zero => intro a1 a2 a3 a4 a5 a6 a7 a8 _ h; exact absurd h (Nat.not_lt_zero _)
    | succ n ih => exact fun a1 a2 a3 a4 a5 a6 a7 a8 hI hm => hs a1 a2 a3 a4 a5 a6 a7 a8 hI (fun b1 b2 b3 b4 b5 b6 b7 b8 hJ hc => ih b1 b2 b3 b4 b5 b6 b7 b8 hJ (by omega))
  exact key _ a1 a2 a3 a4 a5 a6 a7 a8 h0 (Nat.lt_succ_self _) ls hl
theorem z_loopH8 {A1 A2 A3 A4 A5 A6 A7 A8 : Type} {nL : Nat} {A : Nat → Prop} (L : A1 → A2 → A3 → A4 → A5 → A6 → A7 → A8 → List (Nat × Value)) (I : A1 → A2 → A3 → A4 → A5 → A6 → A7 → A8 → Heap → Prop) (μ : A1 → A2 → A3 → A4 → A5 → A6 → A7 → A8 → Int) (C D : A1 → A2 → A3 → A4 → A5 → A6 → A7 → A8 → Nat) {a1 : A1} {a2 : A2} {a3 : A3} {a4 : A4} {a5 : A5} {a6 : A6} {a7 : A7} {a8 : A8} (h0 : I a1 a2 a3 a4 a5 a6 a7 a8 H) (hL : ∀ q ∈ locs, A q.base) (hl : lv_has ls nL (L a1 a2 a3 a4 a5 a6 a7 a8)) (hs : ∀ (a1 : A1) (a2 : A2) (a3 : A3) (a4 : A4) (a5 : A5) (a6 : A6) (a7 : A7) (a8 : A8) (H : Heap) (locs : List Loc), I a1 a2 a3 a4 a5 a6 a7 a8 H → (∀ q ∈ locs, A q.base) → (∀ (b1 : A1) (b2 : A2) (b3 : A3) (b4 : A4) (b5 : A5) (b6 : A6) (b7 : A7) (b8 : A8) (H1 : Heap) (locs1 : List Loc), I b1 b2 b3 b4 b5 b6 b7 b8 H1 → (∀ q ∈ locs1, A q.base) → (0 ≤ μ b1 b2 b3 b4 b5 b6 b7 b8 ∧ μ b1 b2 b3 b4 b5 b6 b7 b8 < μ a1 a2 a3 a4 a5 a6 a7 a8) → ∀ ls : Array Slot, lv_has ls nL (L b1 b2 b3 b4 b5 b6 b7 b8) → W p l e R s m args below meth c H1 locs1 (C b1 b2 b3 b4 b5 b6 b7 b8) (D b1 b2 b3 b4 b5 b6 b7 b8) Q (F0 m pc ls st0)) → ∀ ls : Array Slot, lv_has ls nL (L a1 a2 a3 a4 a5 a6 a7 a8) → W p l e R s m args below meth c H locs (C a1 a2 a3 a4 a5 a6 a7 a8) (D a1 a2 a3 a4 a5 a6 a7 a8) Q (F0 m pc ls st0)) : W p l e R s m args below meth c H locs (C a1 a2 a3 a4 a5 a6 a7 a8) (D a1 a2 a3 a4 a5 a6 a7 a8) Q (F0 m pc ls st0) := by
  have key : ∀ (n : Nat) (a1 : A1) (a2 : A2) (a3 : A3) (a4 : A4) (a5 : A5) (a6 : A6) (a7 : A7) (a8 : A8) (H : Heap) (locs : List Loc), I a1 a2 a3 a4 a5 a6 a7 a8 H → (∀ q ∈ locs, A q.base) → (μ a1 a2 a3 a4 a5 a6 a7 a8).toNat < n → ∀ ls : Array Slot, lv_has ls nL (L a1 a2 a3 a4 a5 a6 a7 a8) → W p l e R s m args below meth c H locs (C a1 a2 a3 a4 a5 a6 a7 a8) (D a1 a2 a3 a4 a5 a6 a7 a8) Q (F0 m pc ls st0) := by
    intro n
    induction n with
    | zero => intro a1 a2 a3 a4 a5 a6 a7 a8 H locs _ _ h; exact absurd h (Nat.not_lt_zero _)
    | succ n ih => exact fun a1 a2 a3 a4 a5 a6 a7 a8 H locs hI hA hm => hs a1 a2 a3 a4 a5 a6 a7 a8 H locs hI hA (fun b1 b2 b3 b4 b5 b6 b7 b8 H1 locs1 hJ hA1 hc => ih b1 b2 b3 b4 b5 b6 b7 b8 H1 locs1 hJ hA1 (by omega))
  exact key _ a1 a2 a3 a4 a5 a6 a7 a8 H locs h0 hL (Nat.lt_succ_self _) ls hl
end ZC
end
